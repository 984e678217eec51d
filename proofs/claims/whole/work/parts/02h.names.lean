theorem dX9_loose_22 : decode cX9_loose 22 = .ok (.iaload, 1) := by decide +kernel
theorem dX9_loose_23 : decode cX9_loose 23 = .ok (.iload_n 1, 1) := by decide +kernel
theorem dX9_loose_24 : decode cX9_loose 24 = .ok (.iadd, 1) := by decide +kernel
theorem dX9_loose_25 : decode cX9_loose 25 = .ok (.sipush 9999, 3) := by decide +kernel
theorem dX9_loose_28 : decode cX9_loose 28 = .ok (.if_icmp .le 10, 3) := by decide +kernel
theorem dX9_loose_31 : decode cX9_loose 31 = .ok (.aload_n 0, 1) := by decide +kernel
theorem dX9_loose_32 : decode cX9_loose 32 = .ok (.ldc 63, 2) := by decide +kernel
theorem dX9_loose_34 : decode cX9_loose 34 = .ok (.invokevirtual 59, 3) := by decide +kernel
theorem dX9_loose_37 : decode cX9_loose 37 = .ok (.ireturn, 1) := by decide +kernel
theorem dX9_loose_38 : decode cX9_loose 38 = .ok (.iconst 0, 1) := by decide +kernel
theorem dX9_loose_39 : decode cX9_loose 39 = .ok (.istore_n 2, 1) := by decide +kernel
theorem dX9_loose_40 : decode cX9_loose 40 = .ok (.iload_n 2, 1) := by decide +kernel
theorem dX9_loose_41 : decode cX9_loose 41 = .ok (.iload_n 1, 1) := by decide +kernel
theorem dX9_loose_42 : decode cX9_loose 42 = .ok (.if_icmp .ge 48, 3) := by decide +kernel
theorem dX9_loose_45 : decode cX9_loose 45 = .ok (.aload_n 0, 1) := by decide +kernel
theorem dX9_loose_46 : decode cX9_loose 46 = .ok (.getfield 7, 3) := by decide +kernel
theorem dX9_loose_49 : decode cX9_loose 49 = .ok (.bipush 8, 2) := by decide +kernel
theorem dX9_loose_51 : decode cX9_loose 51 = .ok (.iaload, 1) := by decide +kernel
theorem dX9_loose_52 : decode cX9_loose 52 = .ok (.ifCond .le 28, 3) := by decide +kernel
theorem dX9_loose_55 : decode cX9_loose 55 = .ok (.aload_n 0, 1) := by decide +kernel
theorem dX9_loose_56 : decode cX9_loose 56 = .ok (.aload_n 0, 1) := by decide +kernel
theorem dX9_loose_57 : decode cX9_loose 57 = .ok (.getfield 7, 3) := by decide +kernel
theorem dX9_loose_60 : decode cX9_loose 60 = .ok (.bipush 8, 2) := by decide +kernel
theorem dX9_loose_62 : decode cX9_loose 62 = .ok (.iaload, 1) := by decide +kernel
theorem dX9_loose_63 : decode cX9_loose 63 = .ok (.invokevirtual 200, 3) := by decide +kernel
theorem dX9_loose_66 : decode cX9_loose 66 = .ok (.istore_n 3, 1) := by decide +kernel
theorem dX9_loose_67 : decode cX9_loose 67 = .ok (.aload_n 0, 1) := by decide +kernel
theorem dX9_loose_68 : decode cX9_loose 68 = .ok (.iload_n 3, 1) := by decide +kernel
theorem dX9_loose_69 : decode cX9_loose 69 = .ok (.iconst 3, 1) := by decide +kernel
theorem dX9_loose_70 : decode cX9_loose 70 = .ok (.aload_n 0, 1) := by decide +kernel
theorem dX9_loose_71 : decode cX9_loose 71 = .ok (.iconst 3, 1) := by decide +kernel
theorem dX9_loose_72 : decode cX9_loose 72 = .ok (.invokevirtual 200, 3) := by decide +kernel
theorem dX9_loose_75 : decode cX9_loose 75 = .ok (.iconst 1, 1) := by decide +kernel
theorem dX9_loose_76 : decode cX9_loose 76 = .ok (.isub, 1) := by decide +kernel
theorem dX9_loose_77 : decode cX9_loose 77 = .ok (.invokevirtual 90, 3) := by decide +kernel
theorem dX9_loose_80 : decode cX9_loose 80 = .ok (.aload_n 0, 1) := by decide +kernel
theorem dX9_loose_81 : decode cX9_loose 81 = .ok (.invokevirtual 190, 3) := by decide +kernel
theorem dX9_loose_84 : decode cX9_loose 84 = .ok (.iinc 2 1, 3) := by decide +kernel
theorem dX9_loose_87 : decode cX9_loose 87 = .ok (.goto (-47), 3) := by decide +kernel
theorem dX9_loose_90 : decode cX9_loose 90 = .ok (.aload_n 0, 1) := by decide +kernel
theorem dX9_loose_91 : decode cX9_loose 91 = .ok (.invokevirtual 196, 3) := by decide +kernel
theorem dX9_loose_94 : decode cX9_loose 94 = .ok (.ireturn, 1) := by decide +kernel
set_option maxRecDepth 20000 in
theorem ggX9_evening_X9_has : GoodIn wsX9_evening wsX9_has := goodIn_r _ [6] (by decide +kernel) (by decide +kernel)
set_option maxRecDepth 20000 in
theorem gX9_evening_X9_has : GoodIn wsX9_evening (va_wsS RX9 76 yX9_has wsX9_has) := goodIn_app (goodIn_of _ (by decide +kernel)) ggX9_evening_X9_has
set_option maxRecDepth 20000 in
theorem ggX9_evening_X9_held : GoodIn wsX9_evening wsX9_held := goodIn_r _ [9] (by decide +kernel) (by decide +kernel)
set_option maxRecDepth 20000 in
theorem gX9_evening_X9_held : GoodIn wsX9_evening (va_wsS RX9 173 yX9_held wsX9_held) := goodIn_app (goodIn_of _ (by decide +kernel)) ggX9_evening_X9_held
set_option maxRecDepth 20000 in
theorem ggX9_evening_X9_grains : GoodIn wsX9_evening wsX9_grains := goodIn_r _ [13, 1, 14, 15, 16, 17, 18, 19, 20, 21, 22, 23, 24, 25, 26, 27, 28, 29, 30, 31, 32, 33, 34, 35, 36, 37, 38, 39, 40, 41] (by decide +kernel) (by decide +kernel)
set_option maxRecDepth 20000 in
theorem gX9_evening_X9_grains : GoodIn wsX9_evening (wsV RX9 196 RX9 yX9_grains wsX9_grains) := goodIn_app (goodIn_of _ (by decide +kernel)) ggX9_evening_X9_grains
theorem dX9_evening_0 : decode cX9_evening 0 = .ok (.iconst 0, 1) := by decide +kernel
theorem dX9_evening_1 : decode cX9_evening 1 = .ok (.istore_n 1, 1) := by decide +kernel
theorem dX9_evening_2 : decode cX9_evening 2 = .ok (.iload_n 1, 1) := by decide +kernel
theorem dX9_evening_3 : decode cX9_evening 3 = .ok (.aload_n 0, 1) := by decide +kernel
theorem dX9_evening_4 : decode cX9_evening 4 = .ok (.getfield 7, 3) := by decide +kernel
theorem dX9_evening_7 : decode cX9_evening 7 = .ok (.iconst 3, 1) := by decide +kernel
theorem dX9_evening_8 : decode cX9_evening 8 = .ok (.iaload, 1) := by decide +kernel
theorem dX9_evening_9 : decode cX9_evening 9 = .ok (.iconst 1, 1) := by decide +kernel
theorem dX9_evening_10 : decode cX9_evening 10 = .ok (.isub, 1) := by decide +kernel
theorem dX9_evening_11 : decode cX9_evening 11 = .ok (.if_icmp .ge 86, 3) := by decide +kernel
theorem dX9_evening_14 : decode cX9_evening 14 = .ok (.aload_n 0, 1) := by decide +kernel
theorem dX9_evening_15 : decode cX9_evening 15 = .ok (.getfield 7, 3) := by decide +kernel
theorem dX9_evening_18 : decode cX9_evening 18 = .ok (.bipush 10, 2) := by decide +kernel
theorem dX9_evening_20 : decode cX9_evening 20 = .ok (.iaload, 1) := by decide +kernel
theorem dX9_evening_21 : decode cX9_evening 21 = .ok (.iload_n 1, 1) := by decide +kernel
theorem dX9_evening_22 : decode cX9_evening 22 = .ok (.invokestatic 76, 3) := by decide +kernel
theorem dX9_evening_25 : decode cX9_evening 25 = .ok (.ifCond .eq 66, 3) := by decide +kernel
theorem dX9_evening_28 : decode cX9_evening 28 = .ok (.aload_n 0, 1) := by decide +kernel
theorem dX9_evening_29 : decode cX9_evening 29 = .ok (.getfield 7, 3) := by decide +kernel
theorem dX9_evening_32 : decode cX9_evening 32 = .ok (.bipush 12, 2) := by decide +kernel
theorem dX9_evening_34 : decode cX9_evening 34 = .ok (.iload_n 1, 1) := by decide +kernel
theorem dX9_evening_35 : decode cX9_evening 35 = .ok (.iadd, 1) := by decide +kernel
theorem dX9_evening_36 : decode cX9_evening 36 = .ok (.iaload, 1) := by decide +kernel
theorem dX9_evening_37 : decode cX9_evening 37 = .ok (.bipush 9, 2) := by decide +kernel
theorem dX9_evening_39 : decode cX9_evening 39 = .ok (.irem, 1) := by decide +kernel
theorem dX9_evening_40 : decode cX9_evening 40 = .ok (.istore_n 2, 1) := by decide +kernel
theorem dX9_evening_41 : decode cX9_evening 41 = .ok (.aload_n 0, 1) := by decide +kernel
theorem dX9_evening_42 : decode cX9_evening 42 = .ok (.getfield 7, 3) := by decide +kernel
theorem dX9_evening_45 : decode cX9_evening 45 = .ok (.bipush 12, 2) := by decide +kernel
theorem dX9_evening_47 : decode cX9_evening 47 = .ok (.iload_n 1, 1) := by decide +kernel
theorem dX9_evening_48 : decode cX9_evening 48 = .ok (.iadd, 1) := by decide +kernel
theorem dX9_evening_49 : decode cX9_evening 49 = .ok (.iconst 1, 1) := by decide +kernel
theorem dX9_evening_50 : decode cX9_evening 50 = .ok (.iadd, 1) := by decide +kernel
theorem dX9_evening_51 : decode cX9_evening 51 = .ok (.aload_n 0, 1) := by decide +kernel
theorem dX9_evening_52 : decode cX9_evening 52 = .ok (.getfield 7, 3) := by decide +kernel
theorem dX9_evening_55 : decode cX9_evening 55 = .ok (.bipush 12, 2) := by decide +kernel
theorem dX9_evening_57 : decode cX9_evening 57 = .ok (.iload_n 1, 1) := by decide +kernel
theorem dX9_evening_58 : decode cX9_evening 58 = .ok (.iadd, 1) := by decide +kernel
theorem dX9_evening_59 : decode cX9_evening 59 = .ok (.iconst 1, 1) := by decide +kernel
theorem dX9_evening_60 : decode cX9_evening 60 = .ok (.iadd, 1) := by decide +kernel
theorem dX9_evening_61 : decode cX9_evening 61 = .ok (.iaload, 1) := by decide +kernel
theorem dX9_evening_62 : decode cX9_evening 62 = .ok (.aload_n 0, 1) := by decide +kernel
theorem dX9_evening_63 : decode cX9_evening 63 = .ok (.getfield 7, 3) := by decide +kernel
theorem dX9_evening_66 : decode cX9_evening 66 = .ok (.bipush 12, 2) := by decide +kernel
theorem dX9_evening_68 : decode cX9_evening 68 = .ok (.iload_n 1, 1) := by decide +kernel
theorem dX9_evening_69 : decode cX9_evening 69 = .ok (.iadd, 1) := by decide +kernel
theorem dX9_evening_70 : decode cX9_evening 70 = .ok (.iaload, 1) := by decide +kernel
theorem dX9_evening_71 : decode cX9_evening 71 = .ok (.iadd, 1) := by decide +kernel
theorem dX9_evening_72 : decode cX9_evening 72 = .ok (.iload_n 2, 1) := by decide +kernel
theorem dX9_evening_73 : decode cX9_evening 73 = .ok (.isub, 1) := by decide +kernel
theorem dX9_evening_74 : decode cX9_evening 74 = .ok (.iconst 0, 1) := by decide +kernel
theorem dX9_evening_75 : decode cX9_evening 75 = .ok (.ldc 72, 2) := by decide +kernel
theorem dX9_evening_77 : decode cX9_evening 77 = .ok (.invokestatic 173, 3) := by decide +kernel
theorem dX9_evening_80 : decode cX9_evening 80 = .ok (.iastore, 1) := by decide +kernel
theorem dX9_evening_81 : decode cX9_evening 81 = .ok (.aload_n 0, 1) := by decide +kernel
theorem dX9_evening_82 : decode cX9_evening 82 = .ok (.getfield 7, 3) := by decide +kernel
theorem dX9_evening_85 : decode cX9_evening 85 = .ok (.bipush 12, 2) := by decide +kernel
theorem dX9_evening_87 : decode cX9_evening 87 = .ok (.iload_n 1, 1) := by decide +kernel
theorem dX9_evening_88 : decode cX9_evening 88 = .ok (.iadd, 1) := by decide +kernel
theorem dX9_evening_89 : decode cX9_evening 89 = .ok (.iload_n 2, 1) := by decide +kernel
theorem dX9_evening_90 : decode cX9_evening 90 = .ok (.iastore, 1) := by decide +kernel
theorem dX9_evening_91 : decode cX9_evening 91 = .ok (.iinc 1 1, 3) := by decide +kernel
theorem dX9_evening_94 : decode cX9_evening 94 = .ok (.goto (-92), 3) := by decide +kernel
theorem dX9_evening_97 : decode cX9_evening 97 = .ok (.aload_n 0, 1) := by decide +kernel
theorem dX9_evening_98 : decode cX9_evening 98 = .ok (.invokevirtual 196, 3) := by decide +kernel
theorem dX9_evening_101 : decode cX9_evening 101 = .ok (.ireturn, 1) := by decide +kernel
set_option maxRecDepth 20000 in
theorem ggX9_hail_X9_in : GoodIn wsX9_hail wsX9_in := goodIn_r _ [6] (by decide +kernel) (by decide +kernel)
set_option maxRecDepth 20000 in
theorem gX9_hail_X9_in : GoodIn wsX9_hail (va_wsS RX9 54 yX9_in wsX9_in) := goodIn_app (goodIn_of _ (by decide +kernel)) ggX9_hail_X9_in
set_option maxRecDepth 20000 in
theorem ggX9_hail_X9_errs : GoodIn wsX9_hail wsX9_errs := goodIn_r _ [10, 11, 12, 17, 18, 19, 20, 21, 22, 23, 24, 25, 26, 27, 28, 29, 30, 31, 32, 33, 34, 35, 36, 37, 38, 39, 40, 41, 42, 43, 44] (by decide +kernel) (by decide +kernel)
set_option maxRecDepth 20000 in
theorem gX9_hail_X9_errs : GoodIn wsX9_hail (wsV RX9 59 RX9 yX9_errs wsX9_errs) := goodIn_app (goodIn_of _ (by decide +kernel)) ggX9_hail_X9_errs
set_option maxRecDepth 20000 in
theorem ggX9_hail_X9_grains : GoodIn wsX9_hail wsX9_grains := goodIn_r _ [16, 2, 17, 18, 19, 20, 21, 22, 23, 24, 25, 26, 27, 28, 29, 30, 31, 32, 33, 34, 35, 36, 37, 38, 39, 40, 41, 42, 43, 44] (by decide +kernel) (by decide +kernel)
set_option maxRecDepth 20000 in
theorem gX9_hail_X9_grains : GoodIn wsX9_hail (wsV RX9 196 RX9 yX9_grains wsX9_grains) := goodIn_app (goodIn_of _ (by decide +kernel)) ggX9_hail_X9_grains
theorem dX9_hail_0 : decode cX9_hail 0 = .ok (.iload_n 1, 1) := by decide +kernel
theorem dX9_hail_1 : decode cX9_hail 1 = .ok (.iconst 2, 1) := by decide +kernel
theorem dX9_hail_2 : decode cX9_hail 2 = .ok (.bipush 9, 2) := by decide +kernel
theorem dX9_hail_4 : decode cX9_hail 4 = .ok (.invokestatic 54, 3) := by decide +kernel
theorem dX9_hail_7 : decode cX9_hail 7 = .ok (.ifCond .ne 10, 3) := by decide +kernel
theorem dX9_hail_10 : decode cX9_hail 10 = .ok (.aload_n 0, 1) := by decide +kernel
theorem dX9_hail_11 : decode cX9_hail 11 = .ok (.ldc 58, 2) := by decide +kernel
theorem dX9_hail_13 : decode cX9_hail 13 = .ok (.invokevirtual 59, 3) := by decide +kernel
theorem dX9_hail_16 : decode cX9_hail 16 = .ok (.ireturn, 1) := by decide +kernel
theorem dX9_hail_17 : decode cX9_hail 17 = .ok (.iconst 0, 1) := by decide +kernel
theorem dX9_hail_18 : decode cX9_hail 18 = .ok (.istore_n 2, 1) := by decide +kernel
theorem dX9_hail_19 : decode cX9_hail 19 = .ok (.iload_n 2, 1) := by decide +kernel
theorem dX9_hail_20 : decode cX9_hail 20 = .ok (.aload_n 0, 1) := by decide +kernel
theorem dX9_hail_21 : decode cX9_hail 21 = .ok (.getfield 7, 3) := by decide +kernel
theorem dX9_hail_24 : decode cX9_hail 24 = .ok (.iconst 3, 1) := by decide +kernel
theorem dX9_hail_25 : decode cX9_hail 25 = .ok (.iaload, 1) := by decide +kernel
theorem dX9_hail_26 : decode cX9_hail 26 = .ok (.if_icmp .ge 22, 3) := by decide +kernel
theorem dX9_hail_29 : decode cX9_hail 29 = .ok (.aload_n 0, 1) := by decide +kernel
theorem dX9_hail_30 : decode cX9_hail 30 = .ok (.getfield 7, 3) := by decide +kernel
theorem dX9_hail_33 : decode cX9_hail 33 = .ok (.bipush 12, 2) := by decide +kernel
theorem dX9_hail_35 : decode cX9_hail 35 = .ok (.iload_n 2, 1) := by decide +kernel
theorem dX9_hail_36 : decode cX9_hail 36 = .ok (.iadd, 1) := by decide +kernel
theorem dX9_hail_37 : decode cX9_hail 37 = .ok (.dup2, 1) := by decide +kernel
theorem dX9_hail_38 : decode cX9_hail 38 = .ok (.iaload, 1) := by decide +kernel
theorem dX9_hail_39 : decode cX9_hail 39 = .ok (.iload_n 1, 1) := by decide +kernel
theorem dX9_hail_40 : decode cX9_hail 40 = .ok (.idiv, 1) := by decide +kernel
theorem dX9_hail_41 : decode cX9_hail 41 = .ok (.iastore, 1) := by decide +kernel
theorem dX9_hail_42 : decode cX9_hail 42 = .ok (.iinc 2 1, 3) := by decide +kernel
theorem dX9_hail_45 : decode cX9_hail 45 = .ok (.goto (-26), 3) := by decide +kernel
theorem dX9_hail_48 : decode cX9_hail 48 = .ok (.aload_n 0, 1) := by decide +kernel
theorem dX9_hail_49 : decode cX9_hail 49 = .ok (.invokevirtual 196, 3) := by decide +kernel
theorem dX9_hail_52 : decode cX9_hail 52 = .ok (.ireturn, 1) := by decide +kernel
set_option maxRecDepth 20000 in
theorem ggX9_then_X9_in : GoodIn wsX9_then wsX9_in := goodIn_r _ [7] (by decide +kernel) (by decide +kernel)
set_option maxRecDepth 20000 in
theorem gX9_then_X9_in : GoodIn wsX9_then (va_wsS RX9 54 yX9_in wsX9_in) := goodIn_app (goodIn_of _ (by decide +kernel)) ggX9_then_X9_in
set_option maxRecDepth 20000 in
theorem ggX9_then_X9_errs : GoodIn wsX9_then wsX9_errs := goodIn_r _ [11, 12, 13, 126, 127, 128, 129, 130, 131, 132, 133, 134, 135, 136, 137, 138, 139, 140, 141, 142, 143, 144, 145, 146, 147, 148, 149, 150, 151, 152, 153] (by decide +kernel) (by decide +kernel)
set_option maxRecDepth 20000 in
theorem gX9_then_X9_errs : GoodIn wsX9_then (wsV RX9 59 RX9 yX9_errs wsX9_errs) := goodIn_app (goodIn_of _ (by decide +kernel)) ggX9_then_X9_errs
set_option maxRecDepth 20000 in
theorem ggX9_then_X9_moveAll : GoodIn wsX9_then wsX9_moveAll := goodIn_r _ [17] (by decide +kernel) (by decide +kernel)
set_option maxRecDepth 20000 in
theorem gX9_then_X9_moveAll : GoodIn wsX9_then (wsV RX9 182 RX9 yX9_moveAll wsX9_moveAll) := goodIn_app (goodIn_of _ (by decide +kernel)) ggX9_then_X9_moveAll
set_option maxRecDepth 20000 in
theorem ggX9_then_X9_passes : GoodIn wsX9_then wsX9_passes := goodIn_r _ [21, 22, 23, 24, 6, 25, 1, 26, 27, 28, 29, 30, 31, 32, 33, 34, 35, 36, 37, 38, 39, 40, 41, 42, 43, 44, 45, 46, 47, 48, 49, 50, 51, 52, 53, 54, 55, 56, 57, 58, 59, 60, 61, 62, 63, 64, 65, 66, 67, 68, 69, 70, 71, 72, 73, 74, 75, 76, 77, 78, 79, 4, 5, 7, 80, 81, 82, 83, 84, 85, 86, 87, 88, 89, 90, 91, 92, 93, 94, 95, 96, 97, 98, 99, 100, 101, 102, 103, 104, 105, 106, 107, 108, 109, 110, 111, 112, 113, 114, 115, 116, 117, 118, 119, 120, 121, 122, 123, 124, 125, 126, 127, 128, 129, 130, 131, 132, 133, 134, 135, 136, 137, 138, 139, 140, 141, 142, 143, 144, 145, 146, 147, 148, 149, 150, 151, 152, 153] (by decide +kernel) (by decide +kernel)
set_option maxRecDepth 20000 in
theorem gX9_then_X9_passes : GoodIn wsX9_then (wsV RX9 193 RX9 yX9_passes wsX9_passes) := goodIn_app (goodIn_of _ (by decide +kernel)) ggX9_then_X9_passes
theorem dX9_then_0 : decode cX9_then 0 = .ok (.iload_n 1, 1) := by decide +kernel
theorem dX9_then_1 : decode cX9_then 1 = .ok (.iconst 0, 1) := by decide +kernel
theorem dX9_then_2 : decode cX9_then 2 = .ok (.bipush 50, 2) := by decide +kernel
theorem dX9_then_4 : decode cX9_then 4 = .ok (.invokestatic 54, 3) := by decide +kernel
theorem dX9_then_7 : decode cX9_then 7 = .ok (.ifCond .eq 19, 3) := by decide +kernel
theorem dX9_then_10 : decode cX9_then 10 = .ok (.iload_n 2, 1) := by decide +kernel
theorem dX9_then_11 : decode cX9_then 11 = .ok (.iconst (-1), 1) := by decide +kernel
theorem dX9_then_12 : decode cX9_then 12 = .ok (.aload_n 0, 1) := by decide +kernel
theorem dX9_then_13 : decode cX9_then 13 = .ok (.getfield 7, 3) := by decide +kernel
theorem dX9_then_16 : decode cX9_then 16 = .ok (.iconst 3, 1) := by decide +kernel
theorem dX9_then_17 : decode cX9_then 17 = .ok (.iaload, 1) := by decide +kernel
theorem dX9_then_18 : decode cX9_then 18 = .ok (.iconst 1, 1) := by decide +kernel
theorem dX9_then_19 : decode cX9_then 19 = .ok (.isub, 1) := by decide +kernel
theorem dX9_then_20 : decode cX9_then 20 = .ok (.invokestatic 54, 3) := by decide +kernel
theorem dX9_then_23 : decode cX9_then 23 = .ok (.ifCond .ne 10, 3) := by decide +kernel
theorem dX9_then_26 : decode cX9_then 26 = .ok (.aload_n 0, 1) := by decide +kernel
theorem dX9_then_27 : decode cX9_then 27 = .ok (.ldc 58, 2) := by decide +kernel
theorem dX9_then_29 : decode cX9_then 29 = .ok (.invokevirtual 59, 3) := by decide +kernel
theorem dX9_then_32 : decode cX9_then 32 = .ok (.ireturn, 1) := by decide +kernel
theorem dX9_then_33 : decode cX9_then 33 = .ok (.aload_n 0, 1) := by decide +kernel
theorem dX9_then_34 : decode cX9_then 34 = .ok (.aload_n 0, 1) := by decide +kernel
theorem dX9_then_35 : decode cX9_then 35 = .ok (.getfield 7, 3) := by decide +kernel
theorem dX9_then_38 : decode cX9_then 38 = .ok (.aload_n 0, 1) := by decide +kernel
theorem dX9_then_39 : decode cX9_then 39 = .ok (.getfield 16, 3) := by decide +kernel
theorem dX9_then_42 : decode cX9_then 42 = .ok (.invokevirtual 182, 3) := by decide +kernel
theorem dX9_then_45 : decode cX9_then 45 = .ok (.aload_n 0, 1) := by decide +kernel
theorem dX9_then_46 : decode cX9_then 46 = .ok (.iload_n 1, 1) := by decide +kernel
theorem dX9_then_47 : decode cX9_then 47 = .ok (.invokevirtual 193, 3) := by decide +kernel
theorem dX9_then_50 : decode cX9_then 50 = .ok (.iload_n 2, 1) := by decide +kernel
theorem dX9_then_51 : decode cX9_then 51 = .ok (.ifCond .ge 13, 3) := by decide +kernel
theorem dX9_then_54 : decode cX9_then 54 = .ok (.aload_n 0, 1) := by decide +kernel
theorem dX9_then_55 : decode cX9_then 55 = .ok (.getfield 7, 3) := by decide +kernel
theorem dX9_then_58 : decode cX9_then 58 = .ok (.bipush 11, 2) := by decide +kernel
theorem dX9_then_60 : decode cX9_then 60 = .ok (.iaload, 1) := by decide +kernel
theorem dX9_then_61 : decode cX9_then 61 = .ok (.goto 12, 3) := by decide +kernel
theorem dX9_then_64 : decode cX9_then 64 = .ok (.aload_n 0, 1) := by decide +kernel
theorem dX9_then_65 : decode cX9_then 65 = .ok (.getfield 7, 3) := by decide +kernel
theorem dX9_then_68 : decode cX9_then 68 = .ok (.bipush 12, 2) := by decide +kernel
theorem dX9_then_70 : decode cX9_then 70 = .ok (.iload_n 2, 1) := by decide +kernel
theorem dX9_then_71 : decode cX9_then 71 = .ok (.iadd, 1) := by decide +kernel
theorem dX9_then_72 : decode cX9_then 72 = .ok (.iaload, 1) := by decide +kernel
theorem dX9_then_73 : decode cX9_then 73 = .ok (.istore_n 3, 1) := by decide +kernel
theorem dX9_then_74 : decode cX9_then 74 = .ok (.aload_n 0, 1) := by decide +kernel
theorem dX9_then_75 : decode cX9_then 75 = .ok (.aload_n 0, 1) := by decide +kernel
theorem dX9_then_76 : decode cX9_then 76 = .ok (.getfield 16, 3) := by decide +kernel
theorem dX9_then_79 : decode cX9_then 79 = .ok (.aload_n 0, 1) := by decide +kernel
theorem dX9_then_80 : decode cX9_then 80 = .ok (.getfield 7, 3) := by decide +kernel
theorem dX9_then_83 : decode cX9_then 83 = .ok (.invokevirtual 182, 3) := by decide +kernel
theorem dX9_then_86 : decode cX9_then 86 = .ok (.iload_n 3, 1) := by decide +kernel
theorem dX9_then_87 : decode cX9_then 87 = .ok (.ireturn, 1) := by decide +kernel
set_option maxRecDepth 20000 in
theorem ggX9_full_X9_in : GoodIn wsX9_full wsX9_in := goodIn_r _ [9] (by decide +kernel) (by decide +kernel)
set_option maxRecDepth 20000 in
theorem gX9_full_X9_in : GoodIn wsX9_full (va_wsS RX9 54 yX9_in wsX9_in) := goodIn_app (goodIn_of _ (by decide +kernel)) ggX9_full_X9_in
set_option maxRecDepth 20000 in
theorem ggX9_full_X9_errs : GoodIn wsX9_full wsX9_errs := goodIn_r _ [13, 14, 15, 128, 129, 130, 131, 132, 133, 134, 135, 136, 137, 138, 139, 140, 141, 142, 143, 144, 145, 146, 147, 148, 149, 150, 151, 152, 153, 154, 155] (by decide +kernel) (by decide +kernel)
set_option maxRecDepth 20000 in
theorem gX9_full_X9_errs : GoodIn wsX9_full (wsV RX9 59 RX9 yX9_errs wsX9_errs) := goodIn_app (goodIn_of _ (by decide +kernel)) ggX9_full_X9_errs
set_option maxRecDepth 20000 in
theorem ggX9_full_X9_moveAll : GoodIn wsX9_full wsX9_moveAll := goodIn_r _ [19] (by decide +kernel) (by decide +kernel)
set_option maxRecDepth 20000 in
theorem gX9_full_X9_moveAll : GoodIn wsX9_full (wsV RX9 182 RX9 yX9_moveAll wsX9_moveAll) := goodIn_app (goodIn_of _ (by decide +kernel)) ggX9_full_X9_moveAll
set_option maxRecDepth 20000 in
theorem ggX9_full_X9_grains : GoodIn wsX9_full wsX9_grains := goodIn_r _ [23, 3, 128, 129, 130, 131, 132, 133, 134, 135, 136, 137, 138, 139, 140, 141, 142, 143, 144, 145, 146, 147, 148, 149, 150, 151, 152, 153, 154, 155] (by decide +kernel) (by decide +kernel)
set_option maxRecDepth 20000 in
theorem gX9_full_X9_grains : GoodIn wsX9_full (wsV RX9 196 RX9 yX9_grains wsX9_grains) := goodIn_app (goodIn_of _ (by decide +kernel)) ggX9_full_X9_grains
set_option maxRecDepth 20000 in
theorem ggX9_full_X9_oneHour : GoodIn wsX9_full wsX9_oneHour := goodIn_r _ [27, 3, 28, 29, 30, 31, 32, 33, 8, 34, 35, 36, 37, 38, 39, 40, 41, 42, 43, 44, 45, 46, 47, 48, 49, 50, 51, 52, 53, 54, 55, 56, 57, 58, 59, 60, 61, 62, 63, 64, 65, 66, 67, 68, 69, 70, 71, 72, 73, 74, 75, 76, 77, 78, 79, 80, 81, 6, 7, 9, 82, 83, 84, 85, 86, 87, 88, 89, 90, 91, 92, 93, 94, 95, 96, 97, 98, 99, 100, 101, 102, 103, 104, 105, 106, 107, 108, 109, 110, 111, 112, 113, 114, 115, 116, 117, 118, 119, 120, 121, 122, 123, 124, 125, 126, 127, 128, 129, 130, 131, 132, 133, 134, 135, 136, 137, 138, 139, 140, 141, 142, 143, 144, 145, 146, 147, 148, 149, 150, 151, 152, 153, 154, 155] (by decide +kernel) (by decide +kernel)
set_option maxRecDepth 20000 in
theorem gX9_full_X9_oneHour : GoodIn wsX9_full (wsV RX9 190 RX9 yX9_oneHour wsX9_oneHour) := goodIn_app (goodIn_of _ (by decide +kernel)) ggX9_full_X9_oneHour
theorem dX9_full_0 : decode cX9_full 0 = .ok (.iload_n 1, 1) := by decide +kernel
theorem dX9_full_1 : decode cX9_full 1 = .ok (.iconst 0, 1) := by decide +kernel
theorem dX9_full_2 : decode cX9_full 2 = .ok (.ldc 203, 2) := by decide +kernel
theorem dX9_full_4 : decode cX9_full 4 = .ok (.invokestatic 54, 3) := by decide +kernel
theorem dX9_full_7 : decode cX9_full 7 = .ok (.ifCond .ne 10, 3) := by decide +kernel
theorem dX9_full_10 : decode cX9_full 10 = .ok (.aload_n 0, 1) := by decide +kernel
theorem dX9_full_11 : decode cX9_full 11 = .ok (.ldc 58, 2) := by decide +kernel
theorem dX9_full_13 : decode cX9_full 13 = .ok (.invokevirtual 59, 3) := by decide +kernel
theorem dX9_full_16 : decode cX9_full 16 = .ok (.ireturn, 1) := by decide +kernel
theorem dX9_full_17 : decode cX9_full 17 = .ok (.aload_n 0, 1) := by decide +kernel
theorem dX9_full_18 : decode cX9_full 18 = .ok (.aload_n 0, 1) := by decide +kernel
theorem dX9_full_19 : decode cX9_full 19 = .ok (.getfield 7, 3) := by decide +kernel
theorem dX9_full_22 : decode cX9_full 22 = .ok (.aload_n 0, 1) := by decide +kernel
theorem dX9_full_23 : decode cX9_full 23 = .ok (.getfield 16, 3) := by decide +kernel
theorem dX9_full_26 : decode cX9_full 26 = .ok (.invokevirtual 182, 3) := by decide +kernel
theorem dX9_full_29 : decode cX9_full 29 = .ok (.iconst 0, 1) := by decide +kernel
theorem dX9_full_30 : decode cX9_full 30 = .ok (.istore_n 2, 1) := by decide +kernel
theorem dX9_full_31 : decode cX9_full 31 = .ok (.iload_n 2, 1) := by decide +kernel
theorem dX9_full_32 : decode cX9_full 32 = .ok (.bipush 50, 2) := by decide +kernel
theorem dX9_full_34 : decode cX9_full 34 = .ok (.if_icmp .gt 21, 3) := by decide +kernel
theorem dX9_full_37 : decode cX9_full 37 = .ok (.aload_n 0, 1) := by decide +kernel
theorem dX9_full_38 : decode cX9_full 38 = .ok (.invokevirtual 196, 3) := by decide +kernel
theorem dX9_full_41 : decode cX9_full 41 = .ok (.iload_n 1, 1) := by decide +kernel
theorem dX9_full_42 : decode cX9_full 42 = .ok (.if_icmp .ge 13, 3) := by decide +kernel
theorem dX9_full_45 : decode cX9_full 45 = .ok (.aload_n 0, 1) := by decide +kernel
theorem dX9_full_46 : decode cX9_full 46 = .ok (.invokevirtual 190, 3) := by decide +kernel
theorem dX9_full_49 : decode cX9_full 49 = .ok (.iinc 2 1, 3) := by decide +kernel
theorem dX9_full_52 : decode cX9_full 52 = .ok (.goto (-21), 3) := by decide +kernel
theorem dX9_full_55 : decode cX9_full 55 = .ok (.aload_n 0, 1) := by decide +kernel
theorem dX9_full_56 : decode cX9_full 56 = .ok (.aload_n 0, 1) := by decide +kernel
theorem dX9_full_57 : decode cX9_full 57 = .ok (.getfield 16, 3) := by decide +kernel
theorem dX9_full_60 : decode cX9_full 60 = .ok (.aload_n 0, 1) := by decide +kernel
theorem dX9_full_61 : decode cX9_full 61 = .ok (.getfield 7, 3) := by decide +kernel
theorem dX9_full_64 : decode cX9_full 64 = .ok (.invokevirtual 182, 3) := by decide +kernel
theorem dX9_full_67 : decode cX9_full 67 = .ok (.iload_n 2, 1) := by decide +kernel
theorem dX9_full_68 : decode cX9_full 68 = .ok (.bipush 50, 2) := by decide +kernel
theorem dX9_full_70 : decode cX9_full 70 = .ok (.if_icmp .le 12, 3) := by decide +kernel
theorem dX9_full_73 : decode cX9_full 73 = .ok (.aload_n 0, 1) := by decide +kernel
theorem dX9_full_74 : decode cX9_full 74 = .ok (.ldc 204, 2) := by decide +kernel
theorem dX9_full_76 : decode cX9_full 76 = .ok (.invokevirtual 59, 3) := by decide +kernel
theorem dX9_full_79 : decode cX9_full 79 = .ok (.goto 4, 3) := by decide +kernel
theorem dX9_full_82 : decode cX9_full 82 = .ok (.iload_n 2, 1) := by decide +kernel
theorem dX9_full_83 : decode cX9_full 83 = .ok (.ireturn, 1) := by decide +kernel
set_option maxRecDepth 20000 in
theorem ggX9_hasThen_X9_moveAll : GoodIn wsX9_hasThen wsX9_moveAll := goodIn_r _ [7] (by decide +kernel) (by decide +kernel)
set_option maxRecDepth 20000 in
theorem gX9_hasThen_X9_moveAll : GoodIn wsX9_hasThen (wsV RX9 182 RX9 yX9_moveAll wsX9_moveAll) := goodIn_app (goodIn_of _ (by decide +kernel)) ggX9_hasThen_X9_moveAll
set_option maxRecDepth 20000 in
theorem ggX9_hasThen_X9_passes : GoodIn wsX9_hasThen wsX9_passes := goodIn_r _ [11, 12, 13, 14, 6, 15, 1, 16, 17, 18, 19, 20, 21, 22, 23, 24, 25, 26, 27, 28, 29, 30, 31, 32, 33, 34, 35, 36, 37, 38, 39, 40, 41, 42, 43, 44, 45, 46, 47, 48, 49, 50, 51, 52, 53, 54, 55, 56, 57, 58, 59, 60, 61, 62, 63, 64, 65, 66, 67, 68, 69, 70, 71, 72, 73, 74, 75, 76, 77, 78, 79, 80, 81, 82, 83, 84, 85, 86, 87, 88, 89, 90, 91, 92, 93, 94, 95, 96, 97, 98, 99, 100, 101, 102, 103, 104, 105, 106, 107, 108, 109, 110, 111, 112, 113, 114, 115, 116, 117, 118, 119, 120, 121, 122, 123, 124, 125, 126, 127, 128, 129, 130, 131, 132, 133, 134, 135, 136, 137, 138, 139, 140, 141, 142, 143, 144, 145, 146] (by decide +kernel) (by decide +kernel)
set_option maxRecDepth 20000 in
theorem gX9_hasThen_X9_passes : GoodIn wsX9_hasThen (wsV RX9 193 RX9 yX9_passes wsX9_passes) := goodIn_app (goodIn_of _ (by decide +kernel)) ggX9_hasThen_X9_passes
theorem dX9_hasThen_0 : decode cX9_hasThen 0 = .ok (.aload_n 0, 1) := by decide +kernel
theorem dX9_hasThen_1 : decode cX9_hasThen 1 = .ok (.aload_n 0, 1) := by decide +kernel
theorem dX9_hasThen_2 : decode cX9_hasThen 2 = .ok (.getfield 7, 3) := by decide +kernel
theorem dX9_hasThen_5 : decode cX9_hasThen 5 = .ok (.aload_n 0, 1) := by decide +kernel
theorem dX9_hasThen_6 : decode cX9_hasThen 6 = .ok (.getfield 16, 3) := by decide +kernel
theorem dX9_hasThen_9 : decode cX9_hasThen 9 = .ok (.invokevirtual 182, 3) := by decide +kernel
theorem dX9_hasThen_12 : decode cX9_hasThen 12 = .ok (.aload_n 0, 1) := by decide +kernel
theorem dX9_hasThen_13 : decode cX9_hasThen 13 = .ok (.iload_n 3, 1) := by decide +kernel
theorem dX9_hasThen_14 : decode cX9_hasThen 14 = .ok (.invokevirtual 193, 3) := by decide +kernel
theorem dX9_hasThen_17 : decode cX9_hasThen 17 = .ok (.aload_n 0, 1) := by decide +kernel
theorem dX9_hasThen_18 : decode cX9_hasThen 18 = .ok (.getfield 7, 3) := by decide +kernel
theorem dX9_hasThen_21 : decode cX9_hasThen 21 = .ok (.bipush 12, 2) := by decide +kernel
theorem dX9_hasThen_23 : decode cX9_hasThen 23 = .ok (.iload_n 1, 1) := by decide +kernel
theorem dX9_hasThen_24 : decode cX9_hasThen 24 = .ok (.iadd, 1) := by decide +kernel
theorem dX9_hasThen_25 : decode cX9_hasThen 25 = .ok (.iaload, 1) := by decide +kernel
theorem dX9_hasThen_26 : decode cX9_hasThen 26 = .ok (.iload_n 2, 1) := by decide +kernel
theorem dX9_hasThen_27 : decode cX9_hasThen 27 = .ok (.if_icmp .lt 7, 3) := by decide +kernel
theorem dX9_hasThen_30 : decode cX9_hasThen 30 = .ok (.iconst 1, 1) := by decide +kernel
theorem dX9_hasThen_31 : decode cX9_hasThen 31 = .ok (.goto 4, 3) := by decide +kernel
theorem dX9_hasThen_34 : decode cX9_hasThen 34 = .ok (.iconst 0, 1) := by decide +kernel
theorem dX9_hasThen_35 : decode cX9_hasThen 35 = .ok (.istore 4, 2) := by decide +kernel
theorem dX9_hasThen_37 : decode cX9_hasThen 37 = .ok (.aload_n 0, 1) := by decide +kernel
theorem dX9_hasThen_38 : decode cX9_hasThen 38 = .ok (.aload_n 0, 1) := by decide +kernel
theorem dX9_hasThen_39 : decode cX9_hasThen 39 = .ok (.getfield 16, 3) := by decide +kernel
theorem dX9_hasThen_42 : decode cX9_hasThen 42 = .ok (.aload_n 0, 1) := by decide +kernel
theorem dX9_hasThen_43 : decode cX9_hasThen 43 = .ok (.getfield 7, 3) := by decide +kernel
theorem dX9_hasThen_46 : decode cX9_hasThen 46 = .ok (.invokevirtual 182, 3) := by decide +kernel
theorem dX9_hasThen_49 : decode cX9_hasThen 49 = .ok (.iload 4, 2) := by decide +kernel
theorem dX9_hasThen_51 : decode cX9_hasThen 51 = .ok (.ireturn, 1) := by decide +kernel
theorem dX9_tells_0 : decode cX9_tells 0 = .ok (.aload_n 0, 1) := by decide +kernel
theorem dX9_tells_1 : decode cX9_tells 1 = .ok (.getfield 32, 3) := by decide +kernel
theorem dX9_tells_4 : decode cX9_tells 4 = .ok (.iconst 0, 1) := by decide +kernel
theorem dX9_tells_5 : decode cX9_tells 5 = .ok (.iload_n 1, 1) := by decide +kernel
theorem dX9_tells_6 : decode cX9_tells 6 = .ok (.iastore, 1) := by decide +kernel
theorem dX9_tells_7 : decode cX9_tells 7 = .ok (.aload_n 0, 1) := by decide +kernel
theorem dX9_tells_8 : decode cX9_tells 8 = .ok (.getfield 32, 3) := by decide +kernel
theorem dX9_tells_11 : decode cX9_tells 11 = .ok (.iconst 1, 1) := by decide +kernel
theorem dX9_tells_12 : decode cX9_tells 12 = .ok (.iload_n 2, 1) := by decide +kernel
theorem dX9_tells_13 : decode cX9_tells 13 = .ok (.iastore, 1) := by decide +kernel
theorem dX9_tells_14 : decode cX9_tells 14 = .ok (.aload_n 0, 1) := by decide +kernel
theorem dX9_tells_15 : decode cX9_tells 15 = .ok (.getfield 32, 3) := by decide +kernel
theorem dX9_tells_18 : decode cX9_tells 18 = .ok (.iconst 2, 1) := by decide +kernel
theorem dX9_tells_19 : decode cX9_tells 19 = .ok (.iload_n 3, 1) := by decide +kernel
theorem dX9_tells_20 : decode cX9_tells 20 = .ok (.iastore, 1) := by decide +kernel
theorem dX9_tells_21 : decode cX9_tells 21 = .ok (.aload_n 0, 1) := by decide +kernel
theorem dX9_tells_22 : decode cX9_tells 22 = .ok (.getfield 32, 3) := by decide +kernel
theorem dX9_tells_25 : decode cX9_tells 25 = .ok (.iconst 3, 1) := by decide +kernel
theorem dX9_tells_26 : decode cX9_tells 26 = .ok (.iload 4, 2) := by decide +kernel
theorem dX9_tells_28 : decode cX9_tells 28 = .ok (.iastore, 1) := by decide +kernel
theorem dX9_tells_29 : decode cX9_tells 29 = .ok (.return_, 1) := by decide +kernel
set_option maxRecDepth 20000 in
theorem ggX9_findLeads_X9_tells : GoodIn wsX9_findLeads wsX9_tells := goodIn_r _ [6, 7, 132, 133, 134, 135, 136, 137, 138, 139, 140, 141, 142, 143, 144, 145, 146, 147, 148, 149, 150, 151, 152, 153, 154, 155, 156, 157, 158, 159] (by decide +kernel) (by decide +kernel)
set_option maxRecDepth 20000 in
theorem gX9_findLeads_X9_tells : GoodIn wsX9_findLeads (wsV RX9 205 RX9 yX9_tells wsX9_tells) := goodIn_app (goodIn_of _ (by decide +kernel)) ggX9_findLeads_X9_tells
set_option maxRecDepth 20000 in
theorem ggX9_findLeads_X9_hasThen : GoodIn wsX9_findLeads wsX9_hasThen := goodIn_r _ [11, 1, 12, 13, 14, 15, 5, 16, 17, 18, 19, 20, 21, 22, 23, 24, 25, 26, 27, 28, 29, 30, 31, 32, 33, 34, 35, 36, 37, 38, 39, 40, 41, 42, 43, 44, 45, 46, 47, 48, 49, 50, 51, 52, 53, 54, 55, 56, 57, 58, 59, 60, 61, 62, 63, 64, 65, 66, 67, 68, 69, 70, 71, 72, 73, 74, 75, 76, 77, 78, 79, 80, 81, 82, 83, 84, 85, 86, 87, 88, 89, 90, 91, 92, 93, 94, 95, 96, 97, 98, 99, 100, 101, 102, 103, 104, 105, 106, 107, 108, 109, 110, 111, 112, 113, 114, 115, 116, 117, 118, 119, 120, 121, 122, 123, 124, 125, 126, 127, 132, 133, 134, 135, 136, 137, 138, 139, 140, 141, 142, 143, 144, 145, 146, 147, 148, 149, 150, 151, 152, 153, 154, 155, 156, 157, 158, 159] (by decide +kernel) (by decide +kernel)
set_option maxRecDepth 20000 in
theorem gX9_findLeads_X9_hasThen : GoodIn wsX9_findLeads (wsV RX9 209 RX9 yX9_hasThen wsX9_hasThen) := goodIn_app (goodIn_of _ (by decide +kernel)) ggX9_findLeads_X9_hasThen
set_option maxRecDepth 20000 in
theorem ggX9_findLeads_X9_its : GoodIn wsX9_findLeads wsX9_its := goodIn_r _ [35, 1, 132, 133, 134, 135, 136, 137, 138, 139, 140, 141, 142, 143, 144, 145, 146, 147, 148, 149, 150, 151, 152, 153, 154, 155, 156, 157, 158, 159] (by decide +kernel) (by decide +kernel)
set_option maxRecDepth 20000 in
theorem gX9_findLeads_X9_its : GoodIn wsX9_findLeads (wsV RX9 80 RX9 yX9_its wsX9_its) := goodIn_app (goodIn_of _ (by decide +kernel)) ggX9_findLeads_X9_its
set_option maxRecDepth 20000 in
theorem ggX9_findLeads_X9_gets : GoodIn wsX9_findLeads wsX9_gets := goodIn_r _ [127, 1, 132, 133, 134, 135, 136, 137, 138, 139, 140, 141, 142, 143, 144, 145, 146, 147, 148, 149, 150, 151, 152, 153, 154, 155, 156, 157, 158, 159] (by decide +kernel) (by decide +kernel)
set_option maxRecDepth 20000 in
theorem gX9_findLeads_X9_gets : GoodIn wsX9_findLeads (wsV RX9 90 RX9 yX9_gets wsX9_gets) := goodIn_app (goodIn_of _ (by decide +kernel)) ggX9_findLeads_X9_gets
set_option maxRecDepth 20000 in
theorem ggX9_findLeads_X9_leadsBoth : GoodIn wsX9_findLeads wsX9_leadsBoth := goodIn_r _ [131, 1, 32, 33, 34, 5, 35, 124, 125, 126, 127, 8, 9, 10, 11, 12, 13, 14, 15, 16, 17, 18, 19, 20, 21, 22, 23, 24, 25, 26, 27, 28, 29, 30, 31, 36, 37, 38, 39, 40, 41, 42, 43, 44, 45, 46, 47, 48, 49, 50, 51, 52, 53, 54, 55, 56, 57, 58, 59, 60, 61, 62, 63, 64, 65, 66, 67, 68, 69, 70, 71, 72, 73, 74, 75, 76, 77, 78, 79, 80, 81, 82, 83, 84, 85, 86, 87, 88, 89, 90, 91, 92, 93, 94, 95, 96, 97, 98, 99, 100, 101, 102, 103, 104, 105, 106, 107, 108, 109, 110, 111, 112, 113, 114, 115, 116, 117, 118, 119, 120, 121, 122, 123, 132, 133, 134, 135, 136, 137, 138, 139, 140, 141, 142, 143, 144, 145, 146, 147, 148, 149, 150, 151, 152, 153, 154, 155, 156, 157, 158, 159] (by decide +kernel) (by decide +kernel)
set_option maxRecDepth 20000 in
theorem gX9_findLeads_X9_leadsBoth : GoodIn wsX9_findLeads (wsV RX9 212 RX9 yX9_leadsBoth wsX9_leadsBoth) := goodIn_app (goodIn_of _ (by decide +kernel)) ggX9_findLeads_X9_leadsBoth
theorem dX9_findLeads_0 : decode cX9_findLeads 0 = .ok (.aload_n 0, 1) := by decide +kernel
theorem dX9_findLeads_1 : decode cX9_findLeads 1 = .ok (.iconst (-1), 1) := by decide +kernel
theorem dX9_findLeads_2 : decode cX9_findLeads 2 = .ok (.iconst (-1), 1) := by decide +kernel
theorem dX9_findLeads_3 : decode cX9_findLeads 3 = .ok (.iconst (-1), 1) := by decide +kernel
theorem dX9_findLeads_4 : decode cX9_findLeads 4 = .ok (.iconst (-1), 1) := by decide +kernel
theorem dX9_findLeads_5 : decode cX9_findLeads 5 = .ok (.invokevirtual 205, 3) := by decide +kernel
theorem dX9_findLeads_8 : decode cX9_findLeads 8 = .ok (.aload_n 0, 1) := by decide +kernel
theorem dX9_findLeads_9 : decode cX9_findLeads 9 = .ok (.iload_n 1, 1) := by decide +kernel
theorem dX9_findLeads_10 : decode cX9_findLeads 10 = .ok (.iload_n 2, 1) := by decide +kernel
theorem dX9_findLeads_11 : decode cX9_findLeads 11 = .ok (.iload_n 3, 1) := by decide +kernel
theorem dX9_findLeads_12 : decode cX9_findLeads 12 = .ok (.invokevirtual 209, 3) := by decide +kernel
theorem dX9_findLeads_15 : decode cX9_findLeads 15 = .ok (.ifCond .eq 5, 3) := by decide +kernel
theorem dX9_findLeads_18 : decode cX9_findLeads 18 = .ok (.iconst 0, 1) := by decide +kernel
theorem dX9_findLeads_19 : decode cX9_findLeads 19 = .ok (.ireturn, 1) := by decide +kernel
theorem dX9_findLeads_20 : decode cX9_findLeads 20 = .ok (.aload_n 0, 1) := by decide +kernel
theorem dX9_findLeads_21 : decode cX9_findLeads 21 = .ok (.getfield 7, 3) := by decide +kernel
theorem dX9_findLeads_24 : decode cX9_findLeads 24 = .ok (.iconst 3, 1) := by decide +kernel
theorem dX9_findLeads_25 : decode cX9_findLeads 25 = .ok (.iaload, 1) := by decide +kernel
theorem dX9_findLeads_26 : decode cX9_findLeads 26 = .ok (.istore 4, 2) := by decide +kernel
theorem dX9_findLeads_28 : decode cX9_findLeads 28 = .ok (.iconst 0, 1) := by decide +kernel
theorem dX9_findLeads_29 : decode cX9_findLeads 29 = .ok (.istore 5, 2) := by decide +kernel
theorem dX9_findLeads_31 : decode cX9_findLeads 31 = .ok (.iload 5, 2) := by decide +kernel
theorem dX9_findLeads_33 : decode cX9_findLeads 33 = .ok (.aload_n 0, 1) := by decide +kernel
theorem dX9_findLeads_34 : decode cX9_findLeads 34 = .ok (.getfield 7, 3) := by decide +kernel
theorem dX9_findLeads_37 : decode cX9_findLeads 37 = .ok (.bipush 8, 2) := by decide +kernel
theorem dX9_findLeads_39 : decode cX9_findLeads 39 = .ok (.iaload, 1) := by decide +kernel
theorem dX9_findLeads_40 : decode cX9_findLeads 40 = .ok (.iload 4, 2) := by decide +kernel
theorem dX9_findLeads_42 : decode cX9_findLeads 42 = .ok (.imul, 1) := by decide +kernel
theorem dX9_findLeads_43 : decode cX9_findLeads 43 = .ok (.if_icmp .ge 85, 3) := by decide +kernel
theorem dX9_findLeads_46 : decode cX9_findLeads 46 = .ok (.iload 5, 2) := by decide +kernel
theorem dX9_findLeads_48 : decode cX9_findLeads 48 = .ok (.iload 4, 2) := by decide +kernel
theorem dX9_findLeads_50 : decode cX9_findLeads 50 = .ok (.idiv, 1) := by decide +kernel
theorem dX9_findLeads_51 : decode cX9_findLeads 51 = .ok (.istore 6, 2) := by decide +kernel
theorem dX9_findLeads_53 : decode cX9_findLeads 53 = .ok (.aload_n 0, 1) := by decide +kernel
theorem dX9_findLeads_54 : decode cX9_findLeads 54 = .ok (.iload 6, 2) := by decide +kernel
theorem dX9_findLeads_56 : decode cX9_findLeads 56 = .ok (.iconst 2, 1) := by decide +kernel
theorem dX9_findLeads_57 : decode cX9_findLeads 57 = .ok (.invokevirtual 80, 3) := by decide +kernel
theorem dX9_findLeads_60 : decode cX9_findLeads 60 = .ok (.istore 7, 2) := by decide +kernel
theorem dX9_findLeads_62 : decode cX9_findLeads 62 = .ok (.iload 7, 2) := by decide +kernel
theorem dX9_findLeads_64 : decode cX9_findLeads 64 = .ok (.iload 5, 2) := by decide +kernel
theorem dX9_findLeads_66 : decode cX9_findLeads 66 = .ok (.iload 4, 2) := by decide +kernel
theorem dX9_findLeads_68 : decode cX9_findLeads 68 = .ok (.irem, 1) := by decide +kernel
theorem dX9_findLeads_69 : decode cX9_findLeads 69 = .ok (.if_icmp .eq 53, 3) := by decide +kernel
theorem dX9_findLeads_72 : decode cX9_findLeads 72 = .ok (.aload_n 0, 1) := by decide +kernel
theorem dX9_findLeads_73 : decode cX9_findLeads 73 = .ok (.iload 6, 2) := by decide +kernel
theorem dX9_findLeads_75 : decode cX9_findLeads 75 = .ok (.iconst 2, 1) := by decide +kernel
theorem dX9_findLeads_76 : decode cX9_findLeads 76 = .ok (.iload 5, 2) := by decide +kernel
theorem dX9_findLeads_78 : decode cX9_findLeads 78 = .ok (.iload 4, 2) := by decide +kernel
theorem dX9_findLeads_80 : decode cX9_findLeads 80 = .ok (.irem, 1) := by decide +kernel
theorem dX9_findLeads_81 : decode cX9_findLeads 81 = .ok (.invokevirtual 90, 3) := by decide +kernel
theorem dX9_findLeads_84 : decode cX9_findLeads 84 = .ok (.aload_n 0, 1) := by decide +kernel
theorem dX9_findLeads_85 : decode cX9_findLeads 85 = .ok (.iload_n 1, 1) := by decide +kernel
theorem dX9_findLeads_86 : decode cX9_findLeads 86 = .ok (.iload_n 2, 1) := by decide +kernel
theorem dX9_findLeads_87 : decode cX9_findLeads 87 = .ok (.iload_n 3, 1) := by decide +kernel
theorem dX9_findLeads_88 : decode cX9_findLeads 88 = .ok (.invokevirtual 209, 3) := by decide +kernel
theorem dX9_findLeads_91 : decode cX9_findLeads 91 = .ok (.istore 8, 2) := by decide +kernel
theorem dX9_findLeads_93 : decode cX9_findLeads 93 = .ok (.aload_n 0, 1) := by decide +kernel
theorem dX9_findLeads_94 : decode cX9_findLeads 94 = .ok (.iload 6, 2) := by decide +kernel
theorem dX9_findLeads_96 : decode cX9_findLeads 96 = .ok (.iconst 2, 1) := by decide +kernel
theorem dX9_findLeads_97 : decode cX9_findLeads 97 = .ok (.iload 7, 2) := by decide +kernel
theorem dX9_findLeads_99 : decode cX9_findLeads 99 = .ok (.invokevirtual 90, 3) := by decide +kernel
theorem dX9_findLeads_102 : decode cX9_findLeads 102 = .ok (.iload 8, 2) := by decide +kernel
theorem dX9_findLeads_104 : decode cX9_findLeads 104 = .ok (.ifCond .eq 18, 3) := by decide +kernel
theorem dX9_findLeads_107 : decode cX9_findLeads 107 = .ok (.aload_n 0, 1) := by decide +kernel
theorem dX9_findLeads_108 : decode cX9_findLeads 108 = .ok (.iload 6, 2) := by decide +kernel
theorem dX9_findLeads_110 : decode cX9_findLeads 110 = .ok (.iload 5, 2) := by decide +kernel
theorem dX9_findLeads_112 : decode cX9_findLeads 112 = .ok (.iload 4, 2) := by decide +kernel
theorem dX9_findLeads_114 : decode cX9_findLeads 114 = .ok (.irem, 1) := by decide +kernel
theorem dX9_findLeads_115 : decode cX9_findLeads 115 = .ok (.iconst (-1), 1) := by decide +kernel
theorem dX9_findLeads_116 : decode cX9_findLeads 116 = .ok (.iconst (-1), 1) := by decide +kernel
theorem dX9_findLeads_117 : decode cX9_findLeads 117 = .ok (.invokevirtual 205, 3) := by decide +kernel
theorem dX9_findLeads_120 : decode cX9_findLeads 120 = .ok (.iconst 1, 1) := by decide +kernel
theorem dX9_findLeads_121 : decode cX9_findLeads 121 = .ok (.ireturn, 1) := by decide +kernel
theorem dX9_findLeads_122 : decode cX9_findLeads 122 = .ok (.iinc 5 1, 3) := by decide +kernel
theorem dX9_findLeads_125 : decode cX9_findLeads 125 = .ok (.goto (-94), 3) := by decide +kernel
theorem dX9_findLeads_128 : decode cX9_findLeads 128 = .ok (.iconst 0, 1) := by decide +kernel
theorem dX9_findLeads_129 : decode cX9_findLeads 129 = .ok (.istore 5, 2) := by decide +kernel
theorem dX9_findLeads_131 : decode cX9_findLeads 131 = .ok (.iload 5, 2) := by decide +kernel
theorem dX9_findLeads_133 : decode cX9_findLeads 133 = .ok (.aload_n 0, 1) := by decide +kernel
theorem dX9_findLeads_134 : decode cX9_findLeads 134 = .ok (.getfield 7, 3) := by decide +kernel
theorem dX9_findLeads_137 : decode cX9_findLeads 137 = .ok (.bipush 8, 2) := by decide +kernel
theorem dX9_findLeads_139 : decode cX9_findLeads 139 = .ok (.iaload, 1) := by decide +kernel
theorem dX9_findLeads_140 : decode cX9_findLeads 140 = .ok (.iload 4, 2) := by decide +kernel
theorem dX9_findLeads_142 : decode cX9_findLeads 142 = .ok (.imul, 1) := by decide +kernel
theorem dX9_findLeads_143 : decode cX9_findLeads 143 = .ok (.if_icmp .ge 82, 3) := by decide +kernel
theorem dX9_findLeads_146 : decode cX9_findLeads 146 = .ok (.iload 4, 2) := by decide +kernel
theorem dX9_findLeads_148 : decode cX9_findLeads 148 = .ok (.iload 5, 2) := by decide +kernel
theorem dX9_findLeads_150 : decode cX9_findLeads 150 = .ok (.iload 4, 2) := by decide +kernel
theorem dX9_findLeads_152 : decode cX9_findLeads 152 = .ok (.idiv, 1) := by decide +kernel
theorem dX9_findLeads_153 : decode cX9_findLeads 153 = .ok (.iconst 1, 1) := by decide +kernel
theorem dX9_findLeads_154 : decode cX9_findLeads 154 = .ok (.iadd, 1) := by decide +kernel
theorem dX9_findLeads_155 : decode cX9_findLeads 155 = .ok (.imul, 1) := by decide +kernel
theorem dX9_findLeads_156 : decode cX9_findLeads 156 = .ok (.istore 6, 2) := by decide +kernel
theorem dX9_findLeads_158 : decode cX9_findLeads 158 = .ok (.iload 6, 2) := by decide +kernel
theorem dX9_findLeads_160 : decode cX9_findLeads 160 = .ok (.aload_n 0, 1) := by decide +kernel
theorem dX9_findLeads_161 : decode cX9_findLeads 161 = .ok (.getfield 7, 3) := by decide +kernel
theorem dX9_findLeads_164 : decode cX9_findLeads 164 = .ok (.bipush 8, 2) := by decide +kernel
theorem dX9_findLeads_166 : decode cX9_findLeads 166 = .ok (.iaload, 1) := by decide +kernel
theorem dX9_findLeads_167 : decode cX9_findLeads 167 = .ok (.iload 4, 2) := by decide +kernel
theorem dX9_findLeads_169 : decode cX9_findLeads 169 = .ok (.imul, 1) := by decide +kernel
theorem dX9_findLeads_170 : decode cX9_findLeads 170 = .ok (.if_icmp .ge 49, 3) := by decide +kernel
theorem dX9_findLeads_173 : decode cX9_findLeads 173 = .ok (.aload_n 0, 1) := by decide +kernel
theorem dX9_findLeads_174 : decode cX9_findLeads 174 = .ok (.iload 5, 2) := by decide +kernel
theorem dX9_findLeads_176 : decode cX9_findLeads 176 = .ok (.iload 6, 2) := by decide +kernel
theorem dX9_findLeads_178 : decode cX9_findLeads 178 = .ok (.iload_n 1, 1) := by decide +kernel
theorem dX9_findLeads_179 : decode cX9_findLeads 179 = .ok (.iload_n 2, 1) := by decide +kernel
theorem dX9_findLeads_180 : decode cX9_findLeads 180 = .ok (.iload_n 3, 1) := by decide +kernel
theorem dX9_findLeads_181 : decode cX9_findLeads 181 = .ok (.invokevirtual 212, 3) := by decide +kernel
theorem dX9_findLeads_184 : decode cX9_findLeads 184 = .ok (.ifCond .eq 29, 3) := by decide +kernel
theorem dX9_findLeads_187 : decode cX9_findLeads 187 = .ok (.aload_n 0, 1) := by decide +kernel
theorem dX9_findLeads_188 : decode cX9_findLeads 188 = .ok (.iload 5, 2) := by decide +kernel
theorem dX9_findLeads_190 : decode cX9_findLeads 190 = .ok (.iload 4, 2) := by decide +kernel
theorem dX9_findLeads_192 : decode cX9_findLeads 192 = .ok (.idiv, 1) := by decide +kernel
theorem dX9_findLeads_193 : decode cX9_findLeads 193 = .ok (.iload 5, 2) := by decide +kernel
theorem dX9_findLeads_195 : decode cX9_findLeads 195 = .ok (.iload 4, 2) := by decide +kernel
theorem dX9_findLeads_197 : decode cX9_findLeads 197 = .ok (.irem, 1) := by decide +kernel
theorem dX9_findLeads_198 : decode cX9_findLeads 198 = .ok (.iload 6, 2) := by decide +kernel
theorem dX9_findLeads_200 : decode cX9_findLeads 200 = .ok (.iload 4, 2) := by decide +kernel
theorem dX9_findLeads_202 : decode cX9_findLeads 202 = .ok (.idiv, 1) := by decide +kernel
theorem dX9_findLeads_203 : decode cX9_findLeads 203 = .ok (.iload 6, 2) := by decide +kernel
theorem dX9_findLeads_205 : decode cX9_findLeads 205 = .ok (.iload 4, 2) := by decide +kernel
theorem dX9_findLeads_207 : decode cX9_findLeads 207 = .ok (.irem, 1) := by decide +kernel
theorem dX9_findLeads_208 : decode cX9_findLeads 208 = .ok (.invokevirtual 205, 3) := by decide +kernel
theorem dX9_findLeads_211 : decode cX9_findLeads 211 = .ok (.iconst 2, 1) := by decide +kernel
theorem dX9_findLeads_212 : decode cX9_findLeads 212 = .ok (.ireturn, 1) := by decide +kernel
theorem dX9_findLeads_213 : decode cX9_findLeads 213 = .ok (.iinc 6 1, 3) := by decide +kernel
theorem dX9_findLeads_216 : decode cX9_findLeads 216 = .ok (.goto (-58), 3) := by decide +kernel
theorem dX9_findLeads_219 : decode cX9_findLeads 219 = .ok (.iinc 5 1, 3) := by decide +kernel
theorem dX9_findLeads_222 : decode cX9_findLeads 222 = .ok (.goto (-91), 3) := by decide +kernel
theorem dX9_findLeads_225 : decode cX9_findLeads 225 = .ok (.iconst (-1), 1) := by decide +kernel
theorem dX9_findLeads_226 : decode cX9_findLeads 226 = .ok (.ireturn, 1) := by decide +kernel
set_option maxRecDepth 20000 in
theorem ggX9_leadsBoth_X9_its : GoodIn wsX9_leadsBoth wsX9_its := goodIn_r _ [6, 1, 123, 124, 125, 126, 127, 128, 129, 130, 131, 132, 133, 134, 135, 136, 137, 138, 139, 140, 141, 142, 143, 144, 145, 146, 147, 148, 149, 150] (by decide +kernel) (by decide +kernel)
set_option maxRecDepth 20000 in
theorem gX9_leadsBoth_X9_its : GoodIn wsX9_leadsBoth (wsV RX9 80 RX9 yX9_its wsX9_its) := goodIn_app (goodIn_of _ (by decide +kernel)) ggX9_leadsBoth_X9_its
set_option maxRecDepth 20000 in
theorem ggX9_leadsBoth_X9_gets : GoodIn wsX9_leadsBoth wsX9_gets := goodIn_r _ [10, 1, 123, 124, 125, 126, 127, 128, 129, 130, 131, 132, 133, 134, 135, 136, 137, 138, 139, 140, 141, 142, 143, 144, 145, 146, 147, 148, 149, 150] (by decide +kernel) (by decide +kernel)
set_option maxRecDepth 20000 in
theorem gX9_leadsBoth_X9_gets : GoodIn wsX9_leadsBoth (wsV RX9 90 RX9 yX9_gets wsX9_gets) := goodIn_app (goodIn_of _ (by decide +kernel)) ggX9_leadsBoth_X9_gets
set_option maxRecDepth 20000 in
theorem ggX9_leadsBoth_X9_hasThen : GoodIn wsX9_leadsBoth wsX9_hasThen := goodIn_r _ [14, 1, 15, 16, 17, 18, 5, 19, 20, 21, 22, 23, 24, 25, 26, 27, 28, 29, 30, 31, 32, 33, 34, 2, 3, 4, 6, 35, 36, 37, 38, 39, 40, 41, 42, 43, 44, 45, 46, 47, 48, 49, 50, 51, 52, 53, 54, 55, 56, 57, 58, 59, 60, 61, 62, 63, 64, 65, 66, 67, 68, 69, 70, 71, 72, 73, 74, 75, 76, 77, 78, 79, 80, 81, 82, 83, 84, 85, 86, 87, 88, 89, 90, 91, 92, 93, 94, 95, 96, 97, 98, 99, 100, 101, 102, 103, 104, 105, 106, 107, 108, 109, 110, 111, 112, 113, 114, 115, 116, 117, 118, 119, 120, 121, 122, 7, 8, 9, 10, 123, 124, 125, 126, 127, 128, 129, 130, 131, 132, 133, 134, 135, 136, 137, 138, 139, 140, 141, 142, 143, 144, 145, 146, 147, 148, 149, 150] (by decide +kernel) (by decide +kernel)
set_option maxRecDepth 20000 in
theorem gX9_leadsBoth_X9_hasThen : GoodIn wsX9_leadsBoth (wsV RX9 209 RX9 yX9_hasThen wsX9_hasThen) := goodIn_app (goodIn_of _ (by decide +kernel)) ggX9_leadsBoth_X9_hasThen
theorem dX9_leadsBoth_0 : decode cX9_leadsBoth 0 = .ok (.aload_n 0, 1) := by decide +kernel
theorem dX9_leadsBoth_1 : decode cX9_leadsBoth 1 = .ok (.getfield 7, 3) := by decide +kernel
theorem dX9_leadsBoth_4 : decode cX9_leadsBoth 4 = .ok (.iconst 3, 1) := by decide +kernel
theorem dX9_leadsBoth_5 : decode cX9_leadsBoth 5 = .ok (.iaload, 1) := by decide +kernel
theorem dX9_leadsBoth_6 : decode cX9_leadsBoth 6 = .ok (.istore 6, 2) := by decide +kernel
theorem dX9_leadsBoth_8 : decode cX9_leadsBoth 8 = .ok (.iload_n 1, 1) := by decide +kernel
theorem dX9_leadsBoth_9 : decode cX9_leadsBoth 9 = .ok (.iload 6, 2) := by decide +kernel
theorem dX9_leadsBoth_11 : decode cX9_leadsBoth 11 = .ok (.idiv, 1) := by decide +kernel
theorem dX9_leadsBoth_12 : decode cX9_leadsBoth 12 = .ok (.istore 7, 2) := by decide +kernel
theorem dX9_leadsBoth_14 : decode cX9_leadsBoth 14 = .ok (.iload_n 2, 1) := by decide +kernel
theorem dX9_leadsBoth_15 : decode cX9_leadsBoth 15 = .ok (.iload 6, 2) := by decide +kernel
theorem dX9_leadsBoth_17 : decode cX9_leadsBoth 17 = .ok (.idiv, 1) := by decide +kernel
theorem dX9_leadsBoth_18 : decode cX9_leadsBoth 18 = .ok (.istore 8, 2) := by decide +kernel
theorem dX9_leadsBoth_20 : decode cX9_leadsBoth 20 = .ok (.aload_n 0, 1) := by decide +kernel
theorem dX9_leadsBoth_21 : decode cX9_leadsBoth 21 = .ok (.iload 7, 2) := by decide +kernel
theorem dX9_leadsBoth_23 : decode cX9_leadsBoth 23 = .ok (.iconst 2, 1) := by decide +kernel
theorem dX9_leadsBoth_24 : decode cX9_leadsBoth 24 = .ok (.invokevirtual 80, 3) := by decide +kernel
theorem dX9_leadsBoth_27 : decode cX9_leadsBoth 27 = .ok (.istore 9, 2) := by decide +kernel
theorem dX9_leadsBoth_29 : decode cX9_leadsBoth 29 = .ok (.aload_n 0, 1) := by decide +kernel
theorem dX9_leadsBoth_30 : decode cX9_leadsBoth 30 = .ok (.iload 8, 2) := by decide +kernel
theorem dX9_leadsBoth_32 : decode cX9_leadsBoth 32 = .ok (.iconst 2, 1) := by decide +kernel
theorem dX9_leadsBoth_33 : decode cX9_leadsBoth 33 = .ok (.invokevirtual 80, 3) := by decide +kernel
theorem dX9_leadsBoth_36 : decode cX9_leadsBoth 36 = .ok (.istore 10, 2) := by decide +kernel
theorem dX9_leadsBoth_38 : decode cX9_leadsBoth 38 = .ok (.iload 9, 2) := by decide +kernel
theorem dX9_leadsBoth_40 : decode cX9_leadsBoth 40 = .ok (.iload_n 1, 1) := by decide +kernel
theorem dX9_leadsBoth_41 : decode cX9_leadsBoth 41 = .ok (.iload 6, 2) := by decide +kernel
theorem dX9_leadsBoth_43 : decode cX9_leadsBoth 43 = .ok (.irem, 1) := by decide +kernel
theorem dX9_leadsBoth_44 : decode cX9_leadsBoth 44 = .ok (.if_icmp .eq 12, 3) := by decide +kernel
theorem dX9_leadsBoth_47 : decode cX9_leadsBoth 47 = .ok (.iload 10, 2) := by decide +kernel
theorem dX9_leadsBoth_49 : decode cX9_leadsBoth 49 = .ok (.iload_n 2, 1) := by decide +kernel
theorem dX9_leadsBoth_50 : decode cX9_leadsBoth 50 = .ok (.iload 6, 2) := by decide +kernel
theorem dX9_leadsBoth_52 : decode cX9_leadsBoth 52 = .ok (.irem, 1) := by decide +kernel
theorem dX9_leadsBoth_53 : decode cX9_leadsBoth 53 = .ok (.if_icmp .ne 5, 3) := by decide +kernel
theorem dX9_leadsBoth_56 : decode cX9_leadsBoth 56 = .ok (.iconst 0, 1) := by decide +kernel
theorem dX9_leadsBoth_57 : decode cX9_leadsBoth 57 = .ok (.ireturn, 1) := by decide +kernel
theorem dX9_leadsBoth_58 : decode cX9_leadsBoth 58 = .ok (.aload_n 0, 1) := by decide +kernel
theorem dX9_leadsBoth_59 : decode cX9_leadsBoth 59 = .ok (.iload 7, 2) := by decide +kernel
theorem dX9_leadsBoth_61 : decode cX9_leadsBoth 61 = .ok (.iconst 2, 1) := by decide +kernel
theorem dX9_leadsBoth_62 : decode cX9_leadsBoth 62 = .ok (.iload_n 1, 1) := by decide +kernel
theorem dX9_leadsBoth_63 : decode cX9_leadsBoth 63 = .ok (.iload 6, 2) := by decide +kernel
theorem dX9_leadsBoth_65 : decode cX9_leadsBoth 65 = .ok (.irem, 1) := by decide +kernel
theorem dX9_leadsBoth_66 : decode cX9_leadsBoth 66 = .ok (.invokevirtual 90, 3) := by decide +kernel
theorem dX9_leadsBoth_69 : decode cX9_leadsBoth 69 = .ok (.aload_n 0, 1) := by decide +kernel
theorem dX9_leadsBoth_70 : decode cX9_leadsBoth 70 = .ok (.iload 8, 2) := by decide +kernel
theorem dX9_leadsBoth_72 : decode cX9_leadsBoth 72 = .ok (.iconst 2, 1) := by decide +kernel
theorem dX9_leadsBoth_73 : decode cX9_leadsBoth 73 = .ok (.iload_n 2, 1) := by decide +kernel
theorem dX9_leadsBoth_74 : decode cX9_leadsBoth 74 = .ok (.iload 6, 2) := by decide +kernel
theorem dX9_leadsBoth_76 : decode cX9_leadsBoth 76 = .ok (.irem, 1) := by decide +kernel
theorem dX9_leadsBoth_77 : decode cX9_leadsBoth 77 = .ok (.invokevirtual 90, 3) := by decide +kernel
theorem dX9_leadsBoth_80 : decode cX9_leadsBoth 80 = .ok (.aload_n 0, 1) := by decide +kernel
theorem dX9_leadsBoth_81 : decode cX9_leadsBoth 81 = .ok (.iload_n 3, 1) := by decide +kernel
theorem dX9_leadsBoth_82 : decode cX9_leadsBoth 82 = .ok (.iload 4, 2) := by decide +kernel
theorem dX9_leadsBoth_84 : decode cX9_leadsBoth 84 = .ok (.iload 5, 2) := by decide +kernel
theorem dX9_leadsBoth_86 : decode cX9_leadsBoth 86 = .ok (.invokevirtual 209, 3) := by decide +kernel
theorem dX9_leadsBoth_89 : decode cX9_leadsBoth 89 = .ok (.istore 11, 2) := by decide +kernel
theorem dX9_leadsBoth_91 : decode cX9_leadsBoth 91 = .ok (.aload_n 0, 1) := by decide +kernel
theorem dX9_leadsBoth_92 : decode cX9_leadsBoth 92 = .ok (.iload 7, 2) := by decide +kernel
theorem dX9_leadsBoth_94 : decode cX9_leadsBoth 94 = .ok (.iconst 2, 1) := by decide +kernel
theorem dX9_leadsBoth_95 : decode cX9_leadsBoth 95 = .ok (.iload 9, 2) := by decide +kernel
theorem dX9_leadsBoth_97 : decode cX9_leadsBoth 97 = .ok (.invokevirtual 90, 3) := by decide +kernel
theorem dX9_leadsBoth_100 : decode cX9_leadsBoth 100 = .ok (.aload_n 0, 1) := by decide +kernel
theorem dX9_leadsBoth_101 : decode cX9_leadsBoth 101 = .ok (.iload 8, 2) := by decide +kernel
theorem dX9_leadsBoth_103 : decode cX9_leadsBoth 103 = .ok (.iconst 2, 1) := by decide +kernel
theorem dX9_leadsBoth_104 : decode cX9_leadsBoth 104 = .ok (.iload 10, 2) := by decide +kernel
theorem dX9_leadsBoth_106 : decode cX9_leadsBoth 106 = .ok (.invokevirtual 90, 3) := by decide +kernel
theorem dX9_leadsBoth_109 : decode cX9_leadsBoth 109 = .ok (.iload 11, 2) := by decide +kernel
theorem dX9_leadsBoth_111 : decode cX9_leadsBoth 111 = .ok (.ireturn, 1) := by decide +kernel
set_option maxRecDepth 20000 in
theorem ggX9_leads_X9_isCell : GoodIn wsX9_leads wsX9_isCell := goodIn_r _ [9, 10, 11, 12, 8, 13, 144, 145, 146, 147, 148, 149, 150, 151, 152, 153, 154, 155, 156, 157, 158, 159, 160, 161, 162, 163, 164, 165, 166, 167, 168, 169, 170, 171] (by decide +kernel) (by decide +kernel)
set_option maxRecDepth 20000 in
theorem gX9_leads_X9_isCell : GoodIn wsX9_leads (wsV RX9 68 RX9 yX9_isCell wsX9_isCell) := goodIn_app (goodIn_of _ (by decide +kernel)) ggX9_leads_X9_isCell
set_option maxRecDepth 20000 in
theorem ggX9_leads_X9_in : GoodIn wsX9_leads wsX9_in := goodIn_r _ [13] (by decide +kernel) (by decide +kernel)
set_option maxRecDepth 20000 in
theorem gX9_leads_X9_in : GoodIn wsX9_leads (va_wsS RX9 54 yX9_in wsX9_in) := goodIn_app (goodIn_of _ (by decide +kernel)) ggX9_leads_X9_in
set_option maxRecDepth 20000 in
theorem ggX9_leads_X9_errs : GoodIn wsX9_leads wsX9_errs := goodIn_r _ [17, 18, 19, 144, 145, 146, 147, 148, 149, 150, 151, 152, 153, 154, 155, 156, 157, 158, 159, 160, 161, 162, 163, 164, 165, 166, 167, 168, 169, 170, 171] (by decide +kernel) (by decide +kernel)
set_option maxRecDepth 20000 in
theorem gX9_leads_X9_errs : GoodIn wsX9_leads (wsV RX9 59 RX9 yX9_errs wsX9_errs) := goodIn_app (goodIn_of _ (by decide +kernel)) ggX9_leads_X9_errs
set_option maxRecDepth 20000 in
theorem ggX9_leads_X9_findLeads : GoodIn wsX9_leads wsX9_findLeads := goodIn_r _ [23, 10, 24, 25, 26, 8, 27, 4, 28, 29, 30, 31, 32, 33, 34, 35, 36, 37, 38, 39, 40, 41, 42, 43, 44, 45, 46, 1, 47, 48, 49, 50, 51, 52, 53, 54, 55, 56, 57, 58, 59, 60, 61, 62, 63, 64, 65, 66, 67, 68, 69, 70, 71, 72, 73, 74, 75, 76, 77, 78, 79, 80, 81, 82, 83, 84, 85, 86, 87, 88, 89, 90, 91, 92, 93, 94, 95, 96, 97, 11, 12, 13, 98, 99, 100, 101, 102, 103, 104, 105, 106, 107, 108, 109, 110, 111, 112, 113, 114, 115, 116, 117, 118, 119, 120, 121, 122, 123, 124, 125, 126, 127, 128, 129, 130, 131, 132, 133, 134, 135, 5, 6, 7, 9, 136, 137, 138, 139, 140, 141, 142, 143, 144, 145, 146, 147, 148, 149, 150, 151, 152, 153, 154, 155, 156, 157, 158, 159, 160, 161, 162, 163, 164, 165, 166, 167, 168, 169, 170, 171] (by decide +kernel) (by decide +kernel)
set_option maxRecDepth 20000 in
theorem gX9_leads_X9_findLeads : GoodIn wsX9_leads (wsV RX9 216 RX9 yX9_findLeads wsX9_findLeads) := goodIn_app (goodIn_of _ (by decide +kernel)) ggX9_leads_X9_findLeads
theorem dX9_leads_0 : decode cX9_leads 0 = .ok (.aload_n 0, 1) := by decide +kernel
theorem dX9_leads_1 : decode cX9_leads 1 = .ok (.iload_n 1, 1) := by decide +kernel
theorem dX9_leads_2 : decode cX9_leads 2 = .ok (.invokevirtual 68, 3) := by decide +kernel
theorem dX9_leads_5 : decode cX9_leads 5 = .ok (.ifCond .eq 32, 3) := by decide +kernel
theorem dX9_leads_8 : decode cX9_leads 8 = .ok (.iload_n 2, 1) := by decide +kernel
theorem dX9_leads_9 : decode cX9_leads 9 = .ok (.iconst 0, 1) := by decide +kernel
theorem dX9_leads_10 : decode cX9_leads 10 = .ok (.ldc 72, 2) := by decide +kernel
theorem dX9_leads_12 : decode cX9_leads 12 = .ok (.invokestatic 54, 3) := by decide +kernel
theorem dX9_leads_15 : decode cX9_leads 15 = .ok (.ifCond .eq 22, 3) := by decide +kernel
theorem dX9_leads_18 : decode cX9_leads 18 = .ok (.iload_n 3, 1) := by decide +kernel
theorem dX9_leads_19 : decode cX9_leads 19 = .ok (.iconst 0, 1) := by decide +kernel
theorem dX9_leads_20 : decode cX9_leads 20 = .ok (.iconst 3, 1) := by decide +kernel
theorem dX9_leads_21 : decode cX9_leads 21 = .ok (.invokestatic 54, 3) := by decide +kernel
theorem dX9_leads_24 : decode cX9_leads 24 = .ok (.ifCond .eq 13, 3) := by decide +kernel
theorem dX9_leads_27 : decode cX9_leads 27 = .ok (.iload 4, 2) := by decide +kernel
theorem dX9_leads_29 : decode cX9_leads 29 = .ok (.iconst (-1), 1) := by decide +kernel
theorem dX9_leads_30 : decode cX9_leads 30 = .ok (.iconst 3, 1) := by decide +kernel
theorem dX9_leads_31 : decode cX9_leads 31 = .ok (.invokestatic 54, 3) := by decide +kernel
theorem dX9_leads_34 : decode cX9_leads 34 = .ok (.ifCond .ne 10, 3) := by decide +kernel
theorem dX9_leads_37 : decode cX9_leads 37 = .ok (.aload_n 0, 1) := by decide +kernel
theorem dX9_leads_38 : decode cX9_leads 38 = .ok (.ldc 58, 2) := by decide +kernel
theorem dX9_leads_40 : decode cX9_leads 40 = .ok (.invokevirtual 59, 3) := by decide +kernel
theorem dX9_leads_43 : decode cX9_leads 43 = .ok (.ireturn, 1) := by decide +kernel
theorem dX9_leads_44 : decode cX9_leads 44 = .ok (.aload_n 0, 1) := by decide +kernel
theorem dX9_leads_45 : decode cX9_leads 45 = .ok (.iload_n 1, 1) := by decide +kernel
theorem dX9_leads_46 : decode cX9_leads 46 = .ok (.iload_n 2, 1) := by decide +kernel
theorem dX9_leads_47 : decode cX9_leads 47 = .ok (.iload_n 3, 1) := by decide +kernel
theorem dX9_leads_48 : decode cX9_leads 48 = .ok (.invokevirtual 216, 3) := by decide +kernel
theorem dX9_leads_51 : decode cX9_leads 51 = .ok (.istore 5, 2) := by decide +kernel
theorem dX9_leads_53 : decode cX9_leads 53 = .ok (.iload 5, 2) := by decide +kernel
theorem dX9_leads_55 : decode cX9_leads 55 = .ok (.ifCond .ge 10, 3) := by decide +kernel
theorem dX9_leads_58 : decode cX9_leads 58 = .ok (.aload_n 0, 1) := by decide +kernel
theorem dX9_leads_59 : decode cX9_leads 59 = .ok (.ldc 204, 2) := by decide +kernel
theorem dX9_leads_61 : decode cX9_leads 61 = .ok (.invokevirtual 59, 3) := by decide +kernel
theorem dX9_leads_64 : decode cX9_leads 64 = .ok (.ireturn, 1) := by decide +kernel
theorem dX9_leads_65 : decode cX9_leads 65 = .ok (.iload 4, 2) := by decide +kernel
theorem dX9_leads_67 : decode cX9_leads 67 = .ok (.ifCond .ge 8, 3) := by decide +kernel
theorem dX9_leads_70 : decode cX9_leads 70 = .ok (.iload 5, 2) := by decide +kernel
theorem dX9_leads_72 : decode cX9_leads 72 = .ok (.goto 19, 3) := by decide +kernel
theorem dX9_leads_75 : decode cX9_leads 75 = .ok (.aload_n 0, 1) := by decide +kernel
theorem dX9_leads_76 : decode cX9_leads 76 = .ok (.getfield 32, 3) := by decide +kernel
theorem dX9_leads_79 : decode cX9_leads 79 = .ok (.iload 4, 2) := by decide +kernel
theorem dX9_leads_81 : decode cX9_leads 81 = .ok (.ifCond .ge 7, 3) := by decide +kernel
theorem dX9_leads_84 : decode cX9_leads 84 = .ok (.iconst 0, 1) := by decide +kernel
theorem dX9_leads_85 : decode cX9_leads 85 = .ok (.goto 5, 3) := by decide +kernel
theorem dX9_leads_88 : decode cX9_leads 88 = .ok (.iload 4, 2) := by decide +kernel
theorem dX9_leads_90 : decode cX9_leads 90 = .ok (.iaload, 1) := by decide +kernel
theorem dX9_leads_91 : decode cX9_leads 91 = .ok (.ireturn, 1) := by decide +kernel
set_option maxRecDepth 20000 in
theorem ggX9_sums_X9_in : GoodIn wsX9_sums wsX9_in := goodIn_r _ [8] (by decide +kernel) (by decide +kernel)
set_option maxRecDepth 20000 in
theorem gX9_sums_X9_in : GoodIn wsX9_sums (va_wsS RX9 54 yX9_in wsX9_in) := goodIn_app (goodIn_of _ (by decide +kernel)) ggX9_sums_X9_in
set_option maxRecDepth 20000 in
theorem ggX9_sums_X9_errs : GoodIn wsX9_sums wsX9_errs := goodIn_r _ [12, 13, 14, 18, 19, 20, 21, 22, 23, 24, 25, 26, 27, 28, 29, 30, 31, 32, 33, 34, 35, 36, 37, 38, 39, 40, 41, 42, 43, 44, 45] (by decide +kernel) (by decide +kernel)
set_option maxRecDepth 20000 in
theorem gX9_sums_X9_errs : GoodIn wsX9_sums (wsV RX9 59 RX9 yX9_errs wsX9_errs) := goodIn_app (goodIn_of _ (by decide +kernel)) ggX9_sums_X9_errs
set_option maxRecDepth 20000 in
theorem ggX9_sums_X9_has : GoodIn wsX9_sums wsX9_has := goodIn_r _ [17] (by decide +kernel) (by decide +kernel)
set_option maxRecDepth 20000 in
theorem gX9_sums_X9_has : GoodIn wsX9_sums (va_wsS RX9 76 yX9_has wsX9_has) := goodIn_app (goodIn_of _ (by decide +kernel)) ggX9_sums_X9_has
theorem dX9_sums_0 : decode cX9_sums 0 = .ok (.iload_n 1, 1) := by decide +kernel
theorem dX9_sums_1 : decode cX9_sums 1 = .ok (.iconst 0, 1) := by decide +kernel
theorem dX9_sums_2 : decode cX9_sums 2 = .ok (.ldc 203, 2) := by decide +kernel
theorem dX9_sums_4 : decode cX9_sums 4 = .ok (.invokestatic 54, 3) := by decide +kernel
theorem dX9_sums_7 : decode cX9_sums 7 = .ok (.ifCond .eq 12, 3) := by decide +kernel
theorem dX9_sums_10 : decode cX9_sums 10 = .ok (.iload_n 2, 1) := by decide +kernel
theorem dX9_sums_11 : decode cX9_sums 11 = .ok (.iconst 0, 1) := by decide +kernel
theorem dX9_sums_12 : decode cX9_sums 12 = .ok (.iconst 1, 1) := by decide +kernel
theorem dX9_sums_13 : decode cX9_sums 13 = .ok (.invokestatic 54, 3) := by decide +kernel
theorem dX9_sums_16 : decode cX9_sums 16 = .ok (.ifCond .ne 10, 3) := by decide +kernel
theorem dX9_sums_19 : decode cX9_sums 19 = .ok (.aload_n 0, 1) := by decide +kernel
theorem dX9_sums_20 : decode cX9_sums 20 = .ok (.ldc 58, 2) := by decide +kernel
theorem dX9_sums_22 : decode cX9_sums 22 = .ok (.invokevirtual 59, 3) := by decide +kernel
theorem dX9_sums_25 : decode cX9_sums 25 = .ok (.ireturn, 1) := by decide +kernel
theorem dX9_sums_26 : decode cX9_sums 26 = .ok (.iconst 0, 1) := by decide +kernel
theorem dX9_sums_27 : decode cX9_sums 27 = .ok (.istore_n 3, 1) := by decide +kernel
theorem dX9_sums_28 : decode cX9_sums 28 = .ok (.iconst 0, 1) := by decide +kernel
theorem dX9_sums_29 : decode cX9_sums 29 = .ok (.istore 4, 2) := by decide +kernel
theorem dX9_sums_31 : decode cX9_sums 31 = .ok (.iconst 1, 1) := by decide +kernel
theorem dX9_sums_32 : decode cX9_sums 32 = .ok (.aload_n 0, 1) := by decide +kernel
theorem dX9_sums_33 : decode cX9_sums 33 = .ok (.getfield 7, 3) := by decide +kernel
theorem dX9_sums_36 : decode cX9_sums 36 = .ok (.iconst 3, 1) := by decide +kernel
theorem dX9_sums_37 : decode cX9_sums 37 = .ok (.iaload, 1) := by decide +kernel
theorem dX9_sums_38 : decode cX9_sums 38 = .ok (.ishl, 1) := by decide +kernel
theorem dX9_sums_39 : decode cX9_sums 39 = .ok (.iconst 1, 1) := by decide +kernel
theorem dX9_sums_40 : decode cX9_sums 40 = .ok (.isub, 1) := by decide +kernel
theorem dX9_sums_41 : decode cX9_sums 41 = .ok (.istore 5, 2) := by decide +kernel
theorem dX9_sums_43 : decode cX9_sums 43 = .ok (.iload 5, 2) := by decide +kernel
theorem dX9_sums_45 : decode cX9_sums 45 = .ok (.ifCond .lt 90, 3) := by decide +kernel
theorem dX9_sums_48 : decode cX9_sums 48 = .ok (.iconst 0, 1) := by decide +kernel
theorem dX9_sums_49 : decode cX9_sums 49 = .ok (.istore 6, 2) := by decide +kernel
theorem dX9_sums_51 : decode cX9_sums 51 = .ok (.iconst 0, 1) := by decide +kernel
theorem dX9_sums_52 : decode cX9_sums 52 = .ok (.istore 7, 2) := by decide +kernel
theorem dX9_sums_54 : decode cX9_sums 54 = .ok (.iload 7, 2) := by decide +kernel
theorem dX9_sums_56 : decode cX9_sums 56 = .ok (.aload_n 0, 1) := by decide +kernel
theorem dX9_sums_57 : decode cX9_sums 57 = .ok (.getfield 7, 3) := by decide +kernel
theorem dX9_sums_60 : decode cX9_sums 60 = .ok (.iconst 3, 1) := by decide +kernel
theorem dX9_sums_61 : decode cX9_sums 61 = .ok (.iaload, 1) := by decide +kernel
theorem dX9_sums_62 : decode cX9_sums 62 = .ok (.if_icmp .ge 38, 3) := by decide +kernel
theorem dX9_sums_65 : decode cX9_sums 65 = .ok (.iload 6, 2) := by decide +kernel
theorem dX9_sums_67 : decode cX9_sums 67 = .ok (.iload 5, 2) := by decide +kernel
theorem dX9_sums_69 : decode cX9_sums 69 = .ok (.iload 7, 2) := by decide +kernel
theorem dX9_sums_71 : decode cX9_sums 71 = .ok (.invokestatic 76, 3) := by decide +kernel
theorem dX9_sums_74 : decode cX9_sums 74 = .ok (.ifCond .eq 16, 3) := by decide +kernel
theorem dX9_sums_77 : decode cX9_sums 77 = .ok (.aload_n 0, 1) := by decide +kernel
theorem dX9_sums_78 : decode cX9_sums 78 = .ok (.getfield 7, 3) := by decide +kernel
theorem dX9_sums_81 : decode cX9_sums 81 = .ok (.bipush 12, 2) := by decide +kernel
theorem dX9_sums_83 : decode cX9_sums 83 = .ok (.iload 7, 2) := by decide +kernel
theorem dX9_sums_85 : decode cX9_sums 85 = .ok (.iadd, 1) := by decide +kernel
theorem dX9_sums_86 : decode cX9_sums 86 = .ok (.iaload, 1) := by decide +kernel
theorem dX9_sums_87 : decode cX9_sums 87 = .ok (.goto 4, 3) := by decide +kernel
theorem dX9_sums_90 : decode cX9_sums 90 = .ok (.iconst 0, 1) := by decide +kernel
theorem dX9_sums_91 : decode cX9_sums 91 = .ok (.iadd, 1) := by decide +kernel
theorem dX9_sums_92 : decode cX9_sums 92 = .ok (.istore 6, 2) := by decide +kernel
theorem dX9_sums_94 : decode cX9_sums 94 = .ok (.iinc 7 1, 3) := by decide +kernel
theorem dX9_sums_97 : decode cX9_sums 97 = .ok (.goto (-43), 3) := by decide +kernel
theorem dX9_sums_100 : decode cX9_sums 100 = .ok (.iload 6, 2) := by decide +kernel
theorem dX9_sums_102 : decode cX9_sums 102 = .ok (.iload_n 1, 1) := by decide +kernel
theorem dX9_sums_103 : decode cX9_sums 103 = .ok (.if_icmp .ne 8, 3) := by decide +kernel
theorem dX9_sums_106 : decode cX9_sums 106 = .ok (.iload 5, 2) := by decide +kernel
theorem dX9_sums_108 : decode cX9_sums 108 = .ok (.goto 5, 3) := by decide +kernel
theorem dX9_sums_111 : decode cX9_sums 111 = .ok (.iload 4, 2) := by decide +kernel
theorem dX9_sums_113 : decode cX9_sums 113 = .ok (.istore 4, 2) := by decide +kernel
theorem dX9_sums_115 : decode cX9_sums 115 = .ok (.iload_n 3, 1) := by decide +kernel
theorem dX9_sums_116 : decode cX9_sums 116 = .ok (.iload 6, 2) := by decide +kernel
theorem dX9_sums_118 : decode cX9_sums 118 = .ok (.iload_n 1, 1) := by decide +kernel
theorem dX9_sums_119 : decode cX9_sums 119 = .ok (.if_icmp .ne 7, 3) := by decide +kernel
theorem dX9_sums_122 : decode cX9_sums 122 = .ok (.iconst 1, 1) := by decide +kernel
theorem dX9_sums_123 : decode cX9_sums 123 = .ok (.goto 4, 3) := by decide +kernel
theorem dX9_sums_126 : decode cX9_sums 126 = .ok (.iconst 0, 1) := by decide +kernel
theorem dX9_sums_127 : decode cX9_sums 127 = .ok (.iadd, 1) := by decide +kernel
theorem dX9_sums_128 : decode cX9_sums 128 = .ok (.istore_n 3, 1) := by decide +kernel
theorem dX9_sums_129 : decode cX9_sums 129 = .ok (.iinc 5 (-1), 3) := by decide +kernel
theorem dX9_sums_132 : decode cX9_sums 132 = .ok (.goto (-89), 3) := by decide +kernel
theorem dX9_sums_135 : decode cX9_sums 135 = .ok (.iload_n 2, 1) := by decide +kernel
theorem dX9_sums_136 : decode cX9_sums 136 = .ok (.iconst 1, 1) := by decide +kernel
theorem dX9_sums_137 : decode cX9_sums 137 = .ok (.if_icmp .ne 14, 3) := by decide +kernel
theorem dX9_sums_140 : decode cX9_sums 140 = .ok (.iload_n 3, 1) := by decide +kernel
theorem dX9_sums_141 : decode cX9_sums 141 = .ok (.ifCond .ne 10, 3) := by decide +kernel
theorem dX9_sums_144 : decode cX9_sums 144 = .ok (.aload_n 0, 1) := by decide +kernel
theorem dX9_sums_145 : decode cX9_sums 145 = .ok (.ldc 204, 2) := by decide +kernel
theorem dX9_sums_147 : decode cX9_sums 147 = .ok (.invokevirtual 59, 3) := by decide +kernel
theorem dX9_sums_150 : decode cX9_sums 150 = .ok (.ireturn, 1) := by decide +kernel
theorem dX9_sums_151 : decode cX9_sums 151 = .ok (.iload_n 2, 1) := by decide +kernel
theorem dX9_sums_152 : decode cX9_sums 152 = .ok (.ifCond .ne 7, 3) := by decide +kernel
theorem dX9_sums_155 : decode cX9_sums 155 = .ok (.iload_n 3, 1) := by decide +kernel
theorem dX9_sums_156 : decode cX9_sums 156 = .ok (.goto 5, 3) := by decide +kernel
theorem dX9_sums_159 : decode cX9_sums 159 = .ok (.iload 4, 2) := by decide +kernel
theorem dX9_sums_161 : decode cX9_sums 161 = .ok (.ireturn, 1) := by decide +kernel
set_option maxRecDepth 20000 in
theorem ggX9_isSheet_X9_in : GoodIn wsX9_isSheet wsX9_in := goodIn_r _ [4] (by decide +kernel) (by decide +kernel)
set_option maxRecDepth 20000 in
theorem gX9_isSheet_X9_in : GoodIn wsX9_isSheet (va_wsS RX9 54 yX9_in wsX9_in) := goodIn_app (goodIn_of _ (by decide +kernel)) ggX9_isSheet_X9_in
theorem dX9_isSheet_0 : decode cX9_isSheet 0 = .ok (.iload_n 0, 1) := by decide +kernel
theorem dX9_isSheet_1 : decode cX9_isSheet 1 = .ok (.iconst 0, 1) := by decide +kernel
theorem dX9_isSheet_2 : decode cX9_isSheet 2 = .ok (.iconst 3, 1) := by decide +kernel
theorem dX9_isSheet_3 : decode cX9_isSheet 3 = .ok (.invokestatic 54, 3) := by decide +kernel
theorem dX9_isSheet_6 : decode cX9_isSheet 6 = .ok (.ireturn, 1) := by decide +kernel
set_option maxRecDepth 20000 in
theorem ggX9_grows_X9_has : GoodIn wsX9_grows wsX9_has := goodIn_r _ [7] (by decide +kernel) (by decide +kernel)
set_option maxRecDepth 20000 in
theorem gX9_grows_X9_has : GoodIn wsX9_grows (va_wsS RX9 76 yX9_has wsX9_has) := goodIn_app (goodIn_of _ (by decide +kernel)) ggX9_grows_X9_has
set_option maxRecDepth 20000 in
theorem ggX9_grows_X9_counts : GoodIn wsX9_grows wsX9_counts := goodIn_r _ [11, 12, 13, 14, 6, 15, 1, 16, 17, 18, 19, 20, 21, 22, 23, 24, 25, 26, 27, 28, 29, 30, 31, 32, 33, 34, 35, 36, 37, 38, 39, 40, 41, 42, 43] (by decide +kernel) (by decide +kernel)
set_option maxRecDepth 20000 in
theorem gX9_grows_X9_counts : GoodIn wsX9_grows (wsV RX9 100 RX9 yX9_counts wsX9_counts) := goodIn_app (goodIn_of _ (by decide +kernel)) ggX9_grows_X9_counts
theorem dX9_grows_0 : decode cX9_grows 0 = .ok (.iconst 1, 1) := by decide +kernel
theorem dX9_grows_1 : decode cX9_grows 1 = .ok (.istore_n 3, 1) := by decide +kernel
theorem dX9_grows_2 : decode cX9_grows 2 = .ok (.iconst 0, 1) := by decide +kernel
theorem dX9_grows_3 : decode cX9_grows 3 = .ok (.istore 4, 2) := by decide +kernel
theorem dX9_grows_5 : decode cX9_grows 5 = .ok (.iload 4, 2) := by decide +kernel
theorem dX9_grows_7 : decode cX9_grows 7 = .ok (.aload_n 0, 1) := by decide +kernel
theorem dX9_grows_8 : decode cX9_grows 8 = .ok (.getfield 7, 3) := by decide +kernel
theorem dX9_grows_11 : decode cX9_grows 11 = .ok (.iconst 3, 1) := by decide +kernel
theorem dX9_grows_12 : decode cX9_grows 12 = .ok (.iaload, 1) := by decide +kernel
theorem dX9_grows_13 : decode cX9_grows 13 = .ok (.if_icmp .ge 101, 3) := by decide +kernel
theorem dX9_grows_16 : decode cX9_grows 16 = .ok (.iload_n 3, 1) := by decide +kernel
theorem dX9_grows_17 : decode cX9_grows 17 = .ok (.ifCond .eq 97, 3) := by decide +kernel
theorem dX9_grows_20 : decode cX9_grows 20 = .ok (.iconst 0, 1) := by decide +kernel
theorem dX9_grows_21 : decode cX9_grows 21 = .ok (.istore 5, 2) := by decide +kernel
theorem dX9_grows_23 : decode cX9_grows 23 = .ok (.iconst 0, 1) := by decide +kernel
theorem dX9_grows_24 : decode cX9_grows 24 = .ok (.istore 6, 2) := by decide +kernel
theorem dX9_grows_26 : decode cX9_grows 26 = .ok (.iload 6, 2) := by decide +kernel
theorem dX9_grows_28 : decode cX9_grows 28 = .ok (.aload_n 0, 1) := by decide +kernel
theorem dX9_grows_29 : decode cX9_grows 29 = .ok (.getfield 7, 3) := by decide +kernel
theorem dX9_grows_32 : decode cX9_grows 32 = .ok (.bipush 8, 2) := by decide +kernel
theorem dX9_grows_34 : decode cX9_grows 34 = .ok (.iaload, 1) := by decide +kernel
theorem dX9_grows_35 : decode cX9_grows 35 = .ok (.if_icmp .ge 48, 3) := by decide +kernel
theorem dX9_grows_38 : decode cX9_grows 38 = .ok (.iload 5, 2) := by decide +kernel
theorem dX9_grows_40 : decode cX9_grows 40 = .ok (.iload_n 2, 1) := by decide +kernel
theorem dX9_grows_41 : decode cX9_grows 41 = .ok (.iload 6, 2) := by decide +kernel
theorem dX9_grows_43 : decode cX9_grows 43 = .ok (.invokestatic 76, 3) := by decide +kernel
theorem dX9_grows_46 : decode cX9_grows 46 = .ok (.ifCond .eq 27, 3) := by decide +kernel
theorem dX9_grows_49 : decode cX9_grows 49 = .ok (.aload_n 0, 1) := by decide +kernel
theorem dX9_grows_50 : decode cX9_grows 50 = .ok (.getfield 47, 3) := by decide +kernel
theorem dX9_grows_53 : decode cX9_grows 53 = .ok (.iload 6, 2) := by decide +kernel
theorem dX9_grows_55 : decode cX9_grows 55 = .ok (.iaload, 1) := by decide +kernel
theorem dX9_grows_56 : decode cX9_grows 56 = .ok (.iload 4, 2) := by decide +kernel
theorem dX9_grows_58 : decode cX9_grows 58 = .ok (.invokestatic 76, 3) := by decide +kernel
theorem dX9_grows_61 : decode cX9_grows 61 = .ok (.ifCond .eq 12, 3) := by decide +kernel
theorem dX9_grows_64 : decode cX9_grows 64 = .ok (.aload_n 0, 1) := by decide +kernel
theorem dX9_grows_65 : decode cX9_grows 65 = .ok (.iload 6, 2) := by decide +kernel
theorem dX9_grows_67 : decode cX9_grows 67 = .ok (.invokevirtual 100, 3) := by decide +kernel
theorem dX9_grows_70 : decode cX9_grows 70 = .ok (.goto 4, 3) := by decide +kernel
theorem dX9_grows_73 : decode cX9_grows 73 = .ok (.iconst 0, 1) := by decide +kernel
theorem dX9_grows_74 : decode cX9_grows 74 = .ok (.iadd, 1) := by decide +kernel
theorem dX9_grows_75 : decode cX9_grows 75 = .ok (.istore 5, 2) := by decide +kernel
theorem dX9_grows_77 : decode cX9_grows 77 = .ok (.iinc 6 1, 3) := by decide +kernel
theorem dX9_grows_80 : decode cX9_grows 80 = .ok (.goto (-54), 3) := by decide +kernel
theorem dX9_grows_83 : decode cX9_grows 83 = .ok (.iload 5, 2) := by decide +kernel
theorem dX9_grows_85 : decode cX9_grows 85 = .ok (.iconst 2, 1) := by decide +kernel
theorem dX9_grows_86 : decode cX9_grows 86 = .ok (.idiv, 1) := by decide +kernel
theorem dX9_grows_87 : decode cX9_grows 87 = .ok (.aload_n 0, 1) := by decide +kernel
theorem dX9_grows_88 : decode cX9_grows 88 = .ok (.getfield 41, 3) := by decide +kernel
theorem dX9_grows_91 : decode cX9_grows 91 = .ok (.bipush 40, 2) := by decide +kernel
theorem dX9_grows_93 : decode cX9_grows 93 = .ok (.iload_n 1, 1) := by decide +kernel
theorem dX9_grows_94 : decode cX9_grows 94 = .ok (.imul, 1) := by decide +kernel
theorem dX9_grows_95 : decode cX9_grows 95 = .ok (.iload 4, 2) := by decide +kernel
theorem dX9_grows_97 : decode cX9_grows 97 = .ok (.iadd, 1) := by decide +kernel
theorem dX9_grows_98 : decode cX9_grows 98 = .ok (.iaload, 1) := by decide +kernel
theorem dX9_grows_99 : decode cX9_grows 99 = .ok (.if_icmp .ne 7, 3) := by decide +kernel
theorem dX9_grows_102 : decode cX9_grows 102 = .ok (.iconst 1, 1) := by decide +kernel
theorem dX9_grows_103 : decode cX9_grows 103 = .ok (.goto 4, 3) := by decide +kernel
theorem dX9_grows_106 : decode cX9_grows 106 = .ok (.iconst 0, 1) := by decide +kernel
theorem dX9_grows_107 : decode cX9_grows 107 = .ok (.istore_n 3, 1) := by decide +kernel
theorem dX9_grows_108 : decode cX9_grows 108 = .ok (.iinc 4 1, 3) := by decide +kernel
theorem dX9_grows_111 : decode cX9_grows 111 = .ok (.goto (-106), 3) := by decide +kernel
theorem dX9_grows_114 : decode cX9_grows 114 = .ok (.iload_n 3, 1) := by decide +kernel
theorem dX9_grows_115 : decode cX9_grows 115 = .ok (.ireturn, 1) := by decide +kernel
set_option maxRecDepth 20000 in
theorem ggX9_looks_X9_seesOf : GoodIn wsX9_looks wsX9_seesOf := goodIn_r _ [7, 1, 8, 9, 10, 6, 11, 12, 13, 14, 15, 16, 17, 18, 19, 20, 21, 22, 23, 24, 25, 26, 27, 28, 29, 30, 31, 32, 33, 34, 35, 36, 37, 38, 39, 40, 41, 42, 43, 44, 45, 46, 47, 48, 49, 50, 51, 52, 53, 54, 55, 56, 57, 58, 59, 60, 61, 62, 63, 64, 65, 66, 67, 68, 69, 70, 71, 72, 73, 74, 75, 76, 77, 78, 79, 80, 81, 82, 83, 84, 85, 86, 87, 88, 89, 90, 91, 92, 93, 94, 95, 96, 97, 98, 99, 100, 101, 102, 103, 104, 105, 106, 107, 108, 109, 110, 111] (by decide +kernel) (by decide +kernel)
set_option maxRecDepth 20000 in
theorem gX9_looks_X9_seesOf : GoodIn wsX9_looks (wsV RX9 73 RX9 yX9_seesOf wsX9_seesOf) := goodIn_app (goodIn_of _ (by decide +kernel)) ggX9_looks_X9_seesOf
theorem dX9_looks_0 : decode cX9_looks 0 = .ok (.iconst 0, 1) := by decide +kernel
theorem dX9_looks_1 : decode cX9_looks 1 = .ok (.istore_n 1, 1) := by decide +kernel
theorem dX9_looks_2 : decode cX9_looks 2 = .ok (.iload_n 1, 1) := by decide +kernel
theorem dX9_looks_3 : decode cX9_looks 3 = .ok (.aload_n 0, 1) := by decide +kernel
theorem dX9_looks_4 : decode cX9_looks 4 = .ok (.getfield 7, 3) := by decide +kernel
theorem dX9_looks_7 : decode cX9_looks 7 = .ok (.bipush 8, 2) := by decide +kernel
theorem dX9_looks_9 : decode cX9_looks 9 = .ok (.iaload, 1) := by decide +kernel
theorem dX9_looks_10 : decode cX9_looks 10 = .ok (.if_icmp .ge 20, 3) := by decide +kernel
theorem dX9_looks_13 : decode cX9_looks 13 = .ok (.aload_n 0, 1) := by decide +kernel
theorem dX9_looks_14 : decode cX9_looks 14 = .ok (.getfield 47, 3) := by decide +kernel
theorem dX9_looks_17 : decode cX9_looks 17 = .ok (.iload_n 1, 1) := by decide +kernel
theorem dX9_looks_18 : decode cX9_looks 18 = .ok (.aload_n 0, 1) := by decide +kernel
theorem dX9_looks_19 : decode cX9_looks 19 = .ok (.iload_n 1, 1) := by decide +kernel
theorem dX9_looks_20 : decode cX9_looks 20 = .ok (.invokevirtual 73, 3) := by decide +kernel
theorem dX9_looks_23 : decode cX9_looks 23 = .ok (.iastore, 1) := by decide +kernel
theorem dX9_looks_24 : decode cX9_looks 24 = .ok (.iinc 1 1, 3) := by decide +kernel
theorem dX9_looks_27 : decode cX9_looks 27 = .ok (.goto (-25), 3) := by decide +kernel
theorem dX9_looks_30 : decode cX9_looks 30 = .ok (.return_, 1) := by decide +kernel
set_option maxRecDepth 20000 in
theorem ggX9_looked_X9_isSheet : GoodIn wsX9_looked wsX9_isSheet := goodIn_r _ [9, 10, 11, 8, 12] (by decide +kernel) (by decide +kernel)
set_option maxRecDepth 20000 in
theorem gX9_looked_X9_isSheet : GoodIn wsX9_looked (va_wsS RX9 219 yX9_isSheet wsX9_isSheet) := goodIn_app (goodIn_of _ (by decide +kernel)) ggX9_looked_X9_isSheet
set_option maxRecDepth 20000 in
theorem ggX9_looked_X9_in : GoodIn wsX9_looked wsX9_in := goodIn_r _ [12] (by decide +kernel) (by decide +kernel)
set_option maxRecDepth 20000 in
theorem gX9_looked_X9_in : GoodIn wsX9_looked (va_wsS RX9 54 yX9_in wsX9_in) := goodIn_app (goodIn_of _ (by decide +kernel)) ggX9_looked_X9_in
set_option maxRecDepth 20000 in
theorem ggX9_looked_X9_errs : GoodIn wsX9_looked wsX9_errs := goodIn_r _ [16, 17, 18, 110, 111, 112, 113, 114, 115, 116, 117, 118, 119, 120, 121, 122, 123, 124, 125, 126, 127, 128, 129, 130, 131, 132, 133, 134, 135, 136, 137] (by decide +kernel) (by decide +kernel)
set_option maxRecDepth 20000 in
theorem gX9_looked_X9_errs : GoodIn wsX9_looked (wsV RX9 59 RX9 yX9_errs wsX9_errs) := goodIn_app (goodIn_of _ (by decide +kernel)) ggX9_looked_X9_errs
set_option maxRecDepth 20000 in
theorem ggX9_looked_X9_looks : GoodIn wsX9_looked wsX9_looks := goodIn_r _ [22, 4, 23, 24, 25, 26, 8, 27, 28, 29, 30, 31, 32, 33, 34, 35, 36, 37, 38, 39, 40, 41, 42, 43, 44, 45, 46, 47, 48, 49, 50, 51, 52, 53, 54, 55, 56, 57, 58, 59, 60, 61, 62, 63, 64, 65, 66, 67, 68, 69, 70, 71, 72, 73, 74, 10, 11, 12, 75, 76, 77, 78, 79, 80, 81, 82, 83, 84, 85, 86, 87, 88, 89, 90, 91, 92, 93, 94, 95, 96, 97, 98, 99, 100, 110, 111, 112, 113, 114, 115, 116, 117, 118, 119, 120, 121, 122, 123, 124, 125, 126, 127, 128, 129, 130, 131, 132, 133, 134, 135, 136, 137] (by decide +kernel) (by decide +kernel)
set_option maxRecDepth 20000 in
theorem gX9_looked_X9_looks : GoodIn wsX9_looked (wsV RX9 222 RX9 yX9_looks wsX9_looks) := goodIn_app (goodIn_of _ (by decide +kernel)) ggX9_looked_X9_looks
set_option maxRecDepth 20000 in
theorem ggX9_looked_X9_grows : GoodIn wsX9_looked wsX9_grows := goodIn_r _ [104, 4, 23, 105, 98, 99, 8, 100, 106, 107, 108, 109, 28, 29, 30, 31, 110, 111, 112, 113, 114, 115, 116, 117, 118, 119, 120, 121, 122, 123, 124, 125, 126, 127, 128, 129, 130, 131, 132, 133, 134, 135, 136, 137] (by decide +kernel) (by decide +kernel)
set_option maxRecDepth 20000 in
theorem gX9_looked_X9_grows : GoodIn wsX9_looked (wsV RX9 225 RX9 yX9_grows wsX9_grows) := goodIn_app (goodIn_of _ (by decide +kernel)) ggX9_looked_X9_grows
theorem dX9_looked_0 : decode cX9_looked 0 = .ok (.iload_n 1, 1) := by decide +kernel
theorem dX9_looked_1 : decode cX9_looked 1 = .ok (.invokestatic 219, 3) := by decide +kernel
theorem dX9_looked_4 : decode cX9_looked 4 = .ok (.ifCond .eq 12, 3) := by decide +kernel
theorem dX9_looked_7 : decode cX9_looked 7 = .ok (.iload_n 2, 1) := by decide +kernel
theorem dX9_looked_8 : decode cX9_looked 8 = .ok (.iconst 0, 1) := by decide +kernel
theorem dX9_looked_9 : decode cX9_looked 9 = .ok (.iconst 1, 1) := by decide +kernel
theorem dX9_looked_10 : decode cX9_looked 10 = .ok (.invokestatic 54, 3) := by decide +kernel
theorem dX9_looked_13 : decode cX9_looked 13 = .ok (.ifCond .ne 10, 3) := by decide +kernel
theorem dX9_looked_16 : decode cX9_looked 16 = .ok (.aload_n 0, 1) := by decide +kernel
theorem dX9_looked_17 : decode cX9_looked 17 = .ok (.ldc 58, 2) := by decide +kernel
theorem dX9_looked_19 : decode cX9_looked 19 = .ok (.invokevirtual 59, 3) := by decide +kernel
theorem dX9_looked_22 : decode cX9_looked 22 = .ok (.ireturn, 1) := by decide +kernel
theorem dX9_looked_23 : decode cX9_looked 23 = .ok (.aload_n 0, 1) := by decide +kernel
theorem dX9_looked_24 : decode cX9_looked 24 = .ok (.getfield 35, 3) := by decide +kernel
theorem dX9_looked_27 : decode cX9_looked 27 = .ok (.iload_n 1, 1) := by decide +kernel
theorem dX9_looked_28 : decode cX9_looked 28 = .ok (.iaload, 1) := by decide +kernel
theorem dX9_looked_29 : decode cX9_looked 29 = .ok (.ifCond .eq 18, 3) := by decide +kernel
theorem dX9_looked_32 : decode cX9_looked 32 = .ok (.aload_n 0, 1) := by decide +kernel
theorem dX9_looked_33 : decode cX9_looked 33 = .ok (.getfield 38, 3) := by decide +kernel
theorem dX9_looked_36 : decode cX9_looked 36 = .ok (.iload_n 1, 1) := by decide +kernel
theorem dX9_looked_37 : decode cX9_looked 37 = .ok (.iaload, 1) := by decide +kernel
theorem dX9_looked_38 : decode cX9_looked 38 = .ok (.aload_n 0, 1) := by decide +kernel
theorem dX9_looked_39 : decode cX9_looked 39 = .ok (.getfield 7, 3) := by decide +kernel
theorem dX9_looked_42 : decode cX9_looked 42 = .ok (.iconst 3, 1) := by decide +kernel
theorem dX9_looked_43 : decode cX9_looked 43 = .ok (.iaload, 1) := by decide +kernel
theorem dX9_looked_44 : decode cX9_looked 44 = .ok (.if_icmp .eq 10, 3) := by decide +kernel
theorem dX9_looked_47 : decode cX9_looked 47 = .ok (.aload_n 0, 1) := by decide +kernel
theorem dX9_looked_48 : decode cX9_looked 48 = .ok (.ldc 204, 2) := by decide +kernel
theorem dX9_looked_50 : decode cX9_looked 50 = .ok (.invokevirtual 59, 3) := by decide +kernel
theorem dX9_looked_53 : decode cX9_looked 53 = .ok (.ireturn, 1) := by decide +kernel
theorem dX9_looked_54 : decode cX9_looked 54 = .ok (.aload_n 0, 1) := by decide +kernel
theorem dX9_looked_55 : decode cX9_looked 55 = .ok (.invokevirtual 222, 3) := by decide +kernel
theorem dX9_looked_58 : decode cX9_looked 58 = .ok (.iconst 0, 1) := by decide +kernel
theorem dX9_looked_59 : decode cX9_looked 59 = .ok (.istore_n 3, 1) := by decide +kernel
theorem dX9_looked_60 : decode cX9_looked 60 = .ok (.iconst 0, 1) := by decide +kernel
theorem dX9_looked_61 : decode cX9_looked 61 = .ok (.istore 4, 2) := by decide +kernel
theorem dX9_looked_63 : decode cX9_looked 63 = .ok (.iconst 1, 1) := by decide +kernel
theorem dX9_looked_64 : decode cX9_looked 64 = .ok (.aload_n 0, 1) := by decide +kernel
theorem dX9_looked_65 : decode cX9_looked 65 = .ok (.getfield 7, 3) := by decide +kernel
theorem dX9_looked_68 : decode cX9_looked 68 = .ok (.bipush 8, 2) := by decide +kernel
theorem dX9_looked_70 : decode cX9_looked 70 = .ok (.iaload, 1) := by decide +kernel
theorem dX9_looked_71 : decode cX9_looked 71 = .ok (.ishl, 1) := by decide +kernel
theorem dX9_looked_72 : decode cX9_looked 72 = .ok (.iconst 1, 1) := by decide +kernel
theorem dX9_looked_73 : decode cX9_looked 73 = .ok (.isub, 1) := by decide +kernel
theorem dX9_looked_74 : decode cX9_looked 74 = .ok (.istore 5, 2) := by decide +kernel
theorem dX9_looked_76 : decode cX9_looked 76 = .ok (.iload 5, 2) := by decide +kernel
theorem dX9_looked_78 : decode cX9_looked 78 = .ok (.ifCond .lt 26, 3) := by decide +kernel
theorem dX9_looked_81 : decode cX9_looked 81 = .ok (.aload_n 0, 1) := by decide +kernel
theorem dX9_looked_82 : decode cX9_looked 82 = .ok (.iload_n 1, 1) := by decide +kernel
theorem dX9_looked_83 : decode cX9_looked 83 = .ok (.iload 5, 2) := by decide +kernel
theorem dX9_looked_85 : decode cX9_looked 85 = .ok (.invokevirtual 225, 3) := by decide +kernel
theorem dX9_looked_88 : decode cX9_looked 88 = .ok (.ifCond .eq 10, 3) := by decide +kernel
theorem dX9_looked_91 : decode cX9_looked 91 = .ok (.iinc 3 1, 3) := by decide +kernel
theorem dX9_looked_94 : decode cX9_looked 94 = .ok (.iload 5, 2) := by decide +kernel
theorem dX9_looked_96 : decode cX9_looked 96 = .ok (.istore 4, 2) := by decide +kernel
theorem dX9_looked_98 : decode cX9_looked 98 = .ok (.iinc 5 (-1), 3) := by decide +kernel
theorem dX9_looked_101 : decode cX9_looked 101 = .ok (.goto (-25), 3) := by decide +kernel
theorem dX9_looked_104 : decode cX9_looked 104 = .ok (.iload_n 2, 1) := by decide +kernel
theorem dX9_looked_105 : decode cX9_looked 105 = .ok (.iconst 1, 1) := by decide +kernel
theorem dX9_looked_106 : decode cX9_looked 106 = .ok (.if_icmp .ne 14, 3) := by decide +kernel
theorem dX9_looked_109 : decode cX9_looked 109 = .ok (.iload_n 3, 1) := by decide +kernel
theorem dX9_looked_110 : decode cX9_looked 110 = .ok (.ifCond .ne 10, 3) := by decide +kernel
theorem dX9_looked_113 : decode cX9_looked 113 = .ok (.aload_n 0, 1) := by decide +kernel
theorem dX9_looked_114 : decode cX9_looked 114 = .ok (.ldc 204, 2) := by decide +kernel
theorem dX9_looked_116 : decode cX9_looked 116 = .ok (.invokevirtual 59, 3) := by decide +kernel
theorem dX9_looked_119 : decode cX9_looked 119 = .ok (.ireturn, 1) := by decide +kernel
theorem dX9_looked_120 : decode cX9_looked 120 = .ok (.iload_n 2, 1) := by decide +kernel
theorem dX9_looked_121 : decode cX9_looked 121 = .ok (.ifCond .ne 7, 3) := by decide +kernel
theorem dX9_looked_124 : decode cX9_looked 124 = .ok (.iload_n 3, 1) := by decide +kernel
theorem dX9_looked_125 : decode cX9_looked 125 = .ok (.goto 5, 3) := by decide +kernel
theorem dX9_looked_128 : decode cX9_looked 128 = .ok (.iload 4, 2) := by decide +kernel
theorem dX9_looked_130 : decode cX9_looked 130 = .ok (.ireturn, 1) := by decide +kernel
set_option maxRecDepth 20000 in
theorem ggX9_watch_X9_looks : GoodIn wsX9_watch wsX9_looks := goodIn_r _ [8, 1, 2, 9, 10, 11, 7, 12, 13, 14, 15, 16, 17, 18, 19, 20, 21, 22, 23, 24, 25, 26, 27, 28, 29, 30, 31, 32, 33, 34, 35, 36, 37, 38, 39, 40, 41, 42, 43, 44, 45, 46, 47, 48, 49, 50, 51, 52, 53, 54, 55, 56, 57, 58, 59, 60, 61, 62, 63, 64, 65, 66, 67, 68, 69, 70, 71, 72, 73, 74, 75, 76, 77, 78, 79, 80, 81, 82, 83, 84, 85, 86, 87, 88, 98, 99, 100, 101, 102, 103, 104, 105, 106, 107, 108, 109, 110, 111, 112, 113, 114, 115, 116, 117, 118, 119, 120, 121, 122, 123, 124, 125] (by decide +kernel) (by decide +kernel)
set_option maxRecDepth 20000 in
theorem gX9_watch_X9_looks : GoodIn wsX9_watch (wsV RX9 222 RX9 yX9_looks wsX9_looks) := goodIn_app (goodIn_of _ (by decide +kernel)) ggX9_watch_X9_looks
set_option maxRecDepth 20000 in
theorem ggX9_watch_X9_has : GoodIn wsX9_watch wsX9_has := goodIn_r _ [88] (by decide +kernel) (by decide +kernel)
set_option maxRecDepth 20000 in
theorem gX9_watch_X9_has : GoodIn wsX9_watch (va_wsS RX9 76 yX9_has wsX9_has) := goodIn_app (goodIn_of _ (by decide +kernel)) ggX9_watch_X9_has
set_option maxRecDepth 20000 in
theorem ggX9_watch_X9_bits : GoodIn wsX9_watch wsX9_bits := goodIn_r _ [91] (by decide +kernel) (by decide +kernel)
set_option maxRecDepth 20000 in
theorem gX9_watch_X9_bits : GoodIn wsX9_watch (va_wsS RX9 228 yX9_bits wsX9_bits) := goodIn_app (goodIn_of _ (by decide +kernel)) ggX9_watch_X9_bits
set_option maxRecDepth 20000 in
theorem ggX9_watch_X9_errs : GoodIn wsX9_watch wsX9_errs := goodIn_r _ [95, 96, 97, 98, 99, 100, 101, 102, 103, 104, 105, 106, 107, 108, 109, 110, 111, 112, 113, 114, 115, 116, 117, 118, 119, 120, 121, 122, 123, 124, 125] (by decide +kernel) (by decide +kernel)
set_option maxRecDepth 20000 in
theorem gX9_watch_X9_errs : GoodIn wsX9_watch (wsV RX9 59 RX9 yX9_errs wsX9_errs) := goodIn_app (goodIn_of _ (by decide +kernel)) ggX9_watch_X9_errs
theorem dX9_watch_0 : decode cX9_watch 0 = .ok (.aload_n 0, 1) := by decide +kernel
theorem dX9_watch_1 : decode cX9_watch 1 = .ok (.invokevirtual 222, 3) := by decide +kernel
theorem dX9_watch_4 : decode cX9_watch 4 = .ok (.iconst (-1), 1) := by decide +kernel
theorem dX9_watch_5 : decode cX9_watch 5 = .ok (.istore_n 1, 1) := by decide +kernel
theorem dX9_watch_6 : decode cX9_watch 6 = .ok (.iconst 0, 1) := by decide +kernel
theorem dX9_watch_7 : decode cX9_watch 7 = .ok (.istore_n 2, 1) := by decide +kernel
theorem dX9_watch_8 : decode cX9_watch 8 = .ok (.iload_n 2, 1) := by decide +kernel
theorem dX9_watch_9 : decode cX9_watch 9 = .ok (.iconst 1, 1) := by decide +kernel
theorem dX9_watch_10 : decode cX9_watch 10 = .ok (.aload_n 0, 1) := by decide +kernel
theorem dX9_watch_11 : decode cX9_watch 11 = .ok (.getfield 7, 3) := by decide +kernel
theorem dX9_watch_14 : decode cX9_watch 14 = .ok (.bipush 8, 2) := by decide +kernel
theorem dX9_watch_16 : decode cX9_watch 16 = .ok (.iaload, 1) := by decide +kernel
theorem dX9_watch_17 : decode cX9_watch 17 = .ok (.ishl, 1) := by decide +kernel
theorem dX9_watch_18 : decode cX9_watch 18 = .ok (.if_icmp .ge 86, 3) := by decide +kernel
theorem dX9_watch_21 : decode cX9_watch 21 = .ok (.iconst 0, 1) := by decide +kernel
theorem dX9_watch_22 : decode cX9_watch 22 = .ok (.istore_n 3, 1) := by decide +kernel
theorem dX9_watch_23 : decode cX9_watch 23 = .ok (.iconst 0, 1) := by decide +kernel
theorem dX9_watch_24 : decode cX9_watch 24 = .ok (.istore 4, 2) := by decide +kernel
theorem dX9_watch_26 : decode cX9_watch 26 = .ok (.iload 4, 2) := by decide +kernel
theorem dX9_watch_28 : decode cX9_watch 28 = .ok (.aload_n 0, 1) := by decide +kernel
theorem dX9_watch_29 : decode cX9_watch 29 = .ok (.getfield 7, 3) := by decide +kernel
theorem dX9_watch_32 : decode cX9_watch 32 = .ok (.bipush 8, 2) := by decide +kernel
theorem dX9_watch_34 : decode cX9_watch 34 = .ok (.iaload, 1) := by decide +kernel
theorem dX9_watch_35 : decode cX9_watch 35 = .ok (.if_icmp .ge 32, 3) := by decide +kernel
theorem dX9_watch_38 : decode cX9_watch 38 = .ok (.iload_n 3, 1) := by decide +kernel
theorem dX9_watch_39 : decode cX9_watch 39 = .ok (.iload_n 2, 1) := by decide +kernel
theorem dX9_watch_40 : decode cX9_watch 40 = .ok (.iload 4, 2) := by decide +kernel
theorem dX9_watch_42 : decode cX9_watch 42 = .ok (.invokestatic 76, 3) := by decide +kernel
theorem dX9_watch_45 : decode cX9_watch 45 = .ok (.ifCond .eq 13, 3) := by decide +kernel
theorem dX9_watch_48 : decode cX9_watch 48 = .ok (.aload_n 0, 1) := by decide +kernel
theorem dX9_watch_49 : decode cX9_watch 49 = .ok (.getfield 47, 3) := by decide +kernel
theorem dX9_watch_52 : decode cX9_watch 52 = .ok (.iload 4, 2) := by decide +kernel
theorem dX9_watch_54 : decode cX9_watch 54 = .ok (.iaload, 1) := by decide +kernel
theorem dX9_watch_55 : decode cX9_watch 55 = .ok (.goto 4, 3) := by decide +kernel
theorem dX9_watch_58 : decode cX9_watch 58 = .ok (.iconst 0, 1) := by decide +kernel
theorem dX9_watch_59 : decode cX9_watch 59 = .ok (.ior, 1) := by decide +kernel
theorem dX9_watch_60 : decode cX9_watch 60 = .ok (.istore_n 3, 1) := by decide +kernel
theorem dX9_watch_61 : decode cX9_watch 61 = .ok (.iinc 4 1, 3) := by decide +kernel
theorem dX9_watch_64 : decode cX9_watch 64 = .ok (.goto (-38), 3) := by decide +kernel
theorem dX9_watch_67 : decode cX9_watch 67 = .ok (.iload_n 3, 1) := by decide +kernel
theorem dX9_watch_68 : decode cX9_watch 68 = .ok (.iconst 1, 1) := by decide +kernel
theorem dX9_watch_69 : decode cX9_watch 69 = .ok (.aload_n 0, 1) := by decide +kernel
theorem dX9_watch_70 : decode cX9_watch 70 = .ok (.getfield 7, 3) := by decide +kernel
theorem dX9_watch_73 : decode cX9_watch 73 = .ok (.iconst 3, 1) := by decide +kernel
theorem dX9_watch_74 : decode cX9_watch 74 = .ok (.iaload, 1) := by decide +kernel
theorem dX9_watch_75 : decode cX9_watch 75 = .ok (.ishl, 1) := by decide +kernel
theorem dX9_watch_76 : decode cX9_watch 76 = .ok (.iconst 1, 1) := by decide +kernel
theorem dX9_watch_77 : decode cX9_watch 77 = .ok (.isub, 1) := by decide +kernel
theorem dX9_watch_78 : decode cX9_watch 78 = .ok (.if_icmp .ne 20, 3) := by decide +kernel
theorem dX9_watch_81 : decode cX9_watch 81 = .ok (.iload_n 1, 1) := by decide +kernel
theorem dX9_watch_82 : decode cX9_watch 82 = .ok (.ifCond .lt 14, 3) := by decide +kernel
theorem dX9_watch_85 : decode cX9_watch 85 = .ok (.iload_n 2, 1) := by decide +kernel
theorem dX9_watch_86 : decode cX9_watch 86 = .ok (.invokestatic 228, 3) := by decide +kernel
theorem dX9_watch_89 : decode cX9_watch 89 = .ok (.iload_n 1, 1) := by decide +kernel
theorem dX9_watch_90 : decode cX9_watch 90 = .ok (.invokestatic 228, 3) := by decide +kernel
theorem dX9_watch_93 : decode cX9_watch 93 = .ok (.if_icmp .ge 5, 3) := by decide +kernel
theorem dX9_watch_96 : decode cX9_watch 96 = .ok (.iload_n 2, 1) := by decide +kernel
theorem dX9_watch_97 : decode cX9_watch 97 = .ok (.istore_n 1, 1) := by decide +kernel
theorem dX9_watch_98 : decode cX9_watch 98 = .ok (.iinc 2 1, 3) := by decide +kernel
theorem dX9_watch_101 : decode cX9_watch 101 = .ok (.goto (-93), 3) := by decide +kernel
theorem dX9_watch_104 : decode cX9_watch 104 = .ok (.iload_n 1, 1) := by decide +kernel
theorem dX9_watch_105 : decode cX9_watch 105 = .ok (.ifCond .ge 12, 3) := by decide +kernel
theorem dX9_watch_108 : decode cX9_watch 108 = .ok (.aload_n 0, 1) := by decide +kernel
theorem dX9_watch_109 : decode cX9_watch 109 = .ok (.ldc 204, 2) := by decide +kernel
theorem dX9_watch_111 : decode cX9_watch 111 = .ok (.invokevirtual 59, 3) := by decide +kernel
theorem dX9_watch_114 : decode cX9_watch 114 = .ok (.goto 4, 3) := by decide +kernel
theorem dX9_watch_117 : decode cX9_watch 117 = .ok (.iload_n 1, 1) := by decide +kernel
theorem dX9_watch_118 : decode cX9_watch 118 = .ok (.ireturn, 1) := by decide +kernel
set_option maxRecDepth 20000 in
theorem ggX9_hide_X9_isCell : GoodIn wsX9_hide wsX9_isCell := goodIn_r _ [8, 2, 9, 10, 7, 11, 102, 103, 104, 105, 106, 107, 108, 109, 110, 111, 112, 113, 114, 115, 116, 117, 118, 119, 120, 121, 122, 123, 124, 125, 126, 127, 128, 129] (by decide +kernel) (by decide +kernel)
set_option maxRecDepth 20000 in
theorem gX9_hide_X9_isCell : GoodIn wsX9_hide (wsV RX9 68 RX9 yX9_isCell wsX9_isCell) := goodIn_app (goodIn_of _ (by decide +kernel)) ggX9_hide_X9_isCell
set_option maxRecDepth 20000 in
theorem ggX9_hide_X9_errs : GoodIn wsX9_hide wsX9_errs := goodIn_r _ [15, 16, 17, 102, 103, 104, 105, 106, 107, 108, 109, 110, 111, 112, 113, 114, 115, 116, 117, 118, 119, 120, 121, 122, 123, 124, 125, 126, 127, 128, 129] (by decide +kernel) (by decide +kernel)
set_option maxRecDepth 20000 in
theorem gX9_hide_X9_errs : GoodIn wsX9_hide (wsV RX9 59 RX9 yX9_errs wsX9_errs) := goodIn_app (goodIn_of _ (by decide +kernel)) ggX9_hide_X9_errs
set_option maxRecDepth 20000 in
theorem ggX9_hide_X9_bits : GoodIn wsX9_hide wsX9_bits := goodIn_r _ [20] (by decide +kernel) (by decide +kernel)
set_option maxRecDepth 20000 in
theorem gX9_hide_X9_bits : GoodIn wsX9_hide (va_wsS RX9 228 yX9_bits wsX9_bits) := goodIn_app (goodIn_of _ (by decide +kernel)) ggX9_hide_X9_bits
set_option maxRecDepth 20000 in
theorem ggX9_hide_X9_whoSees : GoodIn wsX9_hide wsX9_whoSees := goodIn_r _ [24, 2, 25, 26, 27, 7, 28, 29, 30, 31, 32, 33, 34, 35, 36, 37, 38, 39, 40, 41, 42, 43, 44, 45, 46, 47, 48, 49, 50, 51, 52, 53, 54, 55, 56, 57, 58, 59, 60, 61, 62, 63, 64, 65, 66, 67, 68, 69, 70, 71, 72, 73, 74, 75, 9, 10, 11, 76, 77, 78, 79, 80, 81, 82, 83, 84, 85, 86, 87, 88, 89, 90, 91, 92, 93, 94, 95, 96, 97, 98, 99, 100, 101, 102, 103, 104, 105, 106, 107, 108, 109, 110, 111, 112, 113, 114, 115, 116, 117, 118, 119, 120, 121, 122, 123, 124, 125, 126, 127, 128, 129] (by decide +kernel) (by decide +kernel)
set_option maxRecDepth 20000 in
theorem gX9_hide_X9_whoSees : GoodIn wsX9_hide (wsV RX9 83 RX9 yX9_whoSees wsX9_whoSees) := goodIn_app (goodIn_of _ (by decide +kernel)) ggX9_hide_X9_whoSees
theorem dX9_hide_0 : decode cX9_hide 0 = .ok (.aload_n 0, 1) := by decide +kernel
theorem dX9_hide_1 : decode cX9_hide 1 = .ok (.iload_n 1, 1) := by decide +kernel
theorem dX9_hide_2 : decode cX9_hide 2 = .ok (.invokevirtual 68, 3) := by decide +kernel
theorem dX9_hide_5 : decode cX9_hide 5 = .ok (.ifCond .ne 10, 3) := by decide +kernel
theorem dX9_hide_8 : decode cX9_hide 8 = .ok (.aload_n 0, 1) := by decide +kernel
theorem dX9_hide_9 : decode cX9_hide 9 = .ok (.ldc 58, 2) := by decide +kernel
theorem dX9_hide_11 : decode cX9_hide 11 = .ok (.invokevirtual 59, 3) := by decide +kernel
theorem dX9_hide_14 : decode cX9_hide 14 = .ok (.ireturn, 1) := by decide +kernel
theorem dX9_hide_15 : decode cX9_hide 15 = .ok (.aload_n 0, 1) := by decide +kernel
theorem dX9_hide_16 : decode cX9_hide 16 = .ok (.getfield 7, 3) := by decide +kernel
theorem dX9_hide_19 : decode cX9_hide 19 = .ok (.bipush 9, 2) := by decide +kernel
theorem dX9_hide_21 : decode cX9_hide 21 = .ok (.iaload, 1) := by decide +kernel
theorem dX9_hide_22 : decode cX9_hide 22 = .ok (.istore_n 2, 1) := by decide +kernel
theorem dX9_hide_23 : decode cX9_hide 23 = .ok (.iconst (-1), 1) := by decide +kernel
theorem dX9_hide_24 : decode cX9_hide 24 = .ok (.istore_n 3, 1) := by decide +kernel
theorem dX9_hide_25 : decode cX9_hide 25 = .ok (.iconst 0, 1) := by decide +kernel
theorem dX9_hide_26 : decode cX9_hide 26 = .ok (.istore 4, 2) := by decide +kernel
theorem dX9_hide_28 : decode cX9_hide 28 = .ok (.iload 4, 2) := by decide +kernel
theorem dX9_hide_30 : decode cX9_hide 30 = .ok (.iconst 1, 1) := by decide +kernel
theorem dX9_hide_31 : decode cX9_hide 31 = .ok (.aload_n 0, 1) := by decide +kernel
theorem dX9_hide_32 : decode cX9_hide 32 = .ok (.getfield 7, 3) := by decide +kernel
theorem dX9_hide_35 : decode cX9_hide 35 = .ok (.iconst 3, 1) := by decide +kernel
theorem dX9_hide_36 : decode cX9_hide 36 = .ok (.iaload, 1) := by decide +kernel
theorem dX9_hide_37 : decode cX9_hide 37 = .ok (.iconst 1, 1) := by decide +kernel
theorem dX9_hide_38 : decode cX9_hide 38 = .ok (.isub, 1) := by decide +kernel
theorem dX9_hide_39 : decode cX9_hide 39 = .ok (.ishl, 1) := by decide +kernel
theorem dX9_hide_40 : decode cX9_hide 40 = .ok (.if_icmp .ge 58, 3) := by decide +kernel
theorem dX9_hide_43 : decode cX9_hide 43 = .ok (.iload 4, 2) := by decide +kernel
theorem dX9_hide_45 : decode cX9_hide 45 = .ok (.iload_n 2, 1) := by decide +kernel
theorem dX9_hide_46 : decode cX9_hide 46 = .ok (.iand, 1) := by decide +kernel
theorem dX9_hide_47 : decode cX9_hide 47 = .ok (.ifCond .ne 45, 3) := by decide +kernel
theorem dX9_hide_50 : decode cX9_hide 50 = .ok (.iload_n 3, 1) := by decide +kernel
theorem dX9_hide_51 : decode cX9_hide 51 = .ok (.ifCond .lt 15, 3) := by decide +kernel
theorem dX9_hide_54 : decode cX9_hide 54 = .ok (.iload 4, 2) := by decide +kernel
theorem dX9_hide_56 : decode cX9_hide 56 = .ok (.invokestatic 228, 3) := by decide +kernel
theorem dX9_hide_59 : decode cX9_hide 59 = .ok (.iload_n 3, 1) := by decide +kernel
theorem dX9_hide_60 : decode cX9_hide 60 = .ok (.invokestatic 228, 3) := by decide +kernel
theorem dX9_hide_63 : decode cX9_hide 63 = .ok (.if_icmp .ge 29, 3) := by decide +kernel
theorem dX9_hide_66 : decode cX9_hide 66 = .ok (.aload_n 0, 1) := by decide +kernel
theorem dX9_hide_67 : decode cX9_hide 67 = .ok (.getfield 7, 3) := by decide +kernel
theorem dX9_hide_70 : decode cX9_hide 70 = .ok (.bipush 9, 2) := by decide +kernel
theorem dX9_hide_72 : decode cX9_hide 72 = .ok (.iload_n 2, 1) := by decide +kernel
theorem dX9_hide_73 : decode cX9_hide 73 = .ok (.iload 4, 2) := by decide +kernel
theorem dX9_hide_75 : decode cX9_hide 75 = .ok (.ior, 1) := by decide +kernel
theorem dX9_hide_76 : decode cX9_hide 76 = .ok (.iastore, 1) := by decide +kernel
theorem dX9_hide_77 : decode cX9_hide 77 = .ok (.aload_n 0, 1) := by decide +kernel
theorem dX9_hide_78 : decode cX9_hide 78 = .ok (.iload_n 1, 1) := by decide +kernel
theorem dX9_hide_79 : decode cX9_hide 79 = .ok (.invokevirtual 83, 3) := by decide +kernel
theorem dX9_hide_82 : decode cX9_hide 82 = .ok (.ifCond .ne 8, 3) := by decide +kernel
theorem dX9_hide_85 : decode cX9_hide 85 = .ok (.iload 4, 2) := by decide +kernel
theorem dX9_hide_87 : decode cX9_hide 87 = .ok (.goto 4, 3) := by decide +kernel
theorem dX9_hide_90 : decode cX9_hide 90 = .ok (.iload_n 3, 1) := by decide +kernel
theorem dX9_hide_91 : decode cX9_hide 91 = .ok (.istore_n 3, 1) := by decide +kernel
theorem dX9_hide_92 : decode cX9_hide 92 = .ok (.iinc 4 1, 3) := by decide +kernel
theorem dX9_hide_95 : decode cX9_hide 95 = .ok (.goto (-67), 3) := by decide +kernel
theorem dX9_hide_98 : decode cX9_hide 98 = .ok (.aload_n 0, 1) := by decide +kernel
theorem dX9_hide_99 : decode cX9_hide 99 = .ok (.getfield 7, 3) := by decide +kernel
theorem dX9_hide_102 : decode cX9_hide 102 = .ok (.bipush 9, 2) := by decide +kernel
theorem dX9_hide_104 : decode cX9_hide 104 = .ok (.iload_n 2, 1) := by decide +kernel
theorem dX9_hide_105 : decode cX9_hide 105 = .ok (.iastore, 1) := by decide +kernel
theorem dX9_hide_106 : decode cX9_hide 106 = .ok (.iload_n 3, 1) := by decide +kernel
theorem dX9_hide_107 : decode cX9_hide 107 = .ok (.ifCond .ge 12, 3) := by decide +kernel
theorem dX9_hide_110 : decode cX9_hide 110 = .ok (.aload_n 0, 1) := by decide +kernel
theorem dX9_hide_111 : decode cX9_hide 111 = .ok (.ldc 204, 2) := by decide +kernel
theorem dX9_hide_113 : decode cX9_hide 113 = .ok (.invokevirtual 59, 3) := by decide +kernel
theorem dX9_hide_116 : decode cX9_hide 116 = .ok (.goto 4, 3) := by decide +kernel
theorem dX9_hide_119 : decode cX9_hide 119 = .ok (.iload_n 3, 1) := by decide +kernel
theorem dX9_hide_120 : decode cX9_hide 120 = .ok (.ireturn, 1) := by decide +kernel
set_option maxRecDepth 20000 in
theorem ggX9_gains_X9_isPerson : GoodIn wsX9_gains wsX9_isPerson := goodIn_r _ [9, 2, 10, 11, 8, 12, 134, 135, 136, 137, 138, 139, 140, 141, 142, 143, 144, 145, 146, 147, 148, 149, 150, 151, 152, 153, 154, 155, 156, 157, 158, 159, 160, 161] (by decide +kernel) (by decide +kernel)
set_option maxRecDepth 20000 in
theorem gX9_gains_X9_isPerson : GoodIn wsX9_gains (wsV RX9 94 RX9 yX9_isPerson wsX9_isPerson) := goodIn_app (goodIn_of _ (by decide +kernel)) ggX9_gains_X9_isPerson
set_option maxRecDepth 20000 in
theorem ggX9_gains_X9_in : GoodIn wsX9_gains wsX9_in := goodIn_r _ [12] (by decide +kernel) (by decide +kernel)
set_option maxRecDepth 20000 in
theorem gX9_gains_X9_in : GoodIn wsX9_gains (va_wsS RX9 54 yX9_in wsX9_in) := goodIn_app (goodIn_of _ (by decide +kernel)) ggX9_gains_X9_in
set_option maxRecDepth 20000 in
theorem ggX9_gains_X9_errs : GoodIn wsX9_gains wsX9_errs := goodIn_r _ [16, 17, 18, 134, 135, 136, 137, 138, 139, 140, 141, 142, 143, 144, 145, 146, 147, 148, 149, 150, 151, 152, 153, 154, 155, 156, 157, 158, 159, 160, 161] (by decide +kernel) (by decide +kernel)
set_option maxRecDepth 20000 in
theorem gX9_gains_X9_errs : GoodIn wsX9_gains (wsV RX9 59 RX9 yX9_errs wsX9_errs) := goodIn_app (goodIn_of _ (by decide +kernel)) ggX9_gains_X9_errs
set_option maxRecDepth 20000 in
theorem ggX9_gains_X9_moveAll : GoodIn wsX9_gains wsX9_moveAll := goodIn_r _ [22] (by decide +kernel) (by decide +kernel)
set_option maxRecDepth 20000 in
theorem gX9_gains_X9_moveAll : GoodIn wsX9_gains (wsV RX9 182 RX9 yX9_moveAll wsX9_moveAll) := goodIn_app (goodIn_of _ (by decide +kernel)) ggX9_gains_X9_moveAll
set_option maxRecDepth 20000 in
theorem ggX9_gains_X9_passes : GoodIn wsX9_gains wsX9_passes := goodIn_r _ [26, 27, 28, 29, 8, 30, 2, 31, 4, 32, 33, 34, 35, 36, 37, 38, 39, 40, 41, 42, 43, 44, 45, 46, 47, 48, 49, 50, 51, 52, 53, 54, 55, 56, 57, 58, 59, 60, 61, 62, 63, 64, 65, 66, 67, 68, 69, 70, 71, 72, 73, 74, 75, 76, 77, 78, 79, 80, 81, 82, 83, 10, 11, 12, 84, 85, 86, 87, 88, 89, 90, 91, 92, 93, 94, 95, 96, 97, 98, 99, 100, 101, 102, 103, 104, 105, 106, 107, 108, 109, 110, 111, 112, 113, 114, 115, 116, 117, 118, 119, 120, 121, 122, 123, 124, 125, 126, 127, 128, 129, 134, 135, 136, 137, 138, 139, 140, 141, 142, 143, 144, 145, 146, 147, 148, 149, 150, 151, 152, 153, 154, 155, 156, 157, 158, 159, 160, 161] (by decide +kernel) (by decide +kernel)
set_option maxRecDepth 20000 in
theorem gX9_gains_X9_passes : GoodIn wsX9_gains (wsV RX9 193 RX9 yX9_passes wsX9_passes) := goodIn_app (goodIn_of _ (by decide +kernel)) ggX9_gains_X9_passes
set_option maxRecDepth 20000 in
theorem ggX9_gains_X9_grains : GoodIn wsX9_gains wsX9_grains := goodIn_r _ [133, 2, 134, 135, 136, 137, 138, 139, 140, 141, 142, 143, 144, 145, 146, 147, 148, 149, 150, 151, 152, 153, 154, 155, 156, 157, 158, 159, 160, 161] (by decide +kernel) (by decide +kernel)
set_option maxRecDepth 20000 in
theorem gX9_gains_X9_grains : GoodIn wsX9_gains (wsV RX9 196 RX9 yX9_grains wsX9_grains) := goodIn_app (goodIn_of _ (by decide +kernel)) ggX9_gains_X9_grains
theorem dX9_gains_0 : decode cX9_gains 0 = .ok (.aload_n 0, 1) := by decide +kernel
theorem dX9_gains_1 : decode cX9_gains 1 = .ok (.iload_n 1, 1) := by decide +kernel
theorem dX9_gains_2 : decode cX9_gains 2 = .ok (.invokevirtual 94, 3) := by decide +kernel
theorem dX9_gains_5 : decode cX9_gains 5 = .ok (.ifCond .eq 13, 3) := by decide +kernel
theorem dX9_gains_8 : decode cX9_gains 8 = .ok (.iload_n 2, 1) := by decide +kernel
theorem dX9_gains_9 : decode cX9_gains 9 = .ok (.iconst 0, 1) := by decide +kernel
theorem dX9_gains_10 : decode cX9_gains 10 = .ok (.bipush 50, 2) := by decide +kernel
theorem dX9_gains_12 : decode cX9_gains 12 = .ok (.invokestatic 54, 3) := by decide +kernel
theorem dX9_gains_15 : decode cX9_gains 15 = .ok (.ifCond .ne 10, 3) := by decide +kernel
theorem dX9_gains_18 : decode cX9_gains 18 = .ok (.aload_n 0, 1) := by decide +kernel
theorem dX9_gains_19 : decode cX9_gains 19 = .ok (.ldc 58, 2) := by decide +kernel
theorem dX9_gains_21 : decode cX9_gains 21 = .ok (.invokevirtual 59, 3) := by decide +kernel
theorem dX9_gains_24 : decode cX9_gains 24 = .ok (.ireturn, 1) := by decide +kernel
theorem dX9_gains_25 : decode cX9_gains 25 = .ok (.aload_n 0, 1) := by decide +kernel
theorem dX9_gains_26 : decode cX9_gains 26 = .ok (.aload_n 0, 1) := by decide +kernel
theorem dX9_gains_27 : decode cX9_gains 27 = .ok (.getfield 7, 3) := by decide +kernel
theorem dX9_gains_30 : decode cX9_gains 30 = .ok (.aload_n 0, 1) := by decide +kernel
theorem dX9_gains_31 : decode cX9_gains 31 = .ok (.getfield 16, 3) := by decide +kernel
theorem dX9_gains_34 : decode cX9_gains 34 = .ok (.invokevirtual 182, 3) := by decide +kernel
theorem dX9_gains_37 : decode cX9_gains 37 = .ok (.aload_n 0, 1) := by decide +kernel
theorem dX9_gains_38 : decode cX9_gains 38 = .ok (.iload_n 2, 1) := by decide +kernel
theorem dX9_gains_39 : decode cX9_gains 39 = .ok (.invokevirtual 193, 3) := by decide +kernel
theorem dX9_gains_42 : decode cX9_gains 42 = .ok (.aload_n 0, 1) := by decide +kernel
theorem dX9_gains_43 : decode cX9_gains 43 = .ok (.invokevirtual 196, 3) := by decide +kernel
theorem dX9_gains_46 : decode cX9_gains 46 = .ok (.istore_n 3, 1) := by decide +kernel
theorem dX9_gains_47 : decode cX9_gains 47 = .ok (.aload_n 0, 1) := by decide +kernel
theorem dX9_gains_48 : decode cX9_gains 48 = .ok (.aload_n 0, 1) := by decide +kernel
theorem dX9_gains_49 : decode cX9_gains 49 = .ok (.getfield 16, 3) := by decide +kernel
theorem dX9_gains_52 : decode cX9_gains 52 = .ok (.aload_n 0, 1) := by decide +kernel
theorem dX9_gains_53 : decode cX9_gains 53 = .ok (.getfield 7, 3) := by decide +kernel
theorem dX9_gains_56 : decode cX9_gains 56 = .ok (.invokevirtual 182, 3) := by decide +kernel
theorem dX9_gains_59 : decode cX9_gains 59 = .ok (.aload_n 0, 1) := by decide +kernel
theorem dX9_gains_60 : decode cX9_gains 60 = .ok (.iload_n 1, 1) := by decide +kernel
theorem dX9_gains_61 : decode cX9_gains 61 = .ok (.putfield 25, 3) := by decide +kernel
theorem dX9_gains_64 : decode cX9_gains 64 = .ok (.aload_n 0, 1) := by decide +kernel
theorem dX9_gains_65 : decode cX9_gains 65 = .ok (.iload_n 2, 1) := by decide +kernel
theorem dX9_gains_66 : decode cX9_gains 66 = .ok (.invokevirtual 193, 3) := by decide +kernel
theorem dX9_gains_69 : decode cX9_gains 69 = .ok (.aload_n 0, 1) := by decide +kernel
theorem dX9_gains_70 : decode cX9_gains 70 = .ok (.iconst (-1), 1) := by decide +kernel
theorem dX9_gains_71 : decode cX9_gains 71 = .ok (.putfield 25, 3) := by decide +kernel
theorem dX9_gains_74 : decode cX9_gains 74 = .ok (.aload_n 0, 1) := by decide +kernel
theorem dX9_gains_75 : decode cX9_gains 75 = .ok (.invokevirtual 196, 3) := by decide +kernel
theorem dX9_gains_78 : decode cX9_gains 78 = .ok (.istore 4, 2) := by decide +kernel
theorem dX9_gains_80 : decode cX9_gains 80 = .ok (.aload_n 0, 1) := by decide +kernel
theorem dX9_gains_81 : decode cX9_gains 81 = .ok (.aload_n 0, 1) := by decide +kernel
theorem dX9_gains_82 : decode cX9_gains 82 = .ok (.getfield 16, 3) := by decide +kernel
theorem dX9_gains_85 : decode cX9_gains 85 = .ok (.aload_n 0, 1) := by decide +kernel
theorem dX9_gains_86 : decode cX9_gains 86 = .ok (.getfield 7, 3) := by decide +kernel
theorem dX9_gains_89 : decode cX9_gains 89 = .ok (.invokevirtual 182, 3) := by decide +kernel
theorem dX9_gains_92 : decode cX9_gains 92 = .ok (.iload_n 3, 1) := by decide +kernel
theorem dX9_gains_93 : decode cX9_gains 93 = .ok (.iload 4, 2) := by decide +kernel
theorem dX9_gains_95 : decode cX9_gains 95 = .ok (.isub, 1) := by decide +kernel
theorem dX9_gains_96 : decode cX9_gains 96 = .ok (.ireturn, 1) := by decide +kernel
theorem dX9_divisor_0 : decode cX9_divisor 0 = .ok (.iload_n 0, 1) := by decide +kernel
theorem dX9_divisor_1 : decode cX9_divisor 1 = .ok (.istore_n 2, 1) := by decide +kernel
theorem dX9_divisor_2 : decode cX9_divisor 2 = .ok (.iload_n 1, 1) := by decide +kernel
theorem dX9_divisor_3 : decode cX9_divisor 3 = .ok (.istore_n 3, 1) := by decide +kernel
theorem dX9_divisor_4 : decode cX9_divisor 4 = .ok (.iload_n 3, 1) := by decide +kernel
theorem dX9_divisor_5 : decode cX9_divisor 5 = .ok (.ifCond .eq 16, 3) := by decide +kernel
theorem dX9_divisor_8 : decode cX9_divisor 8 = .ok (.iload_n 2, 1) := by decide +kernel
theorem dX9_divisor_9 : decode cX9_divisor 9 = .ok (.iload_n 3, 1) := by decide +kernel
theorem dX9_divisor_10 : decode cX9_divisor 10 = .ok (.irem, 1) := by decide +kernel
theorem dX9_divisor_11 : decode cX9_divisor 11 = .ok (.istore 4, 2) := by decide +kernel
theorem dX9_divisor_13 : decode cX9_divisor 13 = .ok (.iload_n 3, 1) := by decide +kernel
theorem dX9_divisor_14 : decode cX9_divisor 14 = .ok (.istore_n 2, 1) := by decide +kernel
theorem dX9_divisor_15 : decode cX9_divisor 15 = .ok (.iload 4, 2) := by decide +kernel
theorem dX9_divisor_17 : decode cX9_divisor 17 = .ok (.istore_n 3, 1) := by decide +kernel
theorem dX9_divisor_18 : decode cX9_divisor 18 = .ok (.goto (-14), 3) := by decide +kernel
theorem dX9_divisor_21 : decode cX9_divisor 21 = .ok (.iload_n 2, 1) := by decide +kernel
theorem dX9_divisor_22 : decode cX9_divisor 22 = .ok (.ireturn, 1) := by decide +kernel
set_option maxRecDepth 20000 in
theorem ggX9_odds_X9_isCell : GoodIn wsX9_odds wsX9_isCell := goodIn_r _ [7, 2, 8, 9, 6, 10, 101, 102, 103, 104, 105, 106, 107, 108, 109, 110, 111, 112, 113, 114, 115, 116, 117, 118, 119, 120, 121, 122, 123, 124, 125, 126, 127, 128] (by decide +kernel) (by decide +kernel)
set_option maxRecDepth 20000 in
theorem gX9_odds_X9_isCell : GoodIn wsX9_odds (wsV RX9 68 RX9 yX9_isCell wsX9_isCell) := goodIn_app (goodIn_of _ (by decide +kernel)) ggX9_odds_X9_isCell
set_option maxRecDepth 20000 in
theorem ggX9_odds_X9_in : GoodIn wsX9_odds wsX9_in := goodIn_r _ [10] (by decide +kernel) (by decide +kernel)
set_option maxRecDepth 20000 in
theorem gX9_odds_X9_in : GoodIn wsX9_odds (va_wsS RX9 54 yX9_in wsX9_in) := goodIn_app (goodIn_of _ (by decide +kernel)) ggX9_odds_X9_in
set_option maxRecDepth 20000 in
theorem ggX9_odds_X9_errs : GoodIn wsX9_odds wsX9_errs := goodIn_r _ [14, 15, 16, 101, 102, 103, 104, 105, 106, 107, 108, 109, 110, 111, 112, 113, 114, 115, 116, 117, 118, 119, 120, 121, 122, 123, 124, 125, 126, 127, 128] (by decide +kernel) (by decide +kernel)
set_option maxRecDepth 20000 in
theorem gX9_odds_X9_errs : GoodIn wsX9_odds (wsV RX9 59 RX9 yX9_errs wsX9_errs) := goodIn_app (goodIn_of _ (by decide +kernel)) ggX9_odds_X9_errs
set_option maxRecDepth 20000 in
theorem ggX9_odds_X9_whoSees : GoodIn wsX9_odds wsX9_whoSees := goodIn_r _ [20, 2, 21, 22, 23, 6, 24, 25, 26, 27, 28, 29, 30, 31, 32, 33, 34, 35, 36, 37, 38, 39, 40, 41, 42, 43, 44, 45, 46, 47, 48, 49, 50, 51, 52, 53, 54, 55, 56, 57, 58, 59, 60, 61, 62, 63, 64, 65, 66, 67, 68, 69, 70, 71, 8, 9, 10, 72, 73, 74, 75, 76, 77, 78, 79, 80, 81, 82, 83, 84, 85, 86, 87, 88, 89, 90, 91, 92, 93, 94, 95, 96, 97, 101, 102, 103, 104, 105, 106, 107, 108, 109, 110, 111, 112, 113, 114, 115, 116, 117, 118, 119, 120, 121, 122, 123, 124, 125, 126, 127, 128] (by decide +kernel) (by decide +kernel)
set_option maxRecDepth 20000 in
theorem gX9_odds_X9_whoSees : GoodIn wsX9_odds (wsV RX9 83 RX9 yX9_whoSees wsX9_whoSees) := goodIn_app (goodIn_of _ (by decide +kernel)) ggX9_odds_X9_whoSees
set_option maxRecDepth 20000 in
theorem ggX9_odds_X9_divisor : GoodIn wsX9_odds wsX9_divisor := goodIn_r _ [100] (by decide +kernel) (by decide +kernel)
set_option maxRecDepth 20000 in
theorem gX9_odds_X9_divisor : GoodIn wsX9_odds (va_wsS RX9 231 yX9_divisor wsX9_divisor) := goodIn_app (goodIn_of _ (by decide +kernel)) ggX9_odds_X9_divisor
theorem dX9_odds_0 : decode cX9_odds 0 = .ok (.aload_n 0, 1) := by decide +kernel
theorem dX9_odds_1 : decode cX9_odds 1 = .ok (.iload_n 1, 1) := by decide +kernel
theorem dX9_odds_2 : decode cX9_odds 2 = .ok (.invokevirtual 68, 3) := by decide +kernel
theorem dX9_odds_5 : decode cX9_odds 5 = .ok (.ifCond .eq 12, 3) := by decide +kernel
theorem dX9_odds_8 : decode cX9_odds 8 = .ok (.iload_n 2, 1) := by decide +kernel
theorem dX9_odds_9 : decode cX9_odds 9 = .ok (.iconst 0, 1) := by decide +kernel
theorem dX9_odds_10 : decode cX9_odds 10 = .ok (.iconst 1, 1) := by decide +kernel
theorem dX9_odds_11 : decode cX9_odds 11 = .ok (.invokestatic 54, 3) := by decide +kernel
theorem dX9_odds_14 : decode cX9_odds 14 = .ok (.ifCond .ne 10, 3) := by decide +kernel
theorem dX9_odds_17 : decode cX9_odds 17 = .ok (.aload_n 0, 1) := by decide +kernel
theorem dX9_odds_18 : decode cX9_odds 18 = .ok (.ldc 58, 2) := by decide +kernel
theorem dX9_odds_20 : decode cX9_odds 20 = .ok (.invokevirtual 59, 3) := by decide +kernel
theorem dX9_odds_23 : decode cX9_odds 23 = .ok (.ireturn, 1) := by decide +kernel
theorem dX9_odds_24 : decode cX9_odds 24 = .ok (.aload_n 0, 1) := by decide +kernel
theorem dX9_odds_25 : decode cX9_odds 25 = .ok (.getfield 7, 3) := by decide +kernel
theorem dX9_odds_28 : decode cX9_odds 28 = .ok (.iconst 1, 1) := by decide +kernel
theorem dX9_odds_29 : decode cX9_odds 29 = .ok (.iaload, 1) := by decide +kernel
theorem dX9_odds_30 : decode cX9_odds 30 = .ok (.istore_n 3, 1) := by decide +kernel
theorem dX9_odds_31 : decode cX9_odds 31 = .ok (.iconst 0, 1) := by decide +kernel
theorem dX9_odds_32 : decode cX9_odds 32 = .ok (.istore 4, 2) := by decide +kernel
theorem dX9_odds_34 : decode cX9_odds 34 = .ok (.iconst 0, 1) := by decide +kernel
theorem dX9_odds_35 : decode cX9_odds 35 = .ok (.istore 5, 2) := by decide +kernel
theorem dX9_odds_37 : decode cX9_odds 37 = .ok (.iload 5, 2) := by decide +kernel
theorem dX9_odds_39 : decode cX9_odds 39 = .ok (.bipush 9, 2) := by decide +kernel
theorem dX9_odds_41 : decode cX9_odds 41 = .ok (.if_icmp .gt 35, 3) := by decide +kernel
theorem dX9_odds_44 : decode cX9_odds 44 = .ok (.aload_n 0, 1) := by decide +kernel
theorem dX9_odds_45 : decode cX9_odds 45 = .ok (.getfield 7, 3) := by decide +kernel
theorem dX9_odds_48 : decode cX9_odds 48 = .ok (.iconst 1, 1) := by decide +kernel
theorem dX9_odds_49 : decode cX9_odds 49 = .ok (.iload 5, 2) := by decide +kernel
theorem dX9_odds_51 : decode cX9_odds 51 = .ok (.iastore, 1) := by decide +kernel
theorem dX9_odds_52 : decode cX9_odds 52 = .ok (.iload 4, 2) := by decide +kernel
theorem dX9_odds_54 : decode cX9_odds 54 = .ok (.aload_n 0, 1) := by decide +kernel
theorem dX9_odds_55 : decode cX9_odds 55 = .ok (.iload_n 1, 1) := by decide +kernel
theorem dX9_odds_56 : decode cX9_odds 56 = .ok (.invokevirtual 83, 3) := by decide +kernel
theorem dX9_odds_59 : decode cX9_odds 59 = .ok (.ifCond .eq 7, 3) := by decide +kernel
theorem dX9_odds_62 : decode cX9_odds 62 = .ok (.iconst 1, 1) := by decide +kernel
theorem dX9_odds_63 : decode cX9_odds 63 = .ok (.goto 4, 3) := by decide +kernel
theorem dX9_odds_66 : decode cX9_odds 66 = .ok (.iconst 0, 1) := by decide +kernel
theorem dX9_odds_67 : decode cX9_odds 67 = .ok (.iadd, 1) := by decide +kernel
theorem dX9_odds_68 : decode cX9_odds 68 = .ok (.istore 4, 2) := by decide +kernel
theorem dX9_odds_70 : decode cX9_odds 70 = .ok (.iinc 5 1, 3) := by decide +kernel
theorem dX9_odds_73 : decode cX9_odds 73 = .ok (.goto (-36), 3) := by decide +kernel
theorem dX9_odds_76 : decode cX9_odds 76 = .ok (.aload_n 0, 1) := by decide +kernel
theorem dX9_odds_77 : decode cX9_odds 77 = .ok (.getfield 7, 3) := by decide +kernel
theorem dX9_odds_80 : decode cX9_odds 80 = .ok (.iconst 1, 1) := by decide +kernel
theorem dX9_odds_81 : decode cX9_odds 81 = .ok (.iload_n 3, 1) := by decide +kernel
theorem dX9_odds_82 : decode cX9_odds 82 = .ok (.iastore, 1) := by decide +kernel
theorem dX9_odds_83 : decode cX9_odds 83 = .ok (.iload 4, 2) := by decide +kernel
theorem dX9_odds_85 : decode cX9_odds 85 = .ok (.bipush 10, 2) := by decide +kernel
theorem dX9_odds_87 : decode cX9_odds 87 = .ok (.invokestatic 231, 3) := by decide +kernel
theorem dX9_odds_90 : decode cX9_odds 90 = .ok (.istore 5, 2) := by decide +kernel
theorem dX9_odds_92 : decode cX9_odds 92 = .ok (.iload_n 2, 1) := by decide +kernel
theorem dX9_odds_93 : decode cX9_odds 93 = .ok (.ifCond .ne 11, 3) := by decide +kernel
theorem dX9_odds_96 : decode cX9_odds 96 = .ok (.iload 4, 2) := by decide +kernel
theorem dX9_odds_98 : decode cX9_odds 98 = .ok (.iload 5, 2) := by decide +kernel
theorem dX9_odds_100 : decode cX9_odds 100 = .ok (.idiv, 1) := by decide +kernel
theorem dX9_odds_101 : decode cX9_odds 101 = .ok (.goto 8, 3) := by decide +kernel
theorem dX9_odds_104 : decode cX9_odds 104 = .ok (.bipush 10, 2) := by decide +kernel
theorem dX9_odds_106 : decode cX9_odds 106 = .ok (.iload 5, 2) := by decide +kernel
theorem dX9_odds_108 : decode cX9_odds 108 = .ok (.idiv, 1) := by decide +kernel
theorem dX9_odds_109 : decode cX9_odds 109 = .ok (.ireturn, 1) := by decide +kernel
theorem dX9_seed_0 : decode cX9_seed 0 = .ok (.aload_n 0, 1) := by decide +kernel
theorem dX9_seed_1 : decode cX9_seed 1 = .ok (.getfield 7, 3) := by decide +kernel
theorem dX9_seed_4 : decode cX9_seed 4 = .ok (.iconst 2, 1) := by decide +kernel
theorem dX9_seed_5 : decode cX9_seed 5 = .ok (.iaload, 1) := by decide +kernel
theorem dX9_seed_6 : decode cX9_seed 6 = .ok (.istore_n 2, 1) := by decide +kernel
theorem dX9_seed_7 : decode cX9_seed 7 = .ok (.aload_n 0, 1) := by decide +kernel
theorem dX9_seed_8 : decode cX9_seed 8 = .ok (.getfield 7, 3) := by decide +kernel
theorem dX9_seed_11 : decode cX9_seed 11 = .ok (.iconst 2, 1) := by decide +kernel
theorem dX9_seed_12 : decode cX9_seed 12 = .ok (.iload_n 1, 1) := by decide +kernel
theorem dX9_seed_13 : decode cX9_seed 13 = .ok (.iastore, 1) := by decide +kernel
theorem dX9_seed_14 : decode cX9_seed 14 = .ok (.iload_n 2, 1) := by decide +kernel
theorem dX9_seed_15 : decode cX9_seed 15 = .ok (.ireturn, 1) := by decide +kernel
theorem dX9_ran_0 : decode cX9_ran 0 = .ok (.aload_n 0, 1) := by decide +kernel
theorem dX9_ran_1 : decode cX9_ran 1 = .ok (.getfield 234, 3) := by decide +kernel
theorem dX9_ran_4 : decode cX9_ran 4 = .ok (.bipush 40, 2) := by decide +kernel
theorem dX9_ran_6 : decode cX9_ran 6 = .ok (.if_icmp .ge 23, 3) := by decide +kernel
theorem dX9_ran_9 : decode cX9_ran 9 = .ok (.aload_n 0, 1) := by decide +kernel
