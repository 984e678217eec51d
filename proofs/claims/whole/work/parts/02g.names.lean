theorem dX9_sow_50 : decode cX9_sow 50 = .ok (.iload_n 1, 1) := by decide +kernel
theorem dX9_sow_51 : decode cX9_sow 51 = .ok (.iadd, 1) := by decide +kernel
theorem dX9_sow_52 : decode cX9_sow 52 = .ok (.goto 7, 3) := by decide +kernel
theorem dX9_sow_55 : decode cX9_sow 55 = .ok (.bipush 22, 2) := by decide +kernel
theorem dX9_sow_57 : decode cX9_sow 57 = .ok (.iload_n 1, 1) := by decide +kernel
theorem dX9_sow_58 : decode cX9_sow 58 = .ok (.iadd, 1) := by decide +kernel
theorem dX9_sow_59 : decode cX9_sow 59 = .ok (.iload_n 3, 1) := by decide +kernel
theorem dX9_sow_60 : decode cX9_sow 60 = .ok (.invokevirtual 64, 3) := by decide +kernel
theorem dX9_sow_63 : decode cX9_sow 63 = .ok (.ireturn, 1) := by decide +kernel
set_option maxRecDepth 20000 in
theorem ggX9_whoSees_X9_seesOf : GoodIn wsX9_whoSees wsX9_seesOf := goodIn_r _ [6, 1, 7, 8, 9, 5, 10, 11, 12, 13, 14, 15, 16, 17, 18, 19, 20, 21, 22, 23, 24, 25, 26, 27, 28, 29, 30, 31, 32, 33, 34, 35, 36, 37, 38, 39, 40, 41, 42, 43, 44, 45, 46, 47, 48, 49, 50, 51, 52, 53, 54, 55, 56, 57, 58, 59, 60, 61, 62, 63, 64, 65, 66, 67, 68, 69, 70, 71, 72, 73, 74, 75, 76, 77, 78, 79, 80, 81, 82, 83, 84, 85, 86, 87, 88, 89, 90, 91, 92, 93, 94, 95, 96, 97, 98, 99, 100, 101, 102, 103, 104, 105, 106, 107, 108, 109, 110] (by decide +kernel) (by decide +kernel)
set_option maxRecDepth 20000 in
theorem gX9_whoSees_X9_seesOf : GoodIn wsX9_whoSees (wsV RX9 73 RX9 yX9_seesOf wsX9_seesOf) := goodIn_app (goodIn_of _ (by decide +kernel)) ggX9_whoSees_X9_seesOf
set_option maxRecDepth 20000 in
theorem ggX9_whoSees_X9_has : GoodIn wsX9_whoSees wsX9_has := goodIn_r _ [82] (by decide +kernel) (by decide +kernel)
set_option maxRecDepth 20000 in
theorem gX9_whoSees_X9_has : GoodIn wsX9_whoSees (va_wsS RX9 76 yX9_has wsX9_has) := goodIn_app (goodIn_of _ (by decide +kernel)) ggX9_whoSees_X9_has
theorem dX9_whoSees_0 : decode cX9_whoSees 0 = .ok (.iconst 0, 1) := by decide +kernel
theorem dX9_whoSees_1 : decode cX9_whoSees 1 = .ok (.istore_n 2, 1) := by decide +kernel
theorem dX9_whoSees_2 : decode cX9_whoSees 2 = .ok (.iconst 0, 1) := by decide +kernel
theorem dX9_whoSees_3 : decode cX9_whoSees 3 = .ok (.istore_n 3, 1) := by decide +kernel
theorem dX9_whoSees_4 : decode cX9_whoSees 4 = .ok (.iload_n 3, 1) := by decide +kernel
theorem dX9_whoSees_5 : decode cX9_whoSees 5 = .ok (.aload_n 0, 1) := by decide +kernel
theorem dX9_whoSees_6 : decode cX9_whoSees 6 = .ok (.getfield 7, 3) := by decide +kernel
theorem dX9_whoSees_9 : decode cX9_whoSees 9 = .ok (.bipush 8, 2) := by decide +kernel
theorem dX9_whoSees_11 : decode cX9_whoSees 11 = .ok (.iaload, 1) := by decide +kernel
theorem dX9_whoSees_12 : decode cX9_whoSees 12 = .ok (.if_icmp .ge 31, 3) := by decide +kernel
theorem dX9_whoSees_15 : decode cX9_whoSees 15 = .ok (.iload_n 2, 1) := by decide +kernel
theorem dX9_whoSees_16 : decode cX9_whoSees 16 = .ok (.aload_n 0, 1) := by decide +kernel
theorem dX9_whoSees_17 : decode cX9_whoSees 17 = .ok (.iload_n 3, 1) := by decide +kernel
theorem dX9_whoSees_18 : decode cX9_whoSees 18 = .ok (.invokevirtual 73, 3) := by decide +kernel
theorem dX9_whoSees_21 : decode cX9_whoSees 21 = .ok (.iload_n 1, 1) := by decide +kernel
theorem dX9_whoSees_22 : decode cX9_whoSees 22 = .ok (.invokestatic 76, 3) := by decide +kernel
theorem dX9_whoSees_25 : decode cX9_whoSees 25 = .ok (.ifCond .eq 9, 3) := by decide +kernel
theorem dX9_whoSees_28 : decode cX9_whoSees 28 = .ok (.iconst 1, 1) := by decide +kernel
theorem dX9_whoSees_29 : decode cX9_whoSees 29 = .ok (.iload_n 3, 1) := by decide +kernel
theorem dX9_whoSees_30 : decode cX9_whoSees 30 = .ok (.ishl, 1) := by decide +kernel
theorem dX9_whoSees_31 : decode cX9_whoSees 31 = .ok (.goto 4, 3) := by decide +kernel
theorem dX9_whoSees_34 : decode cX9_whoSees 34 = .ok (.iconst 0, 1) := by decide +kernel
theorem dX9_whoSees_35 : decode cX9_whoSees 35 = .ok (.ior, 1) := by decide +kernel
theorem dX9_whoSees_36 : decode cX9_whoSees 36 = .ok (.istore_n 2, 1) := by decide +kernel
theorem dX9_whoSees_37 : decode cX9_whoSees 37 = .ok (.iinc 3 1, 3) := by decide +kernel
theorem dX9_whoSees_40 : decode cX9_whoSees 40 = .ok (.goto (-36), 3) := by decide +kernel
theorem dX9_whoSees_43 : decode cX9_whoSees 43 = .ok (.iload_n 2, 1) := by decide +kernel
theorem dX9_whoSees_44 : decode cX9_whoSees 44 = .ok (.ireturn, 1) := by decide +kernel
set_option maxRecDepth 20000 in
theorem ggX9_whoIsAt_X9_its : GoodIn wsX9_whoIsAt wsX9_its := goodIn_r _ [6, 1, 7, 8, 9, 10, 11, 12, 13, 14, 15, 16, 17, 18, 19, 20, 21, 22, 23, 24, 25, 26, 27, 28, 29, 30, 31, 32, 33, 34] (by decide +kernel) (by decide +kernel)
set_option maxRecDepth 20000 in
theorem gX9_whoIsAt_X9_its : GoodIn wsX9_whoIsAt (wsV RX9 80 RX9 yX9_its wsX9_its) := goodIn_app (goodIn_of _ (by decide +kernel)) ggX9_whoIsAt_X9_its
theorem dX9_whoIsAt_0 : decode cX9_whoIsAt 0 = .ok (.iconst 0, 1) := by decide +kernel
theorem dX9_whoIsAt_1 : decode cX9_whoIsAt 1 = .ok (.istore_n 2, 1) := by decide +kernel
theorem dX9_whoIsAt_2 : decode cX9_whoIsAt 2 = .ok (.iconst 0, 1) := by decide +kernel
theorem dX9_whoIsAt_3 : decode cX9_whoIsAt 3 = .ok (.istore_n 3, 1) := by decide +kernel
theorem dX9_whoIsAt_4 : decode cX9_whoIsAt 4 = .ok (.iload_n 3, 1) := by decide +kernel
theorem dX9_whoIsAt_5 : decode cX9_whoIsAt 5 = .ok (.aload_n 0, 1) := by decide +kernel
theorem dX9_whoIsAt_6 : decode cX9_whoIsAt 6 = .ok (.getfield 7, 3) := by decide +kernel
theorem dX9_whoIsAt_9 : decode cX9_whoIsAt 9 = .ok (.bipush 8, 2) := by decide +kernel
theorem dX9_whoIsAt_11 : decode cX9_whoIsAt 11 = .ok (.iaload, 1) := by decide +kernel
theorem dX9_whoIsAt_12 : decode cX9_whoIsAt 12 = .ok (.if_icmp .ge 29, 3) := by decide +kernel
theorem dX9_whoIsAt_15 : decode cX9_whoIsAt 15 = .ok (.iload_n 2, 1) := by decide +kernel
theorem dX9_whoIsAt_16 : decode cX9_whoIsAt 16 = .ok (.aload_n 0, 1) := by decide +kernel
theorem dX9_whoIsAt_17 : decode cX9_whoIsAt 17 = .ok (.iload_n 3, 1) := by decide +kernel
theorem dX9_whoIsAt_18 : decode cX9_whoIsAt 18 = .ok (.iconst 2, 1) := by decide +kernel
theorem dX9_whoIsAt_19 : decode cX9_whoIsAt 19 = .ok (.invokevirtual 80, 3) := by decide +kernel
theorem dX9_whoIsAt_22 : decode cX9_whoIsAt 22 = .ok (.iload_n 1, 1) := by decide +kernel
theorem dX9_whoIsAt_23 : decode cX9_whoIsAt 23 = .ok (.if_icmp .ne 9, 3) := by decide +kernel
theorem dX9_whoIsAt_26 : decode cX9_whoIsAt 26 = .ok (.iconst 1, 1) := by decide +kernel
theorem dX9_whoIsAt_27 : decode cX9_whoIsAt 27 = .ok (.iload_n 3, 1) := by decide +kernel
theorem dX9_whoIsAt_28 : decode cX9_whoIsAt 28 = .ok (.ishl, 1) := by decide +kernel
theorem dX9_whoIsAt_29 : decode cX9_whoIsAt 29 = .ok (.goto 4, 3) := by decide +kernel
theorem dX9_whoIsAt_32 : decode cX9_whoIsAt 32 = .ok (.iconst 0, 1) := by decide +kernel
theorem dX9_whoIsAt_33 : decode cX9_whoIsAt 33 = .ok (.ior, 1) := by decide +kernel
theorem dX9_whoIsAt_34 : decode cX9_whoIsAt 34 = .ok (.istore_n 2, 1) := by decide +kernel
theorem dX9_whoIsAt_35 : decode cX9_whoIsAt 35 = .ok (.iinc 3 1, 3) := by decide +kernel
theorem dX9_whoIsAt_38 : decode cX9_whoIsAt 38 = .ok (.goto (-34), 3) := by decide +kernel
theorem dX9_whoIsAt_41 : decode cX9_whoIsAt 41 = .ok (.iload_n 2, 1) := by decide +kernel
theorem dX9_whoIsAt_42 : decode cX9_whoIsAt 42 = .ok (.ireturn, 1) := by decide +kernel
set_option maxRecDepth 20000 in
theorem ggX9_ofCell_X9_isCell : GoodIn wsX9_ofCell wsX9_isCell := goodIn_r _ [7, 2, 8, 9, 6, 10, 102, 103, 104, 105, 106, 107, 108, 109, 110, 111, 112, 113, 114, 115, 116, 117, 118, 119, 120, 121, 122, 123, 124, 125, 126, 127, 128, 129] (by decide +kernel) (by decide +kernel)
set_option maxRecDepth 20000 in
theorem gX9_ofCell_X9_isCell : GoodIn wsX9_ofCell (wsV RX9 68 RX9 yX9_isCell wsX9_isCell) := goodIn_app (goodIn_of _ (by decide +kernel)) ggX9_ofCell_X9_isCell
set_option maxRecDepth 20000 in
theorem ggX9_ofCell_X9_in : GoodIn wsX9_ofCell wsX9_in := goodIn_r _ [10] (by decide +kernel) (by decide +kernel)
set_option maxRecDepth 20000 in
theorem gX9_ofCell_X9_in : GoodIn wsX9_ofCell (va_wsS RX9 54 yX9_in wsX9_in) := goodIn_app (goodIn_of _ (by decide +kernel)) ggX9_ofCell_X9_in
set_option maxRecDepth 20000 in
theorem ggX9_ofCell_X9_errs : GoodIn wsX9_ofCell wsX9_errs := goodIn_r _ [14, 15, 16, 102, 103, 104, 105, 106, 107, 108, 109, 110, 111, 112, 113, 114, 115, 116, 117, 118, 119, 120, 121, 122, 123, 124, 125, 126, 127, 128, 129] (by decide +kernel) (by decide +kernel)
set_option maxRecDepth 20000 in
theorem gX9_ofCell_X9_errs : GoodIn wsX9_ofCell (wsV RX9 59 RX9 yX9_errs wsX9_errs) := goodIn_app (goodIn_of _ (by decide +kernel)) ggX9_ofCell_X9_errs
set_option maxRecDepth 20000 in
theorem ggX9_ofCell_X9_whoSees : GoodIn wsX9_ofCell wsX9_whoSees := goodIn_r _ [20, 2, 21, 22, 23, 6, 24, 25, 26, 27, 28, 29, 30, 31, 32, 33, 34, 35, 36, 37, 38, 39, 40, 41, 42, 43, 44, 45, 46, 47, 48, 49, 50, 51, 52, 53, 54, 55, 56, 57, 58, 59, 60, 61, 62, 63, 64, 65, 66, 67, 68, 69, 70, 71, 8, 9, 10, 72, 73, 74, 75, 76, 77, 78, 79, 80, 81, 82, 83, 84, 85, 86, 87, 88, 89, 90, 91, 92, 93, 94, 95, 96, 97, 102, 103, 104, 105, 106, 107, 108, 109, 110, 111, 112, 113, 114, 115, 116, 117, 118, 119, 120, 121, 122, 123, 124, 125, 126, 127, 128, 129] (by decide +kernel) (by decide +kernel)
set_option maxRecDepth 20000 in
theorem gX9_ofCell_X9_whoSees : GoodIn wsX9_ofCell (wsV RX9 83 RX9 yX9_whoSees wsX9_whoSees) := goodIn_app (goodIn_of _ (by decide +kernel)) ggX9_ofCell_X9_whoSees
set_option maxRecDepth 20000 in
theorem ggX9_ofCell_X9_whoIsAt : GoodIn wsX9_ofCell wsX9_whoIsAt := goodIn_r _ [101, 2, 25, 26, 27, 6, 28, 102, 103, 104, 105, 106, 107, 108, 109, 110, 111, 112, 113, 114, 115, 116, 117, 118, 119, 120, 121, 122, 123, 124, 125, 126, 127, 128, 129] (by decide +kernel) (by decide +kernel)
set_option maxRecDepth 20000 in
theorem gX9_ofCell_X9_whoIsAt : GoodIn wsX9_ofCell (wsV RX9 86 RX9 yX9_whoIsAt wsX9_whoIsAt) := goodIn_app (goodIn_of _ (by decide +kernel)) ggX9_ofCell_X9_whoIsAt
theorem dX9_ofCell_0 : decode cX9_ofCell 0 = .ok (.aload_n 0, 1) := by decide +kernel
theorem dX9_ofCell_1 : decode cX9_ofCell 1 = .ok (.iload_n 1, 1) := by decide +kernel
theorem dX9_ofCell_2 : decode cX9_ofCell 2 = .ok (.invokevirtual 68, 3) := by decide +kernel
theorem dX9_ofCell_5 : decode cX9_ofCell 5 = .ok (.ifCond .eq 12, 3) := by decide +kernel
theorem dX9_ofCell_8 : decode cX9_ofCell 8 = .ok (.iload_n 2, 1) := by decide +kernel
theorem dX9_ofCell_9 : decode cX9_ofCell 9 = .ok (.iconst 0, 1) := by decide +kernel
theorem dX9_ofCell_10 : decode cX9_ofCell 10 = .ok (.iconst 3, 1) := by decide +kernel
theorem dX9_ofCell_11 : decode cX9_ofCell 11 = .ok (.invokestatic 54, 3) := by decide +kernel
theorem dX9_ofCell_14 : decode cX9_ofCell 14 = .ok (.ifCond .ne 10, 3) := by decide +kernel
theorem dX9_ofCell_17 : decode cX9_ofCell 17 = .ok (.aload_n 0, 1) := by decide +kernel
theorem dX9_ofCell_18 : decode cX9_ofCell 18 = .ok (.ldc 58, 2) := by decide +kernel
theorem dX9_ofCell_20 : decode cX9_ofCell 20 = .ok (.invokevirtual 59, 3) := by decide +kernel
theorem dX9_ofCell_23 : decode cX9_ofCell 23 = .ok (.ireturn, 1) := by decide +kernel
theorem dX9_ofCell_24 : decode cX9_ofCell 24 = .ok (.iload_n 2, 1) := by decide +kernel
theorem dX9_ofCell_25 : decode cX9_ofCell 25 = .ok (.ifCond .ne 15, 3) := by decide +kernel
theorem dX9_ofCell_28 : decode cX9_ofCell 28 = .ok (.aload_n 0, 1) := by decide +kernel
theorem dX9_ofCell_29 : decode cX9_ofCell 29 = .ok (.getfield 7, 3) := by decide +kernel
theorem dX9_ofCell_32 : decode cX9_ofCell 32 = .ok (.bipush 12, 2) := by decide +kernel
theorem dX9_ofCell_34 : decode cX9_ofCell 34 = .ok (.iload_n 1, 1) := by decide +kernel
theorem dX9_ofCell_35 : decode cX9_ofCell 35 = .ok (.iadd, 1) := by decide +kernel
theorem dX9_ofCell_36 : decode cX9_ofCell 36 = .ok (.iaload, 1) := by decide +kernel
theorem dX9_ofCell_37 : decode cX9_ofCell 37 = .ok (.goto 38, 3) := by decide +kernel
theorem dX9_ofCell_40 : decode cX9_ofCell 40 = .ok (.iload_n 2, 1) := by decide +kernel
theorem dX9_ofCell_41 : decode cX9_ofCell 41 = .ok (.iconst 1, 1) := by decide +kernel
theorem dX9_ofCell_42 : decode cX9_ofCell 42 = .ok (.if_icmp .ne 15, 3) := by decide +kernel
theorem dX9_ofCell_45 : decode cX9_ofCell 45 = .ok (.aload_n 0, 1) := by decide +kernel
theorem dX9_ofCell_46 : decode cX9_ofCell 46 = .ok (.getfield 7, 3) := by decide +kernel
theorem dX9_ofCell_49 : decode cX9_ofCell 49 = .ok (.bipush 22, 2) := by decide +kernel
theorem dX9_ofCell_51 : decode cX9_ofCell 51 = .ok (.iload_n 1, 1) := by decide +kernel
theorem dX9_ofCell_52 : decode cX9_ofCell 52 = .ok (.iadd, 1) := by decide +kernel
theorem dX9_ofCell_53 : decode cX9_ofCell 53 = .ok (.iaload, 1) := by decide +kernel
theorem dX9_ofCell_54 : decode cX9_ofCell 54 = .ok (.goto 21, 3) := by decide +kernel
theorem dX9_ofCell_57 : decode cX9_ofCell 57 = .ok (.iload_n 2, 1) := by decide +kernel
theorem dX9_ofCell_58 : decode cX9_ofCell 58 = .ok (.iconst 2, 1) := by decide +kernel
theorem dX9_ofCell_59 : decode cX9_ofCell 59 = .ok (.if_icmp .ne 11, 3) := by decide +kernel
theorem dX9_ofCell_62 : decode cX9_ofCell 62 = .ok (.aload_n 0, 1) := by decide +kernel
theorem dX9_ofCell_63 : decode cX9_ofCell 63 = .ok (.iload_n 1, 1) := by decide +kernel
theorem dX9_ofCell_64 : decode cX9_ofCell 64 = .ok (.invokevirtual 83, 3) := by decide +kernel
theorem dX9_ofCell_67 : decode cX9_ofCell 67 = .ok (.goto 8, 3) := by decide +kernel
theorem dX9_ofCell_70 : decode cX9_ofCell 70 = .ok (.aload_n 0, 1) := by decide +kernel
theorem dX9_ofCell_71 : decode cX9_ofCell 71 = .ok (.iload_n 1, 1) := by decide +kernel
theorem dX9_ofCell_72 : decode cX9_ofCell 72 = .ok (.invokevirtual 86, 3) := by decide +kernel
theorem dX9_ofCell_75 : decode cX9_ofCell 75 = .ok (.ireturn, 1) := by decide +kernel
set_option maxRecDepth 20000 in
theorem ggX9_lay_X9_in : GoodIn wsX9_lay wsX9_in := goodIn_r _ [6] (by decide +kernel) (by decide +kernel)
set_option maxRecDepth 20000 in
theorem gX9_lay_X9_in : GoodIn wsX9_lay (va_wsS RX9 54 yX9_in wsX9_in) := goodIn_app (goodIn_of _ (by decide +kernel)) ggX9_lay_X9_in
set_option maxRecDepth 20000 in
theorem ggX9_lay_X9_becomes : GoodIn wsX9_lay wsX9_becomes := goodIn_r _ [10, 1, 17, 18, 19, 20, 21, 22, 23, 24, 25, 26, 27, 28, 29, 30, 31, 32, 33, 34, 35, 36, 37, 38, 39, 40, 41, 42, 43, 44] (by decide +kernel) (by decide +kernel)
set_option maxRecDepth 20000 in
theorem gX9_lay_X9_becomes : GoodIn wsX9_lay (wsV RX9 64 RX9 yX9_becomes wsX9_becomes) := goodIn_app (goodIn_of _ (by decide +kernel)) ggX9_lay_X9_becomes
set_option maxRecDepth 20000 in
theorem ggX9_lay_X9_errs : GoodIn wsX9_lay wsX9_errs := goodIn_r _ [14, 15, 16, 17, 18, 19, 20, 21, 22, 23, 24, 25, 26, 27, 28, 29, 30, 31, 32, 33, 34, 35, 36, 37, 38, 39, 40, 41, 42, 43, 44] (by decide +kernel) (by decide +kernel)
set_option maxRecDepth 20000 in
theorem gX9_lay_X9_errs : GoodIn wsX9_lay (wsV RX9 59 RX9 yX9_errs wsX9_errs) := goodIn_app (goodIn_of _ (by decide +kernel)) ggX9_lay_X9_errs
theorem dX9_lay_0 : decode cX9_lay 0 = .ok (.iload_n 1, 1) := by decide +kernel
theorem dX9_lay_1 : decode cX9_lay 1 = .ok (.tableswitch 125 0 2 #[27, 64, 99], 27) := by decide +kernel
theorem dX9_lay_28 : decode cX9_lay 28 = .ok (.iload_n 2, 1) := by decide +kernel
theorem dX9_lay_29 : decode cX9_lay 29 = .ok (.iconst 0, 1) := by decide +kernel
theorem dX9_lay_30 : decode cX9_lay 30 = .ok (.iconst 1, 1) := by decide +kernel
theorem dX9_lay_31 : decode cX9_lay 31 = .ok (.aload_n 0, 1) := by decide +kernel
theorem dX9_lay_32 : decode cX9_lay 32 = .ok (.getfield 7, 3) := by decide +kernel
theorem dX9_lay_35 : decode cX9_lay 35 = .ok (.iconst 3, 1) := by decide +kernel
theorem dX9_lay_36 : decode cX9_lay 36 = .ok (.iaload, 1) := by decide +kernel
theorem dX9_lay_37 : decode cX9_lay 37 = .ok (.iconst 1, 1) := by decide +kernel
theorem dX9_lay_38 : decode cX9_lay 38 = .ok (.isub, 1) := by decide +kernel
theorem dX9_lay_39 : decode cX9_lay 39 = .ok (.ishl, 1) := by decide +kernel
theorem dX9_lay_40 : decode cX9_lay 40 = .ok (.iconst 1, 1) := by decide +kernel
theorem dX9_lay_41 : decode cX9_lay 41 = .ok (.isub, 1) := by decide +kernel
theorem dX9_lay_42 : decode cX9_lay 42 = .ok (.invokestatic 54, 3) := by decide +kernel
theorem dX9_lay_45 : decode cX9_lay 45 = .ok (.ifCond .eq 13, 3) := by decide +kernel
theorem dX9_lay_48 : decode cX9_lay 48 = .ok (.aload_n 0, 1) := by decide +kernel
theorem dX9_lay_49 : decode cX9_lay 49 = .ok (.bipush 9, 2) := by decide +kernel
theorem dX9_lay_51 : decode cX9_lay 51 = .ok (.iload_n 2, 1) := by decide +kernel
theorem dX9_lay_52 : decode cX9_lay 52 = .ok (.invokevirtual 64, 3) := by decide +kernel
theorem dX9_lay_55 : decode cX9_lay 55 = .ok (.goto 9, 3) := by decide +kernel
theorem dX9_lay_58 : decode cX9_lay 58 = .ok (.aload_n 0, 1) := by decide +kernel
theorem dX9_lay_59 : decode cX9_lay 59 = .ok (.ldc 58, 2) := by decide +kernel
theorem dX9_lay_61 : decode cX9_lay 61 = .ok (.invokevirtual 59, 3) := by decide +kernel
theorem dX9_lay_64 : decode cX9_lay 64 = .ok (.ireturn, 1) := by decide +kernel
theorem dX9_lay_65 : decode cX9_lay 65 = .ok (.iload_n 2, 1) := by decide +kernel
theorem dX9_lay_66 : decode cX9_lay 66 = .ok (.iconst 0, 1) := by decide +kernel
theorem dX9_lay_67 : decode cX9_lay 67 = .ok (.iconst 1, 1) := by decide +kernel
theorem dX9_lay_68 : decode cX9_lay 68 = .ok (.aload_n 0, 1) := by decide +kernel
theorem dX9_lay_69 : decode cX9_lay 69 = .ok (.getfield 7, 3) := by decide +kernel
theorem dX9_lay_72 : decode cX9_lay 72 = .ok (.iconst 3, 1) := by decide +kernel
theorem dX9_lay_73 : decode cX9_lay 73 = .ok (.iaload, 1) := by decide +kernel
theorem dX9_lay_74 : decode cX9_lay 74 = .ok (.ishl, 1) := by decide +kernel
theorem dX9_lay_75 : decode cX9_lay 75 = .ok (.iconst 1, 1) := by decide +kernel
theorem dX9_lay_76 : decode cX9_lay 76 = .ok (.isub, 1) := by decide +kernel
theorem dX9_lay_77 : decode cX9_lay 77 = .ok (.invokestatic 54, 3) := by decide +kernel
theorem dX9_lay_80 : decode cX9_lay 80 = .ok (.ifCond .eq 13, 3) := by decide +kernel
theorem dX9_lay_83 : decode cX9_lay 83 = .ok (.aload_n 0, 1) := by decide +kernel
theorem dX9_lay_84 : decode cX9_lay 84 = .ok (.bipush 10, 2) := by decide +kernel
theorem dX9_lay_86 : decode cX9_lay 86 = .ok (.iload_n 2, 1) := by decide +kernel
theorem dX9_lay_87 : decode cX9_lay 87 = .ok (.invokevirtual 64, 3) := by decide +kernel
theorem dX9_lay_90 : decode cX9_lay 90 = .ok (.goto 9, 3) := by decide +kernel
theorem dX9_lay_93 : decode cX9_lay 93 = .ok (.aload_n 0, 1) := by decide +kernel
theorem dX9_lay_94 : decode cX9_lay 94 = .ok (.ldc 58, 2) := by decide +kernel
theorem dX9_lay_96 : decode cX9_lay 96 = .ok (.invokevirtual 59, 3) := by decide +kernel
theorem dX9_lay_99 : decode cX9_lay 99 = .ok (.ireturn, 1) := by decide +kernel
theorem dX9_lay_100 : decode cX9_lay 100 = .ok (.iload_n 2, 1) := by decide +kernel
theorem dX9_lay_101 : decode cX9_lay 101 = .ok (.iconst 0, 1) := by decide +kernel
theorem dX9_lay_102 : decode cX9_lay 102 = .ok (.bipush 9, 2) := by decide +kernel
theorem dX9_lay_104 : decode cX9_lay 104 = .ok (.invokestatic 54, 3) := by decide +kernel
theorem dX9_lay_107 : decode cX9_lay 107 = .ok (.ifCond .eq 12, 3) := by decide +kernel
theorem dX9_lay_110 : decode cX9_lay 110 = .ok (.aload_n 0, 1) := by decide +kernel
theorem dX9_lay_111 : decode cX9_lay 111 = .ok (.iconst 1, 1) := by decide +kernel
theorem dX9_lay_112 : decode cX9_lay 112 = .ok (.iload_n 2, 1) := by decide +kernel
theorem dX9_lay_113 : decode cX9_lay 113 = .ok (.invokevirtual 64, 3) := by decide +kernel
theorem dX9_lay_116 : decode cX9_lay 116 = .ok (.goto 9, 3) := by decide +kernel
theorem dX9_lay_119 : decode cX9_lay 119 = .ok (.aload_n 0, 1) := by decide +kernel
theorem dX9_lay_120 : decode cX9_lay 120 = .ok (.ldc 58, 2) := by decide +kernel
theorem dX9_lay_122 : decode cX9_lay 122 = .ok (.invokevirtual 59, 3) := by decide +kernel
theorem dX9_lay_125 : decode cX9_lay 125 = .ok (.ireturn, 1) := by decide +kernel
theorem dX9_lay_126 : decode cX9_lay 126 = .ok (.aload_n 0, 1) := by decide +kernel
theorem dX9_lay_127 : decode cX9_lay 127 = .ok (.ldc 58, 2) := by decide +kernel
theorem dX9_lay_129 : decode cX9_lay 129 = .ok (.invokevirtual 59, 3) := by decide +kernel
theorem dX9_lay_132 : decode cX9_lay 132 = .ok (.ireturn, 1) := by decide +kernel
set_option maxRecDepth 20000 in
theorem ggX9_person_X9_in : GoodIn wsX9_person wsX9_in := goodIn_r _ [7] (by decide +kernel) (by decide +kernel)
set_option maxRecDepth 20000 in
theorem gX9_person_X9_in : GoodIn wsX9_person (va_wsS RX9 54 yX9_in wsX9_in) := goodIn_app (goodIn_of _ (by decide +kernel)) ggX9_person_X9_in
set_option maxRecDepth 20000 in
theorem ggX9_person_X9_isCell : GoodIn wsX9_person wsX9_isCell := goodIn_r _ [11, 2, 4, 5, 6, 7, 22, 23, 24, 25, 26, 27, 28, 29, 30, 31, 32, 33, 34, 35, 36, 37, 38, 39, 40, 41, 42, 43, 44, 45, 46, 47, 48, 49] (by decide +kernel) (by decide +kernel)
set_option maxRecDepth 20000 in
theorem gX9_person_X9_isCell : GoodIn wsX9_person (wsV RX9 68 RX9 yX9_isCell wsX9_isCell) := goodIn_app (goodIn_of _ (by decide +kernel)) ggX9_person_X9_isCell
set_option maxRecDepth 20000 in
theorem ggX9_person_X9_errs : GoodIn wsX9_person wsX9_errs := goodIn_r _ [15, 16, 17, 22, 23, 24, 25, 26, 27, 28, 29, 30, 31, 32, 33, 34, 35, 36, 37, 38, 39, 40, 41, 42, 43, 44, 45, 46, 47, 48, 49] (by decide +kernel) (by decide +kernel)
set_option maxRecDepth 20000 in
theorem gX9_person_X9_errs : GoodIn wsX9_person (wsV RX9 59 RX9 yX9_errs wsX9_errs) := goodIn_app (goodIn_of _ (by decide +kernel)) ggX9_person_X9_errs
set_option maxRecDepth 20000 in
theorem ggX9_person_X9_gets : GoodIn wsX9_person wsX9_gets := goodIn_r _ [21, 2, 22, 23, 24, 25, 26, 27, 28, 29, 30, 31, 32, 33, 34, 35, 36, 37, 38, 39, 40, 41, 42, 43, 44, 45, 46, 47, 48, 49] (by decide +kernel) (by decide +kernel)
set_option maxRecDepth 20000 in
theorem gX9_person_X9_gets : GoodIn wsX9_person (wsV RX9 90 RX9 yX9_gets wsX9_gets) := goodIn_app (goodIn_of _ (by decide +kernel)) ggX9_person_X9_gets
theorem dX9_person_0 : decode cX9_person 0 = .ok (.iload_n 1, 1) := by decide +kernel
theorem dX9_person_1 : decode cX9_person 1 = .ok (.iconst 0, 1) := by decide +kernel
theorem dX9_person_2 : decode cX9_person 2 = .ok (.bipush 69, 2) := by decide +kernel
theorem dX9_person_4 : decode cX9_person 4 = .ok (.invokestatic 54, 3) := by decide +kernel
theorem dX9_person_7 : decode cX9_person 7 = .ok (.ifCond .eq 11, 3) := by decide +kernel
theorem dX9_person_10 : decode cX9_person 10 = .ok (.aload_n 0, 1) := by decide +kernel
theorem dX9_person_11 : decode cX9_person 11 = .ok (.iload_n 2, 1) := by decide +kernel
theorem dX9_person_12 : decode cX9_person 12 = .ok (.invokevirtual 68, 3) := by decide +kernel
theorem dX9_person_15 : decode cX9_person 15 = .ok (.ifCond .ne 10, 3) := by decide +kernel
theorem dX9_person_18 : decode cX9_person 18 = .ok (.aload_n 0, 1) := by decide +kernel
theorem dX9_person_19 : decode cX9_person 19 = .ok (.ldc 58, 2) := by decide +kernel
theorem dX9_person_21 : decode cX9_person 21 = .ok (.invokevirtual 59, 3) := by decide +kernel
theorem dX9_person_24 : decode cX9_person 24 = .ok (.ireturn, 1) := by decide +kernel
theorem dX9_person_25 : decode cX9_person 25 = .ok (.aload_n 0, 1) := by decide +kernel
theorem dX9_person_26 : decode cX9_person 26 = .ok (.getfield 7, 3) := by decide +kernel
theorem dX9_person_29 : decode cX9_person 29 = .ok (.bipush 8, 2) := by decide +kernel
theorem dX9_person_31 : decode cX9_person 31 = .ok (.iaload, 1) := by decide +kernel
theorem dX9_person_32 : decode cX9_person 32 = .ok (.bipush 8, 2) := by decide +kernel
theorem dX9_person_34 : decode cX9_person 34 = .ok (.if_icmp .ne 10, 3) := by decide +kernel
theorem dX9_person_37 : decode cX9_person 37 = .ok (.aload_n 0, 1) := by decide +kernel
theorem dX9_person_38 : decode cX9_person 38 = .ok (.ldc 89, 2) := by decide +kernel
theorem dX9_person_40 : decode cX9_person 40 = .ok (.invokevirtual 59, 3) := by decide +kernel
theorem dX9_person_43 : decode cX9_person 43 = .ok (.ireturn, 1) := by decide +kernel
theorem dX9_person_44 : decode cX9_person 44 = .ok (.aload_n 0, 1) := by decide +kernel
theorem dX9_person_45 : decode cX9_person 45 = .ok (.getfield 7, 3) := by decide +kernel
theorem dX9_person_48 : decode cX9_person 48 = .ok (.bipush 8, 2) := by decide +kernel
theorem dX9_person_50 : decode cX9_person 50 = .ok (.iaload, 1) := by decide +kernel
theorem dX9_person_51 : decode cX9_person 51 = .ok (.istore_n 3, 1) := by decide +kernel
theorem dX9_person_52 : decode cX9_person 52 = .ok (.aload_n 0, 1) := by decide +kernel
theorem dX9_person_53 : decode cX9_person 53 = .ok (.iload_n 3, 1) := by decide +kernel
theorem dX9_person_54 : decode cX9_person 54 = .ok (.iconst 0, 1) := by decide +kernel
theorem dX9_person_55 : decode cX9_person 55 = .ok (.iload_n 1, 1) := by decide +kernel
theorem dX9_person_56 : decode cX9_person 56 = .ok (.bipush 10, 2) := by decide +kernel
theorem dX9_person_58 : decode cX9_person 58 = .ok (.idiv, 1) := by decide +kernel
theorem dX9_person_59 : decode cX9_person 59 = .ok (.invokevirtual 90, 3) := by decide +kernel
theorem dX9_person_62 : decode cX9_person 62 = .ok (.aload_n 0, 1) := by decide +kernel
theorem dX9_person_63 : decode cX9_person 63 = .ok (.iload_n 3, 1) := by decide +kernel
theorem dX9_person_64 : decode cX9_person 64 = .ok (.iconst 1, 1) := by decide +kernel
theorem dX9_person_65 : decode cX9_person 65 = .ok (.iload_n 1, 1) := by decide +kernel
theorem dX9_person_66 : decode cX9_person 66 = .ok (.bipush 10, 2) := by decide +kernel
theorem dX9_person_68 : decode cX9_person 68 = .ok (.irem, 1) := by decide +kernel
theorem dX9_person_69 : decode cX9_person 69 = .ok (.invokevirtual 90, 3) := by decide +kernel
theorem dX9_person_72 : decode cX9_person 72 = .ok (.aload_n 0, 1) := by decide +kernel
theorem dX9_person_73 : decode cX9_person 73 = .ok (.iload_n 3, 1) := by decide +kernel
theorem dX9_person_74 : decode cX9_person 74 = .ok (.iconst 2, 1) := by decide +kernel
theorem dX9_person_75 : decode cX9_person 75 = .ok (.iload_n 2, 1) := by decide +kernel
theorem dX9_person_76 : decode cX9_person 76 = .ok (.invokevirtual 90, 3) := by decide +kernel
theorem dX9_person_79 : decode cX9_person 79 = .ok (.aload_n 0, 1) := by decide +kernel
theorem dX9_person_80 : decode cX9_person 80 = .ok (.iload_n 3, 1) := by decide +kernel
theorem dX9_person_81 : decode cX9_person 81 = .ok (.iconst 3, 1) := by decide +kernel
theorem dX9_person_82 : decode cX9_person 82 = .ok (.iconst 0, 1) := by decide +kernel
theorem dX9_person_83 : decode cX9_person 83 = .ok (.invokevirtual 90, 3) := by decide +kernel
theorem dX9_person_86 : decode cX9_person 86 = .ok (.aload_n 0, 1) := by decide +kernel
theorem dX9_person_87 : decode cX9_person 87 = .ok (.getfield 7, 3) := by decide +kernel
theorem dX9_person_90 : decode cX9_person 90 = .ok (.bipush 8, 2) := by decide +kernel
theorem dX9_person_92 : decode cX9_person 92 = .ok (.dup2, 1) := by decide +kernel
theorem dX9_person_93 : decode cX9_person 93 = .ok (.iaload, 1) := by decide +kernel
theorem dX9_person_94 : decode cX9_person 94 = .ok (.iconst 1, 1) := by decide +kernel
theorem dX9_person_95 : decode cX9_person 95 = .ok (.iadd, 1) := by decide +kernel
theorem dX9_person_96 : decode cX9_person 96 = .ok (.iastore, 1) := by decide +kernel
theorem dX9_person_97 : decode cX9_person 97 = .ok (.iload_n 3, 1) := by decide +kernel
theorem dX9_person_98 : decode cX9_person 98 = .ok (.ireturn, 1) := by decide +kernel
set_option maxRecDepth 20000 in
theorem ggX9_ofPerson_X9_isPerson : GoodIn wsX9_ofPerson wsX9_isPerson := goodIn_r _ [6, 7, 8, 9, 5, 10, 102, 103, 104, 105, 106, 107, 108, 109, 110, 111, 112, 113, 114, 115, 116, 117, 118, 119, 120, 121, 122, 123, 124, 125, 126, 127, 128, 129] (by decide +kernel) (by decide +kernel)
set_option maxRecDepth 20000 in
theorem gX9_ofPerson_X9_isPerson : GoodIn wsX9_ofPerson (wsV RX9 94 RX9 yX9_isPerson wsX9_isPerson) := goodIn_app (goodIn_of _ (by decide +kernel)) ggX9_ofPerson_X9_isPerson
set_option maxRecDepth 20000 in
theorem ggX9_ofPerson_X9_in : GoodIn wsX9_ofPerson wsX9_in := goodIn_r _ [10] (by decide +kernel) (by decide +kernel)
set_option maxRecDepth 20000 in
theorem gX9_ofPerson_X9_in : GoodIn wsX9_ofPerson (va_wsS RX9 54 yX9_in wsX9_in) := goodIn_app (goodIn_of _ (by decide +kernel)) ggX9_ofPerson_X9_in
set_option maxRecDepth 20000 in
theorem ggX9_ofPerson_X9_errs : GoodIn wsX9_ofPerson wsX9_errs := goodIn_r _ [14, 15, 16, 102, 103, 104, 105, 106, 107, 108, 109, 110, 111, 112, 113, 114, 115, 116, 117, 118, 119, 120, 121, 122, 123, 124, 125, 126, 127, 128, 129] (by decide +kernel) (by decide +kernel)
set_option maxRecDepth 20000 in
theorem gX9_ofPerson_X9_errs : GoodIn wsX9_ofPerson (wsV RX9 59 RX9 yX9_errs wsX9_errs) := goodIn_app (goodIn_of _ (by decide +kernel)) ggX9_ofPerson_X9_errs
set_option maxRecDepth 20000 in
theorem ggX9_ofPerson_X9_sight : GoodIn wsX9_ofPerson wsX9_sight := goodIn_r _ [20, 7, 21, 22, 23, 5, 24, 25, 26, 27, 28, 29, 30, 31, 32, 33, 34, 35, 36, 37, 38, 39, 40, 41, 42, 43, 44, 45, 46, 47, 48, 49, 50, 51, 52, 53, 54, 55, 56, 57, 58, 59, 60, 61, 62, 63, 8, 9, 10, 64, 65, 66, 67, 68, 69, 70, 71, 72, 73, 74, 75, 76, 77, 78, 79, 80, 81, 82, 83, 84, 85, 86, 102, 103, 104, 105, 106, 107, 108, 109, 110, 111, 112, 113, 114, 115, 116, 117, 118, 119, 120, 121, 122, 123, 124, 125, 126, 127, 128, 129] (by decide +kernel) (by decide +kernel)
set_option maxRecDepth 20000 in
theorem gX9_ofPerson_X9_sight : GoodIn wsX9_ofPerson (wsV RX9 97 RX9 yX9_sight wsX9_sight) := goodIn_app (goodIn_of _ (by decide +kernel)) ggX9_ofPerson_X9_sight
set_option maxRecDepth 20000 in
theorem ggX9_ofPerson_X9_counts : GoodIn wsX9_ofPerson wsX9_counts := goodIn_r _ [90, 21, 22, 23, 5, 24, 7, 102, 103, 104, 105, 106, 107, 108, 109, 110, 111, 112, 113, 114, 115, 116, 117, 118, 119, 120, 121, 122, 123, 124, 125, 126, 127, 128, 129] (by decide +kernel) (by decide +kernel)
set_option maxRecDepth 20000 in
theorem gX9_ofPerson_X9_counts : GoodIn wsX9_ofPerson (wsV RX9 100 RX9 yX9_counts wsX9_counts) := goodIn_app (goodIn_of _ (by decide +kernel)) ggX9_ofPerson_X9_counts
set_option maxRecDepth 20000 in
theorem ggX9_ofPerson_X9_takes : GoodIn wsX9_ofPerson wsX9_takes := goodIn_r _ [94, 7, 21, 22, 23, 5, 24, 25, 26, 27, 28, 29, 30, 31, 32, 33, 34, 35, 36, 37, 38, 39, 40, 41, 42, 43, 44, 45, 46, 47, 48, 49, 50, 51, 52, 53, 54, 55, 56, 57, 58, 59, 60, 61, 62, 63, 8, 9, 10, 64, 65, 66, 67, 68, 69, 70, 71, 72, 73, 74, 75, 76, 77, 78, 79, 80, 81, 82, 83, 84, 85, 86, 102, 103, 104, 105, 106, 107, 108, 109, 110, 111, 112, 113, 114, 115, 116, 117, 118, 119, 120, 121, 122, 123, 124, 125, 126, 127, 128, 129] (by decide +kernel) (by decide +kernel)
set_option maxRecDepth 20000 in
theorem gX9_ofPerson_X9_takes : GoodIn wsX9_ofPerson (wsV RX9 103 RX9 yX9_takes wsX9_takes) := goodIn_app (goodIn_of _ (by decide +kernel)) ggX9_ofPerson_X9_takes
set_option maxRecDepth 20000 in
theorem ggX9_ofPerson_X9_seesOf : GoodIn wsX9_ofPerson wsX9_seesOf := goodIn_r _ [98, 7, 21, 22, 23, 5, 24, 17, 18, 19, 20, 25, 26, 27, 28, 29, 30, 31, 32, 33, 34, 35, 36, 37, 38, 39, 40, 41, 42, 43, 44, 45, 46, 47, 48, 49, 50, 51, 52, 53, 54, 55, 56, 57, 58, 59, 60, 61, 62, 63, 8, 9, 10, 64, 65, 66, 67, 68, 69, 70, 71, 72, 73, 74, 75, 76, 77, 78, 79, 80, 81, 82, 83, 84, 85, 86, 99, 100, 101, 102, 103, 104, 105, 106, 107, 108, 109, 110, 111, 112, 113, 114, 115, 116, 117, 118, 119, 120, 121, 122, 123, 124, 125, 126, 127, 128, 129] (by decide +kernel) (by decide +kernel)
set_option maxRecDepth 20000 in
theorem gX9_ofPerson_X9_seesOf : GoodIn wsX9_ofPerson (wsV RX9 73 RX9 yX9_seesOf wsX9_seesOf) := goodIn_app (goodIn_of _ (by decide +kernel)) ggX9_ofPerson_X9_seesOf
set_option maxRecDepth 20000 in
theorem ggX9_ofPerson_X9_its : GoodIn wsX9_ofPerson wsX9_its := goodIn_r _ [24, 7, 102, 103, 104, 105, 106, 107, 108, 109, 110, 111, 112, 113, 114, 115, 116, 117, 118, 119, 120, 121, 122, 123, 124, 125, 126, 127, 128, 129] (by decide +kernel) (by decide +kernel)
set_option maxRecDepth 20000 in
theorem gX9_ofPerson_X9_its : GoodIn wsX9_ofPerson (wsV RX9 80 RX9 yX9_its wsX9_its) := goodIn_app (goodIn_of _ (by decide +kernel)) ggX9_ofPerson_X9_its
theorem dX9_ofPerson_0 : decode cX9_ofPerson 0 = .ok (.aload_n 0, 1) := by decide +kernel
theorem dX9_ofPerson_1 : decode cX9_ofPerson 1 = .ok (.iload_n 1, 1) := by decide +kernel
theorem dX9_ofPerson_2 : decode cX9_ofPerson 2 = .ok (.invokevirtual 94, 3) := by decide +kernel
theorem dX9_ofPerson_5 : decode cX9_ofPerson 5 = .ok (.ifCond .eq 13, 3) := by decide +kernel
theorem dX9_ofPerson_8 : decode cX9_ofPerson 8 = .ok (.iload_n 2, 1) := by decide +kernel
theorem dX9_ofPerson_9 : decode cX9_ofPerson 9 = .ok (.iconst 0, 1) := by decide +kernel
theorem dX9_ofPerson_10 : decode cX9_ofPerson 10 = .ok (.bipush 7, 2) := by decide +kernel
theorem dX9_ofPerson_12 : decode cX9_ofPerson 12 = .ok (.invokestatic 54, 3) := by decide +kernel
theorem dX9_ofPerson_15 : decode cX9_ofPerson 15 = .ok (.ifCond .ne 10, 3) := by decide +kernel
theorem dX9_ofPerson_18 : decode cX9_ofPerson 18 = .ok (.aload_n 0, 1) := by decide +kernel
theorem dX9_ofPerson_19 : decode cX9_ofPerson 19 = .ok (.ldc 58, 2) := by decide +kernel
theorem dX9_ofPerson_21 : decode cX9_ofPerson 21 = .ok (.invokevirtual 59, 3) := by decide +kernel
theorem dX9_ofPerson_24 : decode cX9_ofPerson 24 = .ok (.ireturn, 1) := by decide +kernel
theorem dX9_ofPerson_25 : decode cX9_ofPerson 25 = .ok (.iload_n 2, 1) := by decide +kernel
theorem dX9_ofPerson_26 : decode cX9_ofPerson 26 = .ok (.tableswitch 54 4 7 #[30, 36, 42, 48], 30) := by decide +kernel
theorem dX9_ofPerson_56 : decode cX9_ofPerson 56 = .ok (.aload_n 0, 1) := by decide +kernel
theorem dX9_ofPerson_57 : decode cX9_ofPerson 57 = .ok (.iload_n 1, 1) := by decide +kernel
theorem dX9_ofPerson_58 : decode cX9_ofPerson 58 = .ok (.invokevirtual 97, 3) := by decide +kernel
theorem dX9_ofPerson_61 : decode cX9_ofPerson 61 = .ok (.ireturn, 1) := by decide +kernel
theorem dX9_ofPerson_62 : decode cX9_ofPerson 62 = .ok (.aload_n 0, 1) := by decide +kernel
theorem dX9_ofPerson_63 : decode cX9_ofPerson 63 = .ok (.iload_n 1, 1) := by decide +kernel
theorem dX9_ofPerson_64 : decode cX9_ofPerson 64 = .ok (.invokevirtual 100, 3) := by decide +kernel
theorem dX9_ofPerson_67 : decode cX9_ofPerson 67 = .ok (.ireturn, 1) := by decide +kernel
theorem dX9_ofPerson_68 : decode cX9_ofPerson 68 = .ok (.aload_n 0, 1) := by decide +kernel
theorem dX9_ofPerson_69 : decode cX9_ofPerson 69 = .ok (.iload_n 1, 1) := by decide +kernel
theorem dX9_ofPerson_70 : decode cX9_ofPerson 70 = .ok (.invokevirtual 103, 3) := by decide +kernel
theorem dX9_ofPerson_73 : decode cX9_ofPerson 73 = .ok (.ireturn, 1) := by decide +kernel
theorem dX9_ofPerson_74 : decode cX9_ofPerson 74 = .ok (.aload_n 0, 1) := by decide +kernel
theorem dX9_ofPerson_75 : decode cX9_ofPerson 75 = .ok (.iload_n 1, 1) := by decide +kernel
theorem dX9_ofPerson_76 : decode cX9_ofPerson 76 = .ok (.invokevirtual 73, 3) := by decide +kernel
theorem dX9_ofPerson_79 : decode cX9_ofPerson 79 = .ok (.ireturn, 1) := by decide +kernel
theorem dX9_ofPerson_80 : decode cX9_ofPerson 80 = .ok (.aload_n 0, 1) := by decide +kernel
theorem dX9_ofPerson_81 : decode cX9_ofPerson 81 = .ok (.iload_n 1, 1) := by decide +kernel
theorem dX9_ofPerson_82 : decode cX9_ofPerson 82 = .ok (.iload_n 2, 1) := by decide +kernel
theorem dX9_ofPerson_83 : decode cX9_ofPerson 83 = .ok (.invokevirtual 80, 3) := by decide +kernel
theorem dX9_ofPerson_86 : decode cX9_ofPerson 86 = .ok (.ireturn, 1) := by decide +kernel
set_option maxRecDepth 20000 in
theorem ggX9_lead_X9_isCell : GoodIn wsX9_lead wsX9_isCell := goodIn_r _ [6, 7, 8, 9, 5, 10, 25, 26, 27, 28, 29, 30, 31, 32, 33, 34, 35, 36, 37, 38, 39, 40, 41, 42, 43, 44, 45, 46, 47, 48, 49, 50, 51, 52] (by decide +kernel) (by decide +kernel)
set_option maxRecDepth 20000 in
theorem gX9_lead_X9_isCell : GoodIn wsX9_lead (wsV RX9 68 RX9 yX9_isCell wsX9_isCell) := goodIn_app (goodIn_of _ (by decide +kernel)) ggX9_lead_X9_isCell
set_option maxRecDepth 20000 in
theorem ggX9_lead_X9_in : GoodIn wsX9_lead wsX9_in := goodIn_r _ [10] (by decide +kernel) (by decide +kernel)
set_option maxRecDepth 20000 in
theorem gX9_lead_X9_in : GoodIn wsX9_lead (va_wsS RX9 54 yX9_in wsX9_in) := goodIn_app (goodIn_of _ (by decide +kernel)) ggX9_lead_X9_in
set_option maxRecDepth 20000 in
theorem ggX9_lead_X9_isPerson : GoodIn wsX9_lead wsX9_isPerson := goodIn_r _ [14, 7, 8, 9, 5, 10, 25, 26, 27, 28, 29, 30, 31, 32, 33, 34, 35, 36, 37, 38, 39, 40, 41, 42, 43, 44, 45, 46, 47, 48, 49, 50, 51, 52] (by decide +kernel) (by decide +kernel)
set_option maxRecDepth 20000 in
theorem gX9_lead_X9_isPerson : GoodIn wsX9_lead (wsV RX9 94 RX9 yX9_isPerson wsX9_isPerson) := goodIn_app (goodIn_of _ (by decide +kernel)) ggX9_lead_X9_isPerson
set_option maxRecDepth 20000 in
theorem ggX9_lead_X9_becomes : GoodIn wsX9_lead wsX9_becomes := goodIn_r _ [18, 7, 25, 26, 27, 28, 29, 30, 31, 32, 33, 34, 35, 36, 37, 38, 39, 40, 41, 42, 43, 44, 45, 46, 47, 48, 49, 50, 51, 52] (by decide +kernel) (by decide +kernel)
set_option maxRecDepth 20000 in
theorem gX9_lead_X9_becomes : GoodIn wsX9_lead (wsV RX9 64 RX9 yX9_becomes wsX9_becomes) := goodIn_app (goodIn_of _ (by decide +kernel)) ggX9_lead_X9_becomes
set_option maxRecDepth 20000 in
theorem ggX9_lead_X9_errs : GoodIn wsX9_lead wsX9_errs := goodIn_r _ [22, 23, 24, 25, 26, 27, 28, 29, 30, 31, 32, 33, 34, 35, 36, 37, 38, 39, 40, 41, 42, 43, 44, 45, 46, 47, 48, 49, 50, 51, 52] (by decide +kernel) (by decide +kernel)
set_option maxRecDepth 20000 in
theorem gX9_lead_X9_errs : GoodIn wsX9_lead (wsV RX9 59 RX9 yX9_errs wsX9_errs) := goodIn_app (goodIn_of _ (by decide +kernel)) ggX9_lead_X9_errs
theorem dX9_lead_0 : decode cX9_lead 0 = .ok (.iload_n 2, 1) := by decide +kernel
theorem dX9_lead_1 : decode cX9_lead 1 = .ok (.ifCond .ne 11, 3) := by decide +kernel
theorem dX9_lead_4 : decode cX9_lead 4 = .ok (.aload_n 0, 1) := by decide +kernel
theorem dX9_lead_5 : decode cX9_lead 5 = .ok (.iload_n 3, 1) := by decide +kernel
theorem dX9_lead_6 : decode cX9_lead 6 = .ok (.invokevirtual 68, 3) := by decide +kernel
theorem dX9_lead_9 : decode cX9_lead 9 = .ok (.goto 22, 3) := by decide +kernel
theorem dX9_lead_12 : decode cX9_lead 12 = .ok (.iload_n 2, 1) := by decide +kernel
theorem dX9_lead_13 : decode cX9_lead 13 = .ok (.iconst 1, 1) := by decide +kernel
theorem dX9_lead_14 : decode cX9_lead 14 = .ok (.if_icmp .ne 16, 3) := by decide +kernel
theorem dX9_lead_17 : decode cX9_lead 17 = .ok (.iload_n 3, 1) := by decide +kernel
theorem dX9_lead_18 : decode cX9_lead 18 = .ok (.iconst (-1), 1) := by decide +kernel
theorem dX9_lead_19 : decode cX9_lead 19 = .ok (.iconst 1, 1) := by decide +kernel
theorem dX9_lead_20 : decode cX9_lead 20 = .ok (.invokestatic 54, 3) := by decide +kernel
theorem dX9_lead_23 : decode cX9_lead 23 = .ok (.ifCond .eq 7, 3) := by decide +kernel
theorem dX9_lead_26 : decode cX9_lead 26 = .ok (.iconst 1, 1) := by decide +kernel
theorem dX9_lead_27 : decode cX9_lead 27 = .ok (.goto 4, 3) := by decide +kernel
theorem dX9_lead_30 : decode cX9_lead 30 = .ok (.iconst 0, 1) := by decide +kernel
theorem dX9_lead_31 : decode cX9_lead 31 = .ok (.istore 4, 2) := by decide +kernel
theorem dX9_lead_33 : decode cX9_lead 33 = .ok (.aload_n 0, 1) := by decide +kernel
theorem dX9_lead_34 : decode cX9_lead 34 = .ok (.iload_n 1, 1) := by decide +kernel
theorem dX9_lead_35 : decode cX9_lead 35 = .ok (.invokevirtual 94, 3) := by decide +kernel
theorem dX9_lead_38 : decode cX9_lead 38 = .ok (.ifCond .eq 26, 3) := by decide +kernel
theorem dX9_lead_41 : decode cX9_lead 41 = .ok (.iload 4, 2) := by decide +kernel
theorem dX9_lead_43 : decode cX9_lead 43 = .ok (.ifCond .eq 21, 3) := by decide +kernel
theorem dX9_lead_46 : decode cX9_lead 46 = .ok (.aload_n 0, 1) := by decide +kernel
theorem dX9_lead_47 : decode cX9_lead 47 = .ok (.bipush 32, 2) := by decide +kernel
theorem dX9_lead_49 : decode cX9_lead 49 = .ok (.iconst 4, 1) := by decide +kernel
theorem dX9_lead_50 : decode cX9_lead 50 = .ok (.iload_n 1, 1) := by decide +kernel
theorem dX9_lead_51 : decode cX9_lead 51 = .ok (.imul, 1) := by decide +kernel
theorem dX9_lead_52 : decode cX9_lead 52 = .ok (.iadd, 1) := by decide +kernel
theorem dX9_lead_53 : decode cX9_lead 53 = .ok (.iconst 2, 1) := by decide +kernel
theorem dX9_lead_54 : decode cX9_lead 54 = .ok (.iadd, 1) := by decide +kernel
theorem dX9_lead_55 : decode cX9_lead 55 = .ok (.iload_n 2, 1) := by decide +kernel
theorem dX9_lead_56 : decode cX9_lead 56 = .ok (.iadd, 1) := by decide +kernel
theorem dX9_lead_57 : decode cX9_lead 57 = .ok (.iload_n 3, 1) := by decide +kernel
theorem dX9_lead_58 : decode cX9_lead 58 = .ok (.invokevirtual 64, 3) := by decide +kernel
theorem dX9_lead_61 : decode cX9_lead 61 = .ok (.goto 9, 3) := by decide +kernel
theorem dX9_lead_64 : decode cX9_lead 64 = .ok (.aload_n 0, 1) := by decide +kernel
theorem dX9_lead_65 : decode cX9_lead 65 = .ok (.ldc 58, 2) := by decide +kernel
theorem dX9_lead_67 : decode cX9_lead 67 = .ok (.invokevirtual 59, 3) := by decide +kernel
theorem dX9_lead_70 : decode cX9_lead 70 = .ok (.ireturn, 1) := by decide +kernel
set_option maxRecDepth 20000 in
theorem ggX9_become_X9_isPerson : GoodIn wsX9_become wsX9_isPerson := goodIn_r _ [6, 7, 8, 9, 5, 10, 25, 26, 27, 28, 29, 30, 31, 32, 33, 34, 35, 36, 37, 38, 39, 40, 41, 42, 43, 44, 45, 46, 47, 48, 49, 50, 51, 52] (by decide +kernel) (by decide +kernel)
set_option maxRecDepth 20000 in
theorem gX9_become_X9_isPerson : GoodIn wsX9_become (wsV RX9 94 RX9 yX9_isPerson wsX9_isPerson) := goodIn_app (goodIn_of _ (by decide +kernel)) ggX9_become_X9_isPerson
set_option maxRecDepth 20000 in
theorem ggX9_become_X9_in : GoodIn wsX9_become wsX9_in := goodIn_r _ [10] (by decide +kernel) (by decide +kernel)
set_option maxRecDepth 20000 in
theorem gX9_become_X9_in : GoodIn wsX9_become (va_wsS RX9 54 yX9_in wsX9_in) := goodIn_app (goodIn_of _ (by decide +kernel)) ggX9_become_X9_in
set_option maxRecDepth 20000 in
theorem ggX9_become_X9_errs : GoodIn wsX9_become wsX9_errs := goodIn_r _ [14, 15, 16, 25, 26, 27, 28, 29, 30, 31, 32, 33, 34, 35, 36, 37, 38, 39, 40, 41, 42, 43, 44, 45, 46, 47, 48, 49, 50, 51, 52] (by decide +kernel) (by decide +kernel)
set_option maxRecDepth 20000 in
theorem gX9_become_X9_errs : GoodIn wsX9_become (wsV RX9 59 RX9 yX9_errs wsX9_errs) := goodIn_app (goodIn_of _ (by decide +kernel)) ggX9_become_X9_errs
set_option maxRecDepth 20000 in
theorem ggX9_become_X9_gets : GoodIn wsX9_become wsX9_gets := goodIn_r _ [20, 7, 25, 26, 27, 28, 29, 30, 31, 32, 33, 34, 35, 36, 37, 38, 39, 40, 41, 42, 43, 44, 45, 46, 47, 48, 49, 50, 51, 52] (by decide +kernel) (by decide +kernel)
set_option maxRecDepth 20000 in
theorem gX9_become_X9_gets : GoodIn wsX9_become (wsV RX9 90 RX9 yX9_gets wsX9_gets) := goodIn_app (goodIn_of _ (by decide +kernel)) ggX9_become_X9_gets
set_option maxRecDepth 20000 in
theorem ggX9_become_X9_becomes : GoodIn wsX9_become wsX9_becomes := goodIn_r _ [24, 7, 25, 26, 27, 28, 29, 30, 31, 32, 33, 34, 35, 36, 37, 38, 39, 40, 41, 42, 43, 44, 45, 46, 47, 48, 49, 50, 51, 52] (by decide +kernel) (by decide +kernel)
set_option maxRecDepth 20000 in
theorem gX9_become_X9_becomes : GoodIn wsX9_become (wsV RX9 64 RX9 yX9_becomes wsX9_becomes) := goodIn_app (goodIn_of _ (by decide +kernel)) ggX9_become_X9_becomes
theorem dX9_become_0 : decode cX9_become 0 = .ok (.aload_n 0, 1) := by decide +kernel
theorem dX9_become_1 : decode cX9_become 1 = .ok (.iload_n 1, 1) := by decide +kernel
theorem dX9_become_2 : decode cX9_become 2 = .ok (.invokevirtual 94, 3) := by decide +kernel
theorem dX9_become_5 : decode cX9_become 5 = .ok (.ifCond .eq 13, 3) := by decide +kernel
theorem dX9_become_8 : decode cX9_become 8 = .ok (.iload_n 2, 1) := by decide +kernel
theorem dX9_become_9 : decode cX9_become 9 = .ok (.iconst 0, 1) := by decide +kernel
theorem dX9_become_10 : decode cX9_become 10 = .ok (.bipush 69, 2) := by decide +kernel
theorem dX9_become_12 : decode cX9_become 12 = .ok (.invokestatic 54, 3) := by decide +kernel
theorem dX9_become_15 : decode cX9_become 15 = .ok (.ifCond .ne 10, 3) := by decide +kernel
theorem dX9_become_18 : decode cX9_become 18 = .ok (.aload_n 0, 1) := by decide +kernel
theorem dX9_become_19 : decode cX9_become 19 = .ok (.ldc 58, 2) := by decide +kernel
theorem dX9_become_21 : decode cX9_become 21 = .ok (.invokevirtual 59, 3) := by decide +kernel
theorem dX9_become_24 : decode cX9_become 24 = .ok (.ireturn, 1) := by decide +kernel
theorem dX9_become_25 : decode cX9_become 25 = .ok (.aload_n 0, 1) := by decide +kernel
theorem dX9_become_26 : decode cX9_become 26 = .ok (.iload_n 1, 1) := by decide +kernel
theorem dX9_become_27 : decode cX9_become 27 = .ok (.iconst 1, 1) := by decide +kernel
theorem dX9_become_28 : decode cX9_become 28 = .ok (.iload_n 2, 1) := by decide +kernel
theorem dX9_become_29 : decode cX9_become 29 = .ok (.bipush 10, 2) := by decide +kernel
theorem dX9_become_31 : decode cX9_become 31 = .ok (.irem, 1) := by decide +kernel
theorem dX9_become_32 : decode cX9_become 32 = .ok (.invokevirtual 90, 3) := by decide +kernel
theorem dX9_become_35 : decode cX9_become 35 = .ok (.aload_n 0, 1) := by decide +kernel
theorem dX9_become_36 : decode cX9_become 36 = .ok (.bipush 32, 2) := by decide +kernel
theorem dX9_become_38 : decode cX9_become 38 = .ok (.iconst 4, 1) := by decide +kernel
theorem dX9_become_39 : decode cX9_become 39 = .ok (.iload_n 1, 1) := by decide +kernel
theorem dX9_become_40 : decode cX9_become 40 = .ok (.imul, 1) := by decide +kernel
theorem dX9_become_41 : decode cX9_become 41 = .ok (.iadd, 1) := by decide +kernel
theorem dX9_become_42 : decode cX9_become 42 = .ok (.iload_n 2, 1) := by decide +kernel
theorem dX9_become_43 : decode cX9_become 43 = .ok (.bipush 10, 2) := by decide +kernel
theorem dX9_become_45 : decode cX9_become 45 = .ok (.idiv, 1) := by decide +kernel
theorem dX9_become_46 : decode cX9_become 46 = .ok (.invokevirtual 64, 3) := by decide +kernel
theorem dX9_become_49 : decode cX9_become 49 = .ok (.ireturn, 1) := by decide +kernel
theorem dX9_above_0 : decode cX9_above 0 = .ok (.iload_n 0, 1) := by decide +kernel
theorem dX9_above_1 : decode cX9_above 1 = .ok (.ifCond .ne 7, 3) := by decide +kernel
theorem dX9_above_4 : decode cX9_above 4 = .ok (.iconst (-1), 1) := by decide +kernel
theorem dX9_above_5 : decode cX9_above 5 = .ok (.goto 15, 3) := by decide +kernel
theorem dX9_above_8 : decode cX9_above 8 = .ok (.iload_n 0, 1) := by decide +kernel
theorem dX9_above_9 : decode cX9_above 9 = .ok (.iconst 3, 1) := by decide +kernel
theorem dX9_above_10 : decode cX9_above 10 = .ok (.if_icmp .le 9, 3) := by decide +kernel
theorem dX9_above_13 : decode cX9_above 13 = .ok (.iload_n 0, 1) := by decide +kernel
theorem dX9_above_14 : decode cX9_above 14 = .ok (.iconst 3, 1) := by decide +kernel
theorem dX9_above_15 : decode cX9_above 15 = .ok (.isub, 1) := by decide +kernel
theorem dX9_above_16 : decode cX9_above 16 = .ok (.goto 4, 3) := by decide +kernel
theorem dX9_above_19 : decode cX9_above 19 = .ok (.iconst 0, 1) := by decide +kernel
theorem dX9_above_20 : decode cX9_above 20 = .ok (.ireturn, 1) := by decide +kernel
set_option maxRecDepth 20000 in
theorem ggX9_as_X9_isPerson : GoodIn wsX9_as wsX9_isPerson := goodIn_r _ [7, 8, 9, 10, 6, 11, 25, 26, 27, 28, 29, 30, 31, 32, 33, 34, 35, 36, 37, 38, 39, 40, 41, 42, 43, 44, 45, 46, 47, 48, 49, 50, 51, 52] (by decide +kernel) (by decide +kernel)
set_option maxRecDepth 20000 in
theorem gX9_as_X9_isPerson : GoodIn wsX9_as (wsV RX9 94 RX9 yX9_isPerson wsX9_isPerson) := goodIn_app (goodIn_of _ (by decide +kernel)) ggX9_as_X9_isPerson
set_option maxRecDepth 20000 in
theorem ggX9_as_X9_in : GoodIn wsX9_as wsX9_in := goodIn_r _ [11] (by decide +kernel) (by decide +kernel)
set_option maxRecDepth 20000 in
theorem gX9_as_X9_in : GoodIn wsX9_as (va_wsS RX9 54 yX9_in wsX9_in) := goodIn_app (goodIn_of _ (by decide +kernel)) ggX9_as_X9_in
set_option maxRecDepth 20000 in
theorem ggX9_as_X9_errs : GoodIn wsX9_as wsX9_errs := goodIn_r _ [15, 16, 17, 25, 26, 27, 28, 29, 30, 31, 32, 33, 34, 35, 36, 37, 38, 39, 40, 41, 42, 43, 44, 45, 46, 47, 48, 49, 50, 51, 52] (by decide +kernel) (by decide +kernel)
set_option maxRecDepth 20000 in
theorem gX9_as_X9_errs : GoodIn wsX9_as (wsV RX9 59 RX9 yX9_errs wsX9_errs) := goodIn_app (goodIn_of _ (by decide +kernel)) ggX9_as_X9_errs
set_option maxRecDepth 20000 in
theorem ggX9_as_X9_its : GoodIn wsX9_as wsX9_its := goodIn_r _ [21, 8, 25, 26, 27, 28, 29, 30, 31, 32, 33, 34, 35, 36, 37, 38, 39, 40, 41, 42, 43, 44, 45, 46, 47, 48, 49, 50, 51, 52] (by decide +kernel) (by decide +kernel)
set_option maxRecDepth 20000 in
theorem gX9_as_X9_its : GoodIn wsX9_as (wsV RX9 80 RX9 yX9_its wsX9_its) := goodIn_app (goodIn_of _ (by decide +kernel)) ggX9_as_X9_its
set_option maxRecDepth 20000 in
theorem ggX9_as_X9_above : GoodIn wsX9_as wsX9_above := goodIn_r _ [24] (by decide +kernel) (by decide +kernel)
set_option maxRecDepth 20000 in
theorem gX9_as_X9_above : GoodIn wsX9_as (va_wsS RX9 106 yX9_above wsX9_above) := goodIn_app (goodIn_of _ (by decide +kernel)) ggX9_as_X9_above
theorem dX9_as_0 : decode cX9_as 0 = .ok (.aload_n 0, 1) := by decide +kernel
theorem dX9_as_1 : decode cX9_as 1 = .ok (.iload_n 1, 1) := by decide +kernel
theorem dX9_as_2 : decode cX9_as 2 = .ok (.invokevirtual 94, 3) := by decide +kernel
theorem dX9_as_5 : decode cX9_as 5 = .ok (.ifCond .eq 13, 3) := by decide +kernel
theorem dX9_as_8 : decode cX9_as 8 = .ok (.iload_n 2, 1) := by decide +kernel
theorem dX9_as_9 : decode cX9_as 9 = .ok (.iconst 0, 1) := by decide +kernel
theorem dX9_as_10 : decode cX9_as 10 = .ok (.bipush 6, 2) := by decide +kernel
theorem dX9_as_12 : decode cX9_as 12 = .ok (.invokestatic 54, 3) := by decide +kernel
theorem dX9_as_15 : decode cX9_as 15 = .ok (.ifCond .ne 10, 3) := by decide +kernel
theorem dX9_as_18 : decode cX9_as 18 = .ok (.aload_n 0, 1) := by decide +kernel
theorem dX9_as_19 : decode cX9_as 19 = .ok (.ldc 58, 2) := by decide +kernel
theorem dX9_as_21 : decode cX9_as 21 = .ok (.invokevirtual 59, 3) := by decide +kernel
theorem dX9_as_24 : decode cX9_as 24 = .ok (.ireturn, 1) := by decide +kernel
theorem dX9_as_25 : decode cX9_as 25 = .ok (.aload_n 0, 1) := by decide +kernel
theorem dX9_as_26 : decode cX9_as 26 = .ok (.iload_n 1, 1) := by decide +kernel
theorem dX9_as_27 : decode cX9_as 27 = .ok (.iconst 0, 1) := by decide +kernel
theorem dX9_as_28 : decode cX9_as 28 = .ok (.invokevirtual 80, 3) := by decide +kernel
theorem dX9_as_31 : decode cX9_as 31 = .ok (.istore_n 3, 1) := by decide +kernel
theorem dX9_as_32 : decode cX9_as 32 = .ok (.iload_n 3, 1) := by decide +kernel
theorem dX9_as_33 : decode cX9_as 33 = .ok (.ifCond .lt 16, 3) := by decide +kernel
theorem dX9_as_36 : decode cX9_as 36 = .ok (.iload_n 3, 1) := by decide +kernel
theorem dX9_as_37 : decode cX9_as 37 = .ok (.iload_n 2, 1) := by decide +kernel
theorem dX9_as_38 : decode cX9_as 38 = .ok (.if_icmp .eq 11, 3) := by decide +kernel
theorem dX9_as_41 : decode cX9_as 41 = .ok (.iload_n 3, 1) := by decide +kernel
theorem dX9_as_42 : decode cX9_as 42 = .ok (.invokestatic 106, 3) := by decide +kernel
theorem dX9_as_45 : decode cX9_as 45 = .ok (.istore_n 3, 1) := by decide +kernel
theorem dX9_as_46 : decode cX9_as 46 = .ok (.goto (-14), 3) := by decide +kernel
theorem dX9_as_49 : decode cX9_as 49 = .ok (.iload_n 3, 1) := by decide +kernel
theorem dX9_as_50 : decode cX9_as 50 = .ok (.ifCond .ge 12, 3) := by decide +kernel
theorem dX9_as_53 : decode cX9_as 53 = .ok (.aload_n 0, 1) := by decide +kernel
theorem dX9_as_54 : decode cX9_as 54 = .ok (.ldc 109, 2) := by decide +kernel
theorem dX9_as_56 : decode cX9_as 56 = .ok (.invokevirtual 59, 3) := by decide +kernel
theorem dX9_as_59 : decode cX9_as 59 = .ok (.goto 9, 3) := by decide +kernel
theorem dX9_as_62 : decode cX9_as 62 = .ok (.aload_n 0, 1) := by decide +kernel
theorem dX9_as_63 : decode cX9_as 63 = .ok (.iload_n 1, 1) := by decide +kernel
theorem dX9_as_64 : decode cX9_as 64 = .ok (.iconst 1, 1) := by decide +kernel
theorem dX9_as_65 : decode cX9_as 65 = .ok (.invokevirtual 80, 3) := by decide +kernel
theorem dX9_as_68 : decode cX9_as 68 = .ok (.ireturn, 1) := by decide +kernel
theorem dX9_byteAt_0 : decode cX9_byteAt 0 = .ok (.iload_n 1, 1) := by decide +kernel
theorem dX9_byteAt_1 : decode cX9_byteAt 1 = .ok (.aload_n 0, 1) := by decide +kernel
theorem dX9_byteAt_2 : decode cX9_byteAt 2 = .ok (.getfield 110, 3) := by decide +kernel
theorem dX9_byteAt_5 : decode cX9_byteAt 5 = .ok (.if_icmp .ge 24, 3) := by decide +kernel
theorem dX9_byteAt_8 : decode cX9_byteAt 8 = .ok (.aload_n 0, 1) := by decide +kernel
theorem dX9_byteAt_9 : decode cX9_byteAt 9 = .ok (.getfield 7, 3) := by decide +kernel
theorem dX9_byteAt_12 : decode cX9_byteAt 12 = .ok (.sipush 134, 3) := by decide +kernel
theorem dX9_byteAt_15 : decode cX9_byteAt 15 = .ok (.bipush 50, 2) := by decide +kernel
theorem dX9_byteAt_17 : decode cX9_byteAt 17 = .ok (.aload_n 0, 1) := by decide +kernel
theorem dX9_byteAt_18 : decode cX9_byteAt 18 = .ok (.getfield 113, 3) := by decide +kernel
theorem dX9_byteAt_21 : decode cX9_byteAt 21 = .ok (.imul, 1) := by decide +kernel
theorem dX9_byteAt_22 : decode cX9_byteAt 22 = .ok (.iadd, 1) := by decide +kernel
theorem dX9_byteAt_23 : decode cX9_byteAt 23 = .ok (.iload_n 1, 1) := by decide +kernel
theorem dX9_byteAt_24 : decode cX9_byteAt 24 = .ok (.iadd, 1) := by decide +kernel
theorem dX9_byteAt_25 : decode cX9_byteAt 25 = .ok (.iaload, 1) := by decide +kernel
theorem dX9_byteAt_26 : decode cX9_byteAt 26 = .ok (.goto 4, 3) := by decide +kernel
theorem dX9_byteAt_29 : decode cX9_byteAt 29 = .ok (.iconst (-1), 1) := by decide +kernel
theorem dX9_byteAt_30 : decode cX9_byteAt 30 = .ok (.ireturn, 1) := by decide +kernel
set_option maxRecDepth 20000 in
theorem ggX9_isDigit_X9_in : GoodIn wsX9_isDigit wsX9_in := goodIn_r _ [4] (by decide +kernel) (by decide +kernel)
set_option maxRecDepth 20000 in
theorem gX9_isDigit_X9_in : GoodIn wsX9_isDigit (va_wsS RX9 54 yX9_in wsX9_in) := goodIn_app (goodIn_of _ (by decide +kernel)) ggX9_isDigit_X9_in
theorem dX9_isDigit_0 : decode cX9_isDigit 0 = .ok (.iload_n 0, 1) := by decide +kernel
theorem dX9_isDigit_1 : decode cX9_isDigit 1 = .ok (.bipush 48, 2) := by decide +kernel
theorem dX9_isDigit_3 : decode cX9_isDigit 3 = .ok (.bipush 57, 2) := by decide +kernel
theorem dX9_isDigit_5 : decode cX9_isDigit 5 = .ok (.invokestatic 54, 3) := by decide +kernel
theorem dX9_isDigit_8 : decode cX9_isDigit 8 = .ok (.ireturn, 1) := by decide +kernel
theorem dX9_fails_0 : decode cX9_fails 0 = .ok (.aload_n 0, 1) := by decide +kernel
theorem dX9_fails_1 : decode cX9_fails 1 = .ok (.iconst 0, 1) := by decide +kernel
theorem dX9_fails_2 : decode cX9_fails 2 = .ok (.putfield 116, 3) := by decide +kernel
theorem dX9_fails_5 : decode cX9_fails 5 = .ok (.iconst 0, 1) := by decide +kernel
theorem dX9_fails_6 : decode cX9_fails 6 = .ok (.ireturn, 1) := by decide +kernel
set_option maxRecDepth 20000 in
theorem ggX9_number_X9_byteAt : GoodIn wsX9_number wsX9_byteAt := goodIn_r _ [6, 7, 8, 9, 16, 17, 18, 19, 20, 21, 22, 23, 24, 25, 26, 27, 28, 29, 30, 31, 32, 33, 34, 35, 36, 37, 38, 39, 40, 41, 42, 43] (by decide +kernel) (by decide +kernel)
set_option maxRecDepth 20000 in
theorem gX9_number_X9_byteAt : GoodIn wsX9_number (wsV RX9 123 RX9 yX9_byteAt wsX9_byteAt) := goodIn_app (goodIn_of _ (by decide +kernel)) ggX9_number_X9_byteAt
set_option maxRecDepth 20000 in
theorem ggX9_number_X9_isDigit : GoodIn wsX9_number wsX9_isDigit := goodIn_r _ [12, 13, 14, 5, 15] (by decide +kernel) (by decide +kernel)
set_option maxRecDepth 20000 in
theorem gX9_number_X9_isDigit : GoodIn wsX9_number (va_wsS RX9 126 yX9_isDigit wsX9_isDigit) := goodIn_app (goodIn_of _ (by decide +kernel)) ggX9_number_X9_isDigit
theorem dX9_number_0 : decode cX9_number 0 = .ok (.iconst 0, 1) := by decide +kernel
theorem dX9_number_1 : decode cX9_number 1 = .ok (.istore_n 1, 1) := by decide +kernel
theorem dX9_number_2 : decode cX9_number 2 = .ok (.iconst 0, 1) := by decide +kernel
theorem dX9_number_3 : decode cX9_number 3 = .ok (.istore_n 2, 1) := by decide +kernel
theorem dX9_number_4 : decode cX9_number 4 = .ok (.iload_n 2, 1) := by decide +kernel
theorem dX9_number_5 : decode cX9_number 5 = .ok (.iconst 4, 1) := by decide +kernel
theorem dX9_number_6 : decode cX9_number 6 = .ok (.if_icmp .ge 50, 3) := by decide +kernel
theorem dX9_number_9 : decode cX9_number 9 = .ok (.aload_n 0, 1) := by decide +kernel
theorem dX9_number_10 : decode cX9_number 10 = .ok (.aload_n 0, 1) := by decide +kernel
theorem dX9_number_11 : decode cX9_number 11 = .ok (.getfield 120, 3) := by decide +kernel
theorem dX9_number_14 : decode cX9_number 14 = .ok (.invokevirtual 123, 3) := by decide +kernel
theorem dX9_number_17 : decode cX9_number 17 = .ok (.invokestatic 126, 3) := by decide +kernel
theorem dX9_number_20 : decode cX9_number 20 = .ok (.ifCond .eq 36, 3) := by decide +kernel
theorem dX9_number_23 : decode cX9_number 23 = .ok (.bipush 10, 2) := by decide +kernel
theorem dX9_number_25 : decode cX9_number 25 = .ok (.iload_n 1, 1) := by decide +kernel
theorem dX9_number_26 : decode cX9_number 26 = .ok (.imul, 1) := by decide +kernel
theorem dX9_number_27 : decode cX9_number 27 = .ok (.aload_n 0, 1) := by decide +kernel
theorem dX9_number_28 : decode cX9_number 28 = .ok (.aload_n 0, 1) := by decide +kernel
theorem dX9_number_29 : decode cX9_number 29 = .ok (.getfield 120, 3) := by decide +kernel
theorem dX9_number_32 : decode cX9_number 32 = .ok (.invokevirtual 123, 3) := by decide +kernel
theorem dX9_number_35 : decode cX9_number 35 = .ok (.iadd, 1) := by decide +kernel
theorem dX9_number_36 : decode cX9_number 36 = .ok (.bipush 48, 2) := by decide +kernel
theorem dX9_number_38 : decode cX9_number 38 = .ok (.isub, 1) := by decide +kernel
theorem dX9_number_39 : decode cX9_number 39 = .ok (.istore_n 1, 1) := by decide +kernel
theorem dX9_number_40 : decode cX9_number 40 = .ok (.aload_n 0, 1) := by decide +kernel
theorem dX9_number_41 : decode cX9_number 41 = .ok (.dup, 1) := by decide +kernel
theorem dX9_number_42 : decode cX9_number 42 = .ok (.getfield 120, 3) := by decide +kernel
theorem dX9_number_45 : decode cX9_number 45 = .ok (.iconst 1, 1) := by decide +kernel
theorem dX9_number_46 : decode cX9_number 46 = .ok (.iadd, 1) := by decide +kernel
theorem dX9_number_47 : decode cX9_number 47 = .ok (.putfield 120, 3) := by decide +kernel
theorem dX9_number_50 : decode cX9_number 50 = .ok (.iinc 2 1, 3) := by decide +kernel
theorem dX9_number_53 : decode cX9_number 53 = .ok (.goto (-49), 3) := by decide +kernel
theorem dX9_number_56 : decode cX9_number 56 = .ok (.iload_n 1, 1) := by decide +kernel
theorem dX9_number_57 : decode cX9_number 57 = .ok (.ireturn, 1) := by decide +kernel
set_option maxRecDepth 20000 in
theorem ggX9_named_X9_fails : GoodIn wsX9_named wsX9_fails := goodIn_r _ [10, 11, 12, 13, 14, 15, 16, 17, 18, 19, 20, 21, 22, 23, 24, 25, 26, 27, 28, 29, 30, 31, 32, 33, 34, 35, 36, 37, 38, 39] (by decide +kernel) (by decide +kernel)
set_option maxRecDepth 20000 in
theorem gX9_named_X9_fails : GoodIn wsX9_named (wsV RX9 129 RX9 yX9_fails wsX9_fails) := goodIn_app (goodIn_of _ (by decide +kernel)) ggX9_named_X9_fails
theorem dX9_named_0 : decode cX9_named 0 = .ok (.iload_n 1, 1) := by decide +kernel
theorem dX9_named_1 : decode cX9_named 1 = .ok (.bipush 109, 2) := by decide +kernel
theorem dX9_named_3 : decode cX9_named 3 = .ok (.if_icmp .ne 7, 3) := by decide +kernel
theorem dX9_named_6 : decode cX9_named 6 = .ok (.iconst 1, 1) := by decide +kernel
theorem dX9_named_7 : decode cX9_named 7 = .ok (.goto 4, 3) := by decide +kernel
theorem dX9_named_10 : decode cX9_named 10 = .ok (.iconst 0, 1) := by decide +kernel
theorem dX9_named_11 : decode cX9_named 11 = .ok (.istore_n 2, 1) := by decide +kernel
theorem dX9_named_12 : decode cX9_named 12 = .ok (.iload_n 1, 1) := by decide +kernel
theorem dX9_named_13 : decode cX9_named 13 = .ok (.aload_n 0, 1) := by decide +kernel
theorem dX9_named_14 : decode cX9_named 14 = .ok (.getfield 113, 3) := by decide +kernel
theorem dX9_named_17 : decode cX9_named 17 = .ok (.ifCond .ne 8, 3) := by decide +kernel
theorem dX9_named_20 : decode cX9_named 20 = .ok (.bipush 102, 2) := by decide +kernel
theorem dX9_named_22 : decode cX9_named 22 = .ok (.goto 5, 3) := by decide +kernel
theorem dX9_named_25 : decode cX9_named 25 = .ok (.bipush 103, 2) := by decide +kernel
theorem dX9_named_27 : decode cX9_named 27 = .ok (.if_icmp .ne 7, 3) := by decide +kernel
theorem dX9_named_30 : decode cX9_named 30 = .ok (.iconst 1, 1) := by decide +kernel
theorem dX9_named_31 : decode cX9_named 31 = .ok (.goto 4, 3) := by decide +kernel
theorem dX9_named_34 : decode cX9_named 34 = .ok (.iconst 0, 1) := by decide +kernel
theorem dX9_named_35 : decode cX9_named 35 = .ok (.istore_n 3, 1) := by decide +kernel
theorem dX9_named_36 : decode cX9_named 36 = .ok (.iload_n 1, 1) := by decide +kernel
theorem dX9_named_37 : decode cX9_named 37 = .ok (.bipush 104, 2) := by decide +kernel
theorem dX9_named_39 : decode cX9_named 39 = .ok (.if_icmp .ne 7, 3) := by decide +kernel
theorem dX9_named_42 : decode cX9_named 42 = .ok (.iconst 1, 1) := by decide +kernel
theorem dX9_named_43 : decode cX9_named 43 = .ok (.goto 4, 3) := by decide +kernel
theorem dX9_named_46 : decode cX9_named 46 = .ok (.iconst 0, 1) := by decide +kernel
theorem dX9_named_47 : decode cX9_named 47 = .ok (.istore 4, 2) := by decide +kernel
theorem dX9_named_49 : decode cX9_named 49 = .ok (.iload_n 2, 1) := by decide +kernel
theorem dX9_named_50 : decode cX9_named 50 = .ok (.ifCond .ne 17, 3) := by decide +kernel
theorem dX9_named_53 : decode cX9_named 53 = .ok (.iload_n 3, 1) := by decide +kernel
theorem dX9_named_54 : decode cX9_named 54 = .ok (.ifCond .ne 13, 3) := by decide +kernel
theorem dX9_named_57 : decode cX9_named 57 = .ok (.iload 4, 2) := by decide +kernel
theorem dX9_named_59 : decode cX9_named 59 = .ok (.ifCond .ne 8, 3) := by decide +kernel
theorem dX9_named_62 : decode cX9_named 62 = .ok (.aload_n 0, 1) := by decide +kernel
theorem dX9_named_63 : decode cX9_named 63 = .ok (.invokevirtual 129, 3) := by decide +kernel
theorem dX9_named_66 : decode cX9_named 66 = .ok (.ireturn, 1) := by decide +kernel
theorem dX9_named_67 : decode cX9_named 67 = .ok (.aload_n 0, 1) := by decide +kernel
theorem dX9_named_68 : decode cX9_named 68 = .ok (.dup, 1) := by decide +kernel
theorem dX9_named_69 : decode cX9_named 69 = .ok (.getfield 120, 3) := by decide +kernel
theorem dX9_named_72 : decode cX9_named 72 = .ok (.iconst 1, 1) := by decide +kernel
theorem dX9_named_73 : decode cX9_named 73 = .ok (.iadd, 1) := by decide +kernel
theorem dX9_named_74 : decode cX9_named 74 = .ok (.putfield 120, 3) := by decide +kernel
theorem dX9_named_77 : decode cX9_named 77 = .ok (.iload_n 2, 1) := by decide +kernel
theorem dX9_named_78 : decode cX9_named 78 = .ok (.ifCond .eq 10, 3) := by decide +kernel
theorem dX9_named_81 : decode cX9_named 81 = .ok (.aload_n 0, 1) := by decide +kernel
theorem dX9_named_82 : decode cX9_named 82 = .ok (.getfield 133, 3) := by decide +kernel
theorem dX9_named_85 : decode cX9_named 85 = .ok (.goto 18, 3) := by decide +kernel
theorem dX9_named_88 : decode cX9_named 88 = .ok (.iload_n 3, 1) := by decide +kernel
theorem dX9_named_89 : decode cX9_named 89 = .ok (.ifCond .eq 10, 3) := by decide +kernel
theorem dX9_named_92 : decode cX9_named 92 = .ok (.aload_n 0, 1) := by decide +kernel
theorem dX9_named_93 : decode cX9_named 93 = .ok (.getfield 136, 3) := by decide +kernel
theorem dX9_named_96 : decode cX9_named 96 = .ok (.goto 7, 3) := by decide +kernel
theorem dX9_named_99 : decode cX9_named 99 = .ok (.aload_n 0, 1) := by decide +kernel
theorem dX9_named_100 : decode cX9_named 100 = .ok (.getfield 139, 3) := by decide +kernel
theorem dX9_named_103 : decode cX9_named 103 = .ok (.ireturn, 1) := by decide +kernel
set_option maxRecDepth 20000 in
theorem ggX9_factor_X9_byteAt : GoodIn wsX9_factor wsX9_byteAt := goodIn_r _ [8, 9, 10, 11, 56, 57, 58, 59, 60, 61, 62, 63, 64, 65, 66, 67, 68, 69, 70, 71, 72, 73, 74, 75, 76, 77, 78, 79, 80, 81, 82, 83] (by decide +kernel) (by decide +kernel)
set_option maxRecDepth 20000 in
theorem gX9_factor_X9_byteAt : GoodIn wsX9_factor (wsV RX9 123 RX9 yX9_byteAt wsX9_byteAt) := goodIn_app (goodIn_of _ (by decide +kernel)) ggX9_factor_X9_byteAt
set_option maxRecDepth 20000 in
theorem ggX9_factor_X9_isDigit : GoodIn wsX9_factor wsX9_isDigit := goodIn_r _ [14, 15, 16, 7, 17] (by decide +kernel) (by decide +kernel)
set_option maxRecDepth 20000 in
theorem gX9_factor_X9_isDigit : GoodIn wsX9_factor (va_wsS RX9 126 yX9_isDigit wsX9_isDigit) := goodIn_app (goodIn_of _ (by decide +kernel)) ggX9_factor_X9_isDigit
set_option maxRecDepth 20000 in
theorem ggX9_factor_X9_number : GoodIn wsX9_factor wsX9_number := goodIn_r _ [21, 1, 4, 5, 6, 7, 8, 9, 10, 11, 12, 13, 14, 15, 16, 17, 56, 57, 58, 59, 60, 61, 62, 63, 64, 65, 66, 67, 68, 69, 70, 71, 72, 73, 74, 75, 76, 77, 78, 79, 80, 81, 82, 83] (by decide +kernel) (by decide +kernel)
set_option maxRecDepth 20000 in
theorem gX9_factor_X9_number : GoodIn wsX9_factor (wsV RX9 142 RX9 yX9_number wsX9_number) := goodIn_app (goodIn_of _ (by decide +kernel)) ggX9_factor_X9_number
set_option maxRecDepth 20000 in
theorem ggX9_factor_X9_named : GoodIn wsX9_factor wsX9_named := goodIn_r _ [25, 11, 1, 26, 27, 28, 29, 30, 31, 7, 32, 3, 56, 57, 58, 59, 60, 61, 62, 63, 64, 65, 66, 67, 68, 69, 70, 71, 72, 73, 74, 75, 76, 77, 78, 79, 80, 81, 82, 83] (by decide +kernel) (by decide +kernel)
set_option maxRecDepth 20000 in
theorem gX9_factor_X9_named : GoodIn wsX9_factor (wsV RX9 145 RX9 yX9_named wsX9_named) := goodIn_app (goodIn_of _ (by decide +kernel)) ggX9_factor_X9_named
set_option maxRecDepth 20000 in
theorem ggX9_factor_X9_fails : GoodIn wsX9_factor wsX9_fails := goodIn_r _ [32, 3, 56, 57, 58, 59, 60, 61, 62, 63, 64, 65, 66, 67, 68, 69, 70, 71, 72, 73, 74, 75, 76, 77, 78, 79, 80, 81, 82, 83] (by decide +kernel) (by decide +kernel)
set_option maxRecDepth 20000 in
theorem gX9_factor_X9_fails : GoodIn wsX9_factor (wsV RX9 129 RX9 yX9_fails wsX9_fails) := goodIn_app (goodIn_of _ (by decide +kernel)) ggX9_factor_X9_fails
set_option maxRecDepth 20000 in
theorem ggX9_factor_X9_factor : GoodIn wsX9_factor wsX9_factor := goodIn_r _ [0, 1, 2, 3, 4, 5, 6, 7, 8, 9, 10, 11, 12, 13, 14, 15, 16, 17, 18, 19, 20, 21, 22, 23, 24, 25, 26, 27, 28, 29, 30, 31, 32, 33, 34, 35, 36, 37, 38, 39, 40, 41, 42, 43, 44, 45, 46, 47, 48, 49, 50, 51, 52, 53, 54, 55, 56, 57, 58, 59, 60, 61, 62, 63, 64, 65, 66, 67, 68, 69, 70, 71, 72, 73, 74, 75, 76, 77, 78, 79, 80, 81, 82, 83] (by decide +kernel) (by decide +kernel)
set_option maxRecDepth 20000 in
theorem gX9_factor_X9_factor : GoodIn wsX9_factor (wsV RX9 151 RX9 yX9_factor wsX9_factor) := goodIn_app (goodIn_of _ (by decide +kernel)) ggX9_factor_X9_factor
set_option maxRecDepth 20000 in
theorem ggX9_factor_X9_whole : GoodIn wsX9_factor wsX9_whole := goodIn_r _ [52, 3, 1, 53, 54, 55, 7, 4, 5, 6, 8, 9, 10, 11, 39, 40, 41, 42, 43, 44, 45, 46, 0, 2, 12, 13, 14, 15, 16, 17, 18, 19, 20, 21, 22, 23, 24, 25, 26, 27, 28, 29, 30, 31, 32, 33, 34, 35, 36, 37, 38, 47, 48, 49, 50, 51, 56, 57, 58, 59, 60, 61, 62, 63, 64, 65, 66, 67, 68, 69, 70, 71, 72, 73, 74, 75, 76, 77, 78, 79, 80, 81, 82, 83] (by decide +kernel) (by decide +kernel)
set_option maxRecDepth 20000 in
theorem gX9_factor_X9_whole : GoodIn wsX9_factor (wsV RX9 154 RX9 yX9_whole wsX9_whole) := goodIn_app (goodIn_of _ (by decide +kernel)) ggX9_factor_X9_whole
theorem dX9_factor_0 : decode cX9_factor 0 = .ok (.aload_n 0, 1) := by decide +kernel
theorem dX9_factor_1 : decode cX9_factor 1 = .ok (.aload_n 0, 1) := by decide +kernel
theorem dX9_factor_2 : decode cX9_factor 2 = .ok (.getfield 120, 3) := by decide +kernel
theorem dX9_factor_5 : decode cX9_factor 5 = .ok (.invokevirtual 123, 3) := by decide +kernel
theorem dX9_factor_8 : decode cX9_factor 8 = .ok (.istore_n 1, 1) := by decide +kernel
theorem dX9_factor_9 : decode cX9_factor 9 = .ok (.iload_n 1, 1) := by decide +kernel
theorem dX9_factor_10 : decode cX9_factor 10 = .ok (.invokestatic 126, 3) := by decide +kernel
theorem dX9_factor_13 : decode cX9_factor 13 = .ok (.ifCond .eq 8, 3) := by decide +kernel
theorem dX9_factor_16 : decode cX9_factor 16 = .ok (.aload_n 0, 1) := by decide +kernel
theorem dX9_factor_17 : decode cX9_factor 17 = .ok (.invokevirtual 142, 3) := by decide +kernel
theorem dX9_factor_20 : decode cX9_factor 20 = .ok (.ireturn, 1) := by decide +kernel
theorem dX9_factor_21 : decode cX9_factor 21 = .ok (.iload_n 1, 1) := by decide +kernel
theorem dX9_factor_22 : decode cX9_factor 22 = .ok (.bipush 33, 2) := by decide +kernel
theorem dX9_factor_24 : decode cX9_factor 24 = .ok (.if_icmp .eq 15, 3) := by decide +kernel
theorem dX9_factor_27 : decode cX9_factor 27 = .ok (.iload_n 1, 1) := by decide +kernel
theorem dX9_factor_28 : decode cX9_factor 28 = .ok (.bipush 40, 2) := by decide +kernel
theorem dX9_factor_30 : decode cX9_factor 30 = .ok (.if_icmp .eq 9, 3) := by decide +kernel
theorem dX9_factor_33 : decode cX9_factor 33 = .ok (.aload_n 0, 1) := by decide +kernel
theorem dX9_factor_34 : decode cX9_factor 34 = .ok (.iload_n 1, 1) := by decide +kernel
theorem dX9_factor_35 : decode cX9_factor 35 = .ok (.invokevirtual 145, 3) := by decide +kernel
theorem dX9_factor_38 : decode cX9_factor 38 = .ok (.ireturn, 1) := by decide +kernel
theorem dX9_factor_39 : decode cX9_factor 39 = .ok (.aload_n 0, 1) := by decide +kernel
theorem dX9_factor_40 : decode cX9_factor 40 = .ok (.getfield 148, 3) := by decide +kernel
theorem dX9_factor_43 : decode cX9_factor 43 = .ok (.iconst 5, 1) := by decide +kernel
theorem dX9_factor_44 : decode cX9_factor 44 = .ok (.if_icmp .ne 8, 3) := by decide +kernel
theorem dX9_factor_47 : decode cX9_factor 47 = .ok (.aload_n 0, 1) := by decide +kernel
theorem dX9_factor_48 : decode cX9_factor 48 = .ok (.invokevirtual 129, 3) := by decide +kernel
theorem dX9_factor_51 : decode cX9_factor 51 = .ok (.ireturn, 1) := by decide +kernel
theorem dX9_factor_52 : decode cX9_factor 52 = .ok (.aload_n 0, 1) := by decide +kernel
theorem dX9_factor_53 : decode cX9_factor 53 = .ok (.dup, 1) := by decide +kernel
theorem dX9_factor_54 : decode cX9_factor 54 = .ok (.getfield 148, 3) := by decide +kernel
theorem dX9_factor_57 : decode cX9_factor 57 = .ok (.iconst 1, 1) := by decide +kernel
theorem dX9_factor_58 : decode cX9_factor 58 = .ok (.iadd, 1) := by decide +kernel
theorem dX9_factor_59 : decode cX9_factor 59 = .ok (.putfield 148, 3) := by decide +kernel
theorem dX9_factor_62 : decode cX9_factor 62 = .ok (.aload_n 0, 1) := by decide +kernel
theorem dX9_factor_63 : decode cX9_factor 63 = .ok (.dup, 1) := by decide +kernel
theorem dX9_factor_64 : decode cX9_factor 64 = .ok (.getfield 120, 3) := by decide +kernel
theorem dX9_factor_67 : decode cX9_factor 67 = .ok (.iconst 1, 1) := by decide +kernel
theorem dX9_factor_68 : decode cX9_factor 68 = .ok (.iadd, 1) := by decide +kernel
theorem dX9_factor_69 : decode cX9_factor 69 = .ok (.putfield 120, 3) := by decide +kernel
theorem dX9_factor_72 : decode cX9_factor 72 = .ok (.iload_n 1, 1) := by decide +kernel
theorem dX9_factor_73 : decode cX9_factor 73 = .ok (.bipush 33, 2) := by decide +kernel
theorem dX9_factor_75 : decode cX9_factor 75 = .ok (.if_icmp .ne 10, 3) := by decide +kernel
theorem dX9_factor_78 : decode cX9_factor 78 = .ok (.aload_n 0, 1) := by decide +kernel
theorem dX9_factor_79 : decode cX9_factor 79 = .ok (.invokevirtual 151, 3) := by decide +kernel
theorem dX9_factor_82 : decode cX9_factor 82 = .ok (.goto 7, 3) := by decide +kernel
theorem dX9_factor_85 : decode cX9_factor 85 = .ok (.aload_n 0, 1) := by decide +kernel
theorem dX9_factor_86 : decode cX9_factor 86 = .ok (.invokevirtual 154, 3) := by decide +kernel
theorem dX9_factor_89 : decode cX9_factor 89 = .ok (.istore_n 2, 1) := by decide +kernel
theorem dX9_factor_90 : decode cX9_factor 90 = .ok (.aload_n 0, 1) := by decide +kernel
theorem dX9_factor_91 : decode cX9_factor 91 = .ok (.dup, 1) := by decide +kernel
theorem dX9_factor_92 : decode cX9_factor 92 = .ok (.getfield 148, 3) := by decide +kernel
theorem dX9_factor_95 : decode cX9_factor 95 = .ok (.iconst 1, 1) := by decide +kernel
theorem dX9_factor_96 : decode cX9_factor 96 = .ok (.isub, 1) := by decide +kernel
theorem dX9_factor_97 : decode cX9_factor 97 = .ok (.putfield 148, 3) := by decide +kernel
theorem dX9_factor_100 : decode cX9_factor 100 = .ok (.iload_n 1, 1) := by decide +kernel
theorem dX9_factor_101 : decode cX9_factor 101 = .ok (.bipush 33, 2) := by decide +kernel
theorem dX9_factor_103 : decode cX9_factor 103 = .ok (.if_icmp .ne 13, 3) := by decide +kernel
theorem dX9_factor_106 : decode cX9_factor 106 = .ok (.iload_n 2, 1) := by decide +kernel
theorem dX9_factor_107 : decode cX9_factor 107 = .ok (.ifCond .ne 7, 3) := by decide +kernel
theorem dX9_factor_110 : decode cX9_factor 110 = .ok (.iconst 1, 1) := by decide +kernel
theorem dX9_factor_111 : decode cX9_factor 111 = .ok (.goto 4, 3) := by decide +kernel
theorem dX9_factor_114 : decode cX9_factor 114 = .ok (.iconst 0, 1) := by decide +kernel
theorem dX9_factor_115 : decode cX9_factor 115 = .ok (.ireturn, 1) := by decide +kernel
theorem dX9_factor_116 : decode cX9_factor 116 = .ok (.aload_n 0, 1) := by decide +kernel
theorem dX9_factor_117 : decode cX9_factor 117 = .ok (.getfield 116, 3) := by decide +kernel
theorem dX9_factor_120 : decode cX9_factor 120 = .ok (.ifCond .eq 28, 3) := by decide +kernel
theorem dX9_factor_123 : decode cX9_factor 123 = .ok (.aload_n 0, 1) := by decide +kernel
theorem dX9_factor_124 : decode cX9_factor 124 = .ok (.aload_n 0, 1) := by decide +kernel
theorem dX9_factor_125 : decode cX9_factor 125 = .ok (.getfield 120, 3) := by decide +kernel
theorem dX9_factor_128 : decode cX9_factor 128 = .ok (.invokevirtual 123, 3) := by decide +kernel
theorem dX9_factor_131 : decode cX9_factor 131 = .ok (.bipush 41, 2) := by decide +kernel
theorem dX9_factor_133 : decode cX9_factor 133 = .ok (.if_icmp .ne 15, 3) := by decide +kernel
theorem dX9_factor_136 : decode cX9_factor 136 = .ok (.aload_n 0, 1) := by decide +kernel
theorem dX9_factor_137 : decode cX9_factor 137 = .ok (.dup, 1) := by decide +kernel
theorem dX9_factor_138 : decode cX9_factor 138 = .ok (.getfield 120, 3) := by decide +kernel
theorem dX9_factor_141 : decode cX9_factor 141 = .ok (.iconst 1, 1) := by decide +kernel
theorem dX9_factor_142 : decode cX9_factor 142 = .ok (.iadd, 1) := by decide +kernel
theorem dX9_factor_143 : decode cX9_factor 143 = .ok (.putfield 120, 3) := by decide +kernel
theorem dX9_factor_146 : decode cX9_factor 146 = .ok (.iload_n 2, 1) := by decide +kernel
theorem dX9_factor_147 : decode cX9_factor 147 = .ok (.ireturn, 1) := by decide +kernel
theorem dX9_factor_148 : decode cX9_factor 148 = .ok (.aload_n 0, 1) := by decide +kernel
theorem dX9_factor_149 : decode cX9_factor 149 = .ok (.invokevirtual 129, 3) := by decide +kernel
theorem dX9_factor_152 : decode cX9_factor 152 = .ok (.ireturn, 1) := by decide +kernel
set_option maxRecDepth 20000 in
theorem ggX9_product_X9_factor : GoodIn wsX9_product wsX9_factor := goodIn_r _ [22, 2, 23, 1, 7, 8, 9, 6, 10, 11, 12, 13, 24, 25, 26, 27, 28, 29, 30, 31, 32, 33, 34, 35, 36, 37, 38, 39, 40, 41, 42, 43, 44, 3, 4, 5, 45, 46, 47, 14, 15, 16, 17, 18, 19, 20, 21, 0, 48, 49, 50, 51, 52, 53, 54, 55, 56, 57, 58, 59, 60, 61, 62, 63, 64, 65, 66, 67, 68, 69, 70, 71, 72, 73, 74, 75, 76, 77, 78, 79, 80, 81, 82, 83] (by decide +kernel) (by decide +kernel)
set_option maxRecDepth 20000 in
theorem gX9_product_X9_factor : GoodIn wsX9_product (wsV RX9 151 RX9 yX9_factor wsX9_factor) := goodIn_app (goodIn_of _ (by decide +kernel)) ggX9_product_X9_factor
set_option maxRecDepth 20000 in
theorem ggX9_product_X9_byteAt : GoodIn wsX9_product wsX9_byteAt := goodIn_r _ [10, 11, 12, 13, 56, 57, 58, 59, 60, 61, 62, 63, 64, 65, 66, 67, 68, 69, 70, 71, 72, 73, 74, 75, 76, 77, 78, 79, 80, 81, 82, 83] (by decide +kernel) (by decide +kernel)
set_option maxRecDepth 20000 in
theorem gX9_product_X9_byteAt : GoodIn wsX9_product (wsV RX9 123 RX9 yX9_byteAt wsX9_byteAt) := goodIn_app (goodIn_of _ (by decide +kernel)) ggX9_product_X9_byteAt
theorem dX9_product_0 : decode cX9_product 0 = .ok (.aload_n 0, 1) := by decide +kernel
theorem dX9_product_1 : decode cX9_product 1 = .ok (.invokevirtual 151, 3) := by decide +kernel
theorem dX9_product_4 : decode cX9_product 4 = .ok (.istore_n 1, 1) := by decide +kernel
theorem dX9_product_5 : decode cX9_product 5 = .ok (.aload_n 0, 1) := by decide +kernel
theorem dX9_product_6 : decode cX9_product 6 = .ok (.getfield 116, 3) := by decide +kernel
theorem dX9_product_9 : decode cX9_product 9 = .ok (.ifCond .eq 105, 3) := by decide +kernel
theorem dX9_product_12 : decode cX9_product 12 = .ok (.aload_n 0, 1) := by decide +kernel
theorem dX9_product_13 : decode cX9_product 13 = .ok (.aload_n 0, 1) := by decide +kernel
theorem dX9_product_14 : decode cX9_product 14 = .ok (.getfield 120, 3) := by decide +kernel
theorem dX9_product_17 : decode cX9_product 17 = .ok (.invokevirtual 123, 3) := by decide +kernel
theorem dX9_product_20 : decode cX9_product 20 = .ok (.bipush 42, 2) := by decide +kernel
theorem dX9_product_22 : decode cX9_product 22 = .ok (.if_icmp .eq 29, 3) := by decide +kernel
theorem dX9_product_25 : decode cX9_product 25 = .ok (.aload_n 0, 1) := by decide +kernel
theorem dX9_product_26 : decode cX9_product 26 = .ok (.aload_n 0, 1) := by decide +kernel
theorem dX9_product_27 : decode cX9_product 27 = .ok (.getfield 120, 3) := by decide +kernel
theorem dX9_product_30 : decode cX9_product 30 = .ok (.invokevirtual 123, 3) := by decide +kernel
theorem dX9_product_33 : decode cX9_product 33 = .ok (.bipush 47, 2) := by decide +kernel
theorem dX9_product_35 : decode cX9_product 35 = .ok (.if_icmp .eq 16, 3) := by decide +kernel
theorem dX9_product_38 : decode cX9_product 38 = .ok (.aload_n 0, 1) := by decide +kernel
theorem dX9_product_39 : decode cX9_product 39 = .ok (.aload_n 0, 1) := by decide +kernel
theorem dX9_product_40 : decode cX9_product 40 = .ok (.getfield 120, 3) := by decide +kernel
theorem dX9_product_43 : decode cX9_product 43 = .ok (.invokevirtual 123, 3) := by decide +kernel
theorem dX9_product_46 : decode cX9_product 46 = .ok (.bipush 37, 2) := by decide +kernel
theorem dX9_product_48 : decode cX9_product 48 = .ok (.if_icmp .ne 66, 3) := by decide +kernel
theorem dX9_product_51 : decode cX9_product 51 = .ok (.aload_n 0, 1) := by decide +kernel
theorem dX9_product_52 : decode cX9_product 52 = .ok (.aload_n 0, 1) := by decide +kernel
theorem dX9_product_53 : decode cX9_product 53 = .ok (.getfield 120, 3) := by decide +kernel
theorem dX9_product_56 : decode cX9_product 56 = .ok (.invokevirtual 123, 3) := by decide +kernel
theorem dX9_product_59 : decode cX9_product 59 = .ok (.istore_n 2, 1) := by decide +kernel
theorem dX9_product_60 : decode cX9_product 60 = .ok (.aload_n 0, 1) := by decide +kernel
theorem dX9_product_61 : decode cX9_product 61 = .ok (.dup, 1) := by decide +kernel
theorem dX9_product_62 : decode cX9_product 62 = .ok (.getfield 120, 3) := by decide +kernel
theorem dX9_product_65 : decode cX9_product 65 = .ok (.iconst 1, 1) := by decide +kernel
theorem dX9_product_66 : decode cX9_product 66 = .ok (.iadd, 1) := by decide +kernel
theorem dX9_product_67 : decode cX9_product 67 = .ok (.putfield 120, 3) := by decide +kernel
theorem dX9_product_70 : decode cX9_product 70 = .ok (.aload_n 0, 1) := by decide +kernel
theorem dX9_product_71 : decode cX9_product 71 = .ok (.invokevirtual 151, 3) := by decide +kernel
theorem dX9_product_74 : decode cX9_product 74 = .ok (.istore_n 3, 1) := by decide +kernel
theorem dX9_product_75 : decode cX9_product 75 = .ok (.iload_n 2, 1) := by decide +kernel
theorem dX9_product_76 : decode cX9_product 76 = .ok (.bipush 42, 2) := by decide +kernel
theorem dX9_product_78 : decode cX9_product 78 = .ok (.if_icmp .ne 9, 3) := by decide +kernel
theorem dX9_product_81 : decode cX9_product 81 = .ok (.iload_n 1, 1) := by decide +kernel
theorem dX9_product_82 : decode cX9_product 82 = .ok (.iload_n 3, 1) := by decide +kernel
theorem dX9_product_83 : decode cX9_product 83 = .ok (.imul, 1) := by decide +kernel
theorem dX9_product_84 : decode cX9_product 84 = .ok (.goto 26, 3) := by decide +kernel
theorem dX9_product_87 : decode cX9_product 87 = .ok (.iload_n 3, 1) := by decide +kernel
theorem dX9_product_88 : decode cX9_product 88 = .ok (.ifCond .ne 7, 3) := by decide +kernel
theorem dX9_product_91 : decode cX9_product 91 = .ok (.iconst 0, 1) := by decide +kernel
theorem dX9_product_92 : decode cX9_product 92 = .ok (.goto 18, 3) := by decide +kernel
theorem dX9_product_95 : decode cX9_product 95 = .ok (.iload_n 2, 1) := by decide +kernel
theorem dX9_product_96 : decode cX9_product 96 = .ok (.bipush 47, 2) := by decide +kernel
theorem dX9_product_98 : decode cX9_product 98 = .ok (.if_icmp .ne 9, 3) := by decide +kernel
theorem dX9_product_101 : decode cX9_product 101 = .ok (.iload_n 1, 1) := by decide +kernel
theorem dX9_product_102 : decode cX9_product 102 = .ok (.iload_n 3, 1) := by decide +kernel
theorem dX9_product_103 : decode cX9_product 103 = .ok (.idiv, 1) := by decide +kernel
theorem dX9_product_104 : decode cX9_product 104 = .ok (.goto 6, 3) := by decide +kernel
theorem dX9_product_107 : decode cX9_product 107 = .ok (.iload_n 1, 1) := by decide +kernel
theorem dX9_product_108 : decode cX9_product 108 = .ok (.iload_n 3, 1) := by decide +kernel
theorem dX9_product_109 : decode cX9_product 109 = .ok (.irem, 1) := by decide +kernel
theorem dX9_product_110 : decode cX9_product 110 = .ok (.istore_n 1, 1) := by decide +kernel
theorem dX9_product_111 : decode cX9_product 111 = .ok (.goto (-106), 3) := by decide +kernel
theorem dX9_product_114 : decode cX9_product 114 = .ok (.iload_n 1, 1) := by decide +kernel
theorem dX9_product_115 : decode cX9_product 115 = .ok (.ireturn, 1) := by decide +kernel
set_option maxRecDepth 20000 in
theorem ggX9_sum_X9_product : GoodIn wsX9_sum wsX9_product := goodIn_r _ [51, 1, 2, 45, 46, 47, 6, 7, 8, 9, 10, 11, 12, 13, 14, 15, 16, 17, 18, 19, 20, 21, 22, 23, 24, 25, 26, 27, 28, 29, 30, 31, 32, 33, 34, 35, 36, 37, 38, 39, 40, 41, 42, 43, 44, 48, 49, 50, 0, 3, 4, 5, 52, 53, 54, 55, 56, 57, 58, 59, 60, 61, 62, 63, 64, 65, 66, 67, 68, 69, 70, 71, 72, 73, 74, 75, 76, 77, 78, 79, 80, 81, 82, 83] (by decide +kernel) (by decide +kernel)
set_option maxRecDepth 20000 in
theorem gX9_sum_X9_product : GoodIn wsX9_sum (wsV RX9 157 RX9 yX9_product wsX9_product) := goodIn_app (goodIn_of _ (by decide +kernel)) ggX9_sum_X9_product
set_option maxRecDepth 20000 in
theorem ggX9_sum_X9_byteAt : GoodIn wsX9_sum wsX9_byteAt := goodIn_r _ [10, 11, 12, 13, 56, 57, 58, 59, 60, 61, 62, 63, 64, 65, 66, 67, 68, 69, 70, 71, 72, 73, 74, 75, 76, 77, 78, 79, 80, 81, 82, 83] (by decide +kernel) (by decide +kernel)
set_option maxRecDepth 20000 in
theorem gX9_sum_X9_byteAt : GoodIn wsX9_sum (wsV RX9 123 RX9 yX9_byteAt wsX9_byteAt) := goodIn_app (goodIn_of _ (by decide +kernel)) ggX9_sum_X9_byteAt
theorem dX9_sum_0 : decode cX9_sum 0 = .ok (.aload_n 0, 1) := by decide +kernel
theorem dX9_sum_1 : decode cX9_sum 1 = .ok (.invokevirtual 157, 3) := by decide +kernel
theorem dX9_sum_4 : decode cX9_sum 4 = .ok (.istore_n 1, 1) := by decide +kernel
theorem dX9_sum_5 : decode cX9_sum 5 = .ok (.aload_n 0, 1) := by decide +kernel
theorem dX9_sum_6 : decode cX9_sum 6 = .ok (.getfield 116, 3) := by decide +kernel
theorem dX9_sum_9 : decode cX9_sum 9 = .ok (.ifCond .eq 72, 3) := by decide +kernel
theorem dX9_sum_12 : decode cX9_sum 12 = .ok (.aload_n 0, 1) := by decide +kernel
theorem dX9_sum_13 : decode cX9_sum 13 = .ok (.aload_n 0, 1) := by decide +kernel
theorem dX9_sum_14 : decode cX9_sum 14 = .ok (.getfield 120, 3) := by decide +kernel
theorem dX9_sum_17 : decode cX9_sum 17 = .ok (.invokevirtual 123, 3) := by decide +kernel
theorem dX9_sum_20 : decode cX9_sum 20 = .ok (.bipush 43, 2) := by decide +kernel
theorem dX9_sum_22 : decode cX9_sum 22 = .ok (.if_icmp .eq 16, 3) := by decide +kernel
theorem dX9_sum_25 : decode cX9_sum 25 = .ok (.aload_n 0, 1) := by decide +kernel
theorem dX9_sum_26 : decode cX9_sum 26 = .ok (.aload_n 0, 1) := by decide +kernel
theorem dX9_sum_27 : decode cX9_sum 27 = .ok (.getfield 120, 3) := by decide +kernel
theorem dX9_sum_30 : decode cX9_sum 30 = .ok (.invokevirtual 123, 3) := by decide +kernel
theorem dX9_sum_33 : decode cX9_sum 33 = .ok (.bipush 45, 2) := by decide +kernel
theorem dX9_sum_35 : decode cX9_sum 35 = .ok (.if_icmp .ne 46, 3) := by decide +kernel
theorem dX9_sum_38 : decode cX9_sum 38 = .ok (.aload_n 0, 1) := by decide +kernel
theorem dX9_sum_39 : decode cX9_sum 39 = .ok (.aload_n 0, 1) := by decide +kernel
theorem dX9_sum_40 : decode cX9_sum 40 = .ok (.getfield 120, 3) := by decide +kernel
theorem dX9_sum_43 : decode cX9_sum 43 = .ok (.invokevirtual 123, 3) := by decide +kernel
theorem dX9_sum_46 : decode cX9_sum 46 = .ok (.istore_n 2, 1) := by decide +kernel
theorem dX9_sum_47 : decode cX9_sum 47 = .ok (.aload_n 0, 1) := by decide +kernel
theorem dX9_sum_48 : decode cX9_sum 48 = .ok (.dup, 1) := by decide +kernel
theorem dX9_sum_49 : decode cX9_sum 49 = .ok (.getfield 120, 3) := by decide +kernel
theorem dX9_sum_52 : decode cX9_sum 52 = .ok (.iconst 1, 1) := by decide +kernel
theorem dX9_sum_53 : decode cX9_sum 53 = .ok (.iadd, 1) := by decide +kernel
theorem dX9_sum_54 : decode cX9_sum 54 = .ok (.putfield 120, 3) := by decide +kernel
theorem dX9_sum_57 : decode cX9_sum 57 = .ok (.aload_n 0, 1) := by decide +kernel
theorem dX9_sum_58 : decode cX9_sum 58 = .ok (.invokevirtual 157, 3) := by decide +kernel
theorem dX9_sum_61 : decode cX9_sum 61 = .ok (.istore_n 3, 1) := by decide +kernel
theorem dX9_sum_62 : decode cX9_sum 62 = .ok (.iload_n 2, 1) := by decide +kernel
theorem dX9_sum_63 : decode cX9_sum 63 = .ok (.bipush 43, 2) := by decide +kernel
theorem dX9_sum_65 : decode cX9_sum 65 = .ok (.if_icmp .ne 9, 3) := by decide +kernel
theorem dX9_sum_68 : decode cX9_sum 68 = .ok (.iload_n 1, 1) := by decide +kernel
theorem dX9_sum_69 : decode cX9_sum 69 = .ok (.iload_n 3, 1) := by decide +kernel
theorem dX9_sum_70 : decode cX9_sum 70 = .ok (.iadd, 1) := by decide +kernel
theorem dX9_sum_71 : decode cX9_sum 71 = .ok (.goto 6, 3) := by decide +kernel
theorem dX9_sum_74 : decode cX9_sum 74 = .ok (.iload_n 1, 1) := by decide +kernel
theorem dX9_sum_75 : decode cX9_sum 75 = .ok (.iload_n 3, 1) := by decide +kernel
theorem dX9_sum_76 : decode cX9_sum 76 = .ok (.isub, 1) := by decide +kernel
theorem dX9_sum_77 : decode cX9_sum 77 = .ok (.istore_n 1, 1) := by decide +kernel
theorem dX9_sum_78 : decode cX9_sum 78 = .ok (.goto (-73), 3) := by decide +kernel
theorem dX9_sum_81 : decode cX9_sum 81 = .ok (.iload_n 1, 1) := by decide +kernel
theorem dX9_sum_82 : decode cX9_sum 82 = .ok (.ireturn, 1) := by decide +kernel
set_option maxRecDepth 20000 in
theorem ggX9_compared_X9_sum : GoodIn wsX9_compared wsX9_sum := goodIn_r _ [48, 1, 2, 49, 50, 51, 6, 7, 8, 9, 10, 11, 12, 13, 14, 15, 16, 17, 0, 3, 4, 5, 18, 19, 20, 21, 22, 23, 24, 25, 26, 27, 28, 29, 30, 31, 32, 33, 34, 35, 36, 37, 38, 39, 40, 41, 42, 43, 44, 45, 46, 47, 52, 53, 54, 55, 56, 57, 58, 59, 60, 61, 62, 63, 64, 65, 66, 67, 68, 69, 70, 71, 72, 73, 74, 75, 76, 77, 78, 79, 80, 81, 82, 83] (by decide +kernel) (by decide +kernel)
set_option maxRecDepth 20000 in
theorem gX9_compared_X9_sum : GoodIn wsX9_compared (wsV RX9 160 RX9 yX9_sum wsX9_sum) := goodIn_app (goodIn_of _ (by decide +kernel)) ggX9_compared_X9_sum
set_option maxRecDepth 20000 in
theorem ggX9_compared_X9_byteAt : GoodIn wsX9_compared wsX9_byteAt := goodIn_r _ [10, 11, 12, 13, 56, 57, 58, 59, 60, 61, 62, 63, 64, 65, 66, 67, 68, 69, 70, 71, 72, 73, 74, 75, 76, 77, 78, 79, 80, 81, 82, 83] (by decide +kernel) (by decide +kernel)
set_option maxRecDepth 20000 in
theorem gX9_compared_X9_byteAt : GoodIn wsX9_compared (wsV RX9 123 RX9 yX9_byteAt wsX9_byteAt) := goodIn_app (goodIn_of _ (by decide +kernel)) ggX9_compared_X9_byteAt
theorem dX9_compared_0 : decode cX9_compared 0 = .ok (.aload_n 0, 1) := by decide +kernel
theorem dX9_compared_1 : decode cX9_compared 1 = .ok (.invokevirtual 160, 3) := by decide +kernel
theorem dX9_compared_4 : decode cX9_compared 4 = .ok (.istore_n 1, 1) := by decide +kernel
theorem dX9_compared_5 : decode cX9_compared 5 = .ok (.aload_n 0, 1) := by decide +kernel
theorem dX9_compared_6 : decode cX9_compared 6 = .ok (.getfield 116, 3) := by decide +kernel
theorem dX9_compared_9 : decode cX9_compared 9 = .ok (.ifCond .eq 14, 3) := by decide +kernel
theorem dX9_compared_12 : decode cX9_compared 12 = .ok (.aload_n 0, 1) := by decide +kernel
theorem dX9_compared_13 : decode cX9_compared 13 = .ok (.aload_n 0, 1) := by decide +kernel
theorem dX9_compared_14 : decode cX9_compared 14 = .ok (.getfield 120, 3) := by decide +kernel
theorem dX9_compared_17 : decode cX9_compared 17 = .ok (.invokevirtual 123, 3) := by decide +kernel
theorem dX9_compared_20 : decode cX9_compared 20 = .ok (.goto 4, 3) := by decide +kernel
theorem dX9_compared_23 : decode cX9_compared 23 = .ok (.iconst (-1), 1) := by decide +kernel
theorem dX9_compared_24 : decode cX9_compared 24 = .ok (.istore_n 2, 1) := by decide +kernel
theorem dX9_compared_25 : decode cX9_compared 25 = .ok (.iload_n 2, 1) := by decide +kernel
theorem dX9_compared_26 : decode cX9_compared 26 = .ok (.bipush 60, 2) := by decide +kernel
theorem dX9_compared_28 : decode cX9_compared 28 = .ok (.if_icmp .eq 17, 3) := by decide +kernel
theorem dX9_compared_31 : decode cX9_compared 31 = .ok (.iload_n 2, 1) := by decide +kernel
theorem dX9_compared_32 : decode cX9_compared 32 = .ok (.bipush 61, 2) := by decide +kernel
theorem dX9_compared_34 : decode cX9_compared 34 = .ok (.if_icmp .eq 11, 3) := by decide +kernel
theorem dX9_compared_37 : decode cX9_compared 37 = .ok (.iload_n 2, 1) := by decide +kernel
theorem dX9_compared_38 : decode cX9_compared 38 = .ok (.bipush 62, 2) := by decide +kernel
theorem dX9_compared_40 : decode cX9_compared 40 = .ok (.if_icmp .eq 5, 3) := by decide +kernel
theorem dX9_compared_43 : decode cX9_compared 43 = .ok (.iload_n 1, 1) := by decide +kernel
theorem dX9_compared_44 : decode cX9_compared 44 = .ok (.ireturn, 1) := by decide +kernel
theorem dX9_compared_45 : decode cX9_compared 45 = .ok (.aload_n 0, 1) := by decide +kernel
theorem dX9_compared_46 : decode cX9_compared 46 = .ok (.dup, 1) := by decide +kernel
theorem dX9_compared_47 : decode cX9_compared 47 = .ok (.getfield 120, 3) := by decide +kernel
theorem dX9_compared_50 : decode cX9_compared 50 = .ok (.iconst 1, 1) := by decide +kernel
theorem dX9_compared_51 : decode cX9_compared 51 = .ok (.iadd, 1) := by decide +kernel
theorem dX9_compared_52 : decode cX9_compared 52 = .ok (.putfield 120, 3) := by decide +kernel
theorem dX9_compared_55 : decode cX9_compared 55 = .ok (.aload_n 0, 1) := by decide +kernel
theorem dX9_compared_56 : decode cX9_compared 56 = .ok (.invokevirtual 160, 3) := by decide +kernel
theorem dX9_compared_59 : decode cX9_compared 59 = .ok (.istore_n 3, 1) := by decide +kernel
theorem dX9_compared_60 : decode cX9_compared 60 = .ok (.iload_n 2, 1) := by decide +kernel
theorem dX9_compared_61 : decode cX9_compared 61 = .ok (.bipush 60, 2) := by decide +kernel
theorem dX9_compared_63 : decode cX9_compared 63 = .ok (.if_icmp .ne 16, 3) := by decide +kernel
theorem dX9_compared_66 : decode cX9_compared 66 = .ok (.iload_n 1, 1) := by decide +kernel
theorem dX9_compared_67 : decode cX9_compared 67 = .ok (.iload_n 3, 1) := by decide +kernel
theorem dX9_compared_68 : decode cX9_compared 68 = .ok (.if_icmp .ge 7, 3) := by decide +kernel
theorem dX9_compared_71 : decode cX9_compared 71 = .ok (.iconst 1, 1) := by decide +kernel
theorem dX9_compared_72 : decode cX9_compared 72 = .ok (.goto 36, 3) := by decide +kernel
theorem dX9_compared_75 : decode cX9_compared 75 = .ok (.iconst 0, 1) := by decide +kernel
theorem dX9_compared_76 : decode cX9_compared 76 = .ok (.goto 32, 3) := by decide +kernel
theorem dX9_compared_79 : decode cX9_compared 79 = .ok (.iload_n 2, 1) := by decide +kernel
theorem dX9_compared_80 : decode cX9_compared 80 = .ok (.bipush 61, 2) := by decide +kernel
theorem dX9_compared_82 : decode cX9_compared 82 = .ok (.if_icmp .ne 16, 3) := by decide +kernel
theorem dX9_compared_85 : decode cX9_compared 85 = .ok (.iload_n 1, 1) := by decide +kernel
theorem dX9_compared_86 : decode cX9_compared 86 = .ok (.iload_n 3, 1) := by decide +kernel
theorem dX9_compared_87 : decode cX9_compared 87 = .ok (.if_icmp .ne 7, 3) := by decide +kernel
theorem dX9_compared_90 : decode cX9_compared 90 = .ok (.iconst 1, 1) := by decide +kernel
theorem dX9_compared_91 : decode cX9_compared 91 = .ok (.goto 17, 3) := by decide +kernel
theorem dX9_compared_94 : decode cX9_compared 94 = .ok (.iconst 0, 1) := by decide +kernel
theorem dX9_compared_95 : decode cX9_compared 95 = .ok (.goto 13, 3) := by decide +kernel
theorem dX9_compared_98 : decode cX9_compared 98 = .ok (.iload_n 1, 1) := by decide +kernel
theorem dX9_compared_99 : decode cX9_compared 99 = .ok (.iload_n 3, 1) := by decide +kernel
theorem dX9_compared_100 : decode cX9_compared 100 = .ok (.if_icmp .le 7, 3) := by decide +kernel
theorem dX9_compared_103 : decode cX9_compared 103 = .ok (.iconst 1, 1) := by decide +kernel
theorem dX9_compared_104 : decode cX9_compared 104 = .ok (.goto 4, 3) := by decide +kernel
theorem dX9_compared_107 : decode cX9_compared 107 = .ok (.iconst 0, 1) := by decide +kernel
theorem dX9_compared_108 : decode cX9_compared 108 = .ok (.istore 4, 2) := by decide +kernel
theorem dX9_compared_110 : decode cX9_compared 110 = .ok (.iload 4, 2) := by decide +kernel
theorem dX9_compared_112 : decode cX9_compared 112 = .ok (.ifCond .eq 7, 3) := by decide +kernel
theorem dX9_compared_115 : decode cX9_compared 115 = .ok (.iconst 1, 1) := by decide +kernel
theorem dX9_compared_116 : decode cX9_compared 116 = .ok (.goto 4, 3) := by decide +kernel
theorem dX9_compared_119 : decode cX9_compared 119 = .ok (.iconst 0, 1) := by decide +kernel
theorem dX9_compared_120 : decode cX9_compared 120 = .ok (.ireturn, 1) := by decide +kernel
set_option maxRecDepth 20000 in
theorem ggX9_both_X9_compared : GoodIn wsX9_both wsX9_compared := goodIn_r _ [14, 1, 2, 15, 16, 17, 6, 7, 8, 9, 10, 11, 12, 13, 0, 3, 4, 5, 18, 19, 20, 21, 22, 23, 24, 25, 26, 27, 28, 29, 30, 31, 32, 33, 34, 35, 36, 37, 38, 39, 40, 41, 42, 43, 44, 45, 46, 47, 48, 49, 50, 51, 52, 53, 54, 55, 56, 57, 58, 59, 60, 61, 62, 63, 64, 65, 66, 67, 68, 69, 70, 71, 72, 73, 74, 75, 76, 77, 78, 79, 80, 81, 82, 83] (by decide +kernel) (by decide +kernel)
set_option maxRecDepth 20000 in
theorem gX9_both_X9_compared : GoodIn wsX9_both (wsV RX9 163 RX9 yX9_compared wsX9_compared) := goodIn_app (goodIn_of _ (by decide +kernel)) ggX9_both_X9_compared
set_option maxRecDepth 20000 in
theorem ggX9_both_X9_byteAt : GoodIn wsX9_both wsX9_byteAt := goodIn_r _ [10, 11, 12, 13, 56, 57, 58, 59, 60, 61, 62, 63, 64, 65, 66, 67, 68, 69, 70, 71, 72, 73, 74, 75, 76, 77, 78, 79, 80, 81, 82, 83] (by decide +kernel) (by decide +kernel)
set_option maxRecDepth 20000 in
theorem gX9_both_X9_byteAt : GoodIn wsX9_both (wsV RX9 123 RX9 yX9_byteAt wsX9_byteAt) := goodIn_app (goodIn_of _ (by decide +kernel)) ggX9_both_X9_byteAt
theorem dX9_both_0 : decode cX9_both 0 = .ok (.aload_n 0, 1) := by decide +kernel
theorem dX9_both_1 : decode cX9_both 1 = .ok (.invokevirtual 163, 3) := by decide +kernel
theorem dX9_both_4 : decode cX9_both 4 = .ok (.istore_n 1, 1) := by decide +kernel
theorem dX9_both_5 : decode cX9_both 5 = .ok (.aload_n 0, 1) := by decide +kernel
theorem dX9_both_6 : decode cX9_both 6 = .ok (.getfield 116, 3) := by decide +kernel
theorem dX9_both_9 : decode cX9_both 9 = .ok (.ifCond .eq 48, 3) := by decide +kernel
theorem dX9_both_12 : decode cX9_both 12 = .ok (.aload_n 0, 1) := by decide +kernel
theorem dX9_both_13 : decode cX9_both 13 = .ok (.aload_n 0, 1) := by decide +kernel
theorem dX9_both_14 : decode cX9_both 14 = .ok (.getfield 120, 3) := by decide +kernel
theorem dX9_both_17 : decode cX9_both 17 = .ok (.invokevirtual 123, 3) := by decide +kernel
theorem dX9_both_20 : decode cX9_both 20 = .ok (.bipush 38, 2) := by decide +kernel
theorem dX9_both_22 : decode cX9_both 22 = .ok (.if_icmp .ne 35, 3) := by decide +kernel
theorem dX9_both_25 : decode cX9_both 25 = .ok (.aload_n 0, 1) := by decide +kernel
theorem dX9_both_26 : decode cX9_both 26 = .ok (.dup, 1) := by decide +kernel
theorem dX9_both_27 : decode cX9_both 27 = .ok (.getfield 120, 3) := by decide +kernel
theorem dX9_both_30 : decode cX9_both 30 = .ok (.iconst 1, 1) := by decide +kernel
theorem dX9_both_31 : decode cX9_both 31 = .ok (.iadd, 1) := by decide +kernel
theorem dX9_both_32 : decode cX9_both 32 = .ok (.putfield 120, 3) := by decide +kernel
theorem dX9_both_35 : decode cX9_both 35 = .ok (.aload_n 0, 1) := by decide +kernel
theorem dX9_both_36 : decode cX9_both 36 = .ok (.invokevirtual 163, 3) := by decide +kernel
theorem dX9_both_39 : decode cX9_both 39 = .ok (.istore_n 2, 1) := by decide +kernel
theorem dX9_both_40 : decode cX9_both 40 = .ok (.iload_n 1, 1) := by decide +kernel
theorem dX9_both_41 : decode cX9_both 41 = .ok (.ifCond .eq 11, 3) := by decide +kernel
theorem dX9_both_44 : decode cX9_both 44 = .ok (.iload_n 2, 1) := by decide +kernel
theorem dX9_both_45 : decode cX9_both 45 = .ok (.ifCond .eq 7, 3) := by decide +kernel
theorem dX9_both_48 : decode cX9_both 48 = .ok (.iconst 1, 1) := by decide +kernel
theorem dX9_both_49 : decode cX9_both 49 = .ok (.goto 4, 3) := by decide +kernel
theorem dX9_both_52 : decode cX9_both 52 = .ok (.iconst 0, 1) := by decide +kernel
theorem dX9_both_53 : decode cX9_both 53 = .ok (.istore_n 1, 1) := by decide +kernel
theorem dX9_both_54 : decode cX9_both 54 = .ok (.goto (-49), 3) := by decide +kernel
theorem dX9_both_57 : decode cX9_both 57 = .ok (.iload_n 1, 1) := by decide +kernel
theorem dX9_both_58 : decode cX9_both 58 = .ok (.ireturn, 1) := by decide +kernel
set_option maxRecDepth 20000 in
theorem ggX9_whole_X9_both : GoodIn wsX9_whole wsX9_both := goodIn_r _ [14, 1, 2, 15, 16, 17, 6, 7, 8, 9, 10, 11, 12, 13, 18, 19, 20, 21, 22, 23, 24, 25, 26, 27, 28, 29, 30, 31, 32, 33, 34, 35, 36, 37, 38, 39, 40, 41, 42, 43, 44, 45, 46, 47, 48, 49, 50, 51, 52, 53, 54, 55, 0, 3, 4, 5, 56, 57, 58, 59, 60, 61, 62, 63, 64, 65, 66, 67, 68, 69, 70, 71, 72, 73, 74, 75, 76, 77, 78, 79, 80, 81, 82, 83] (by decide +kernel) (by decide +kernel)
set_option maxRecDepth 20000 in
theorem gX9_whole_X9_both : GoodIn wsX9_whole (wsV RX9 166 RX9 yX9_both wsX9_both) := goodIn_app (goodIn_of _ (by decide +kernel)) ggX9_whole_X9_both
set_option maxRecDepth 20000 in
theorem ggX9_whole_X9_byteAt : GoodIn wsX9_whole wsX9_byteAt := goodIn_r _ [10, 11, 12, 13, 56, 57, 58, 59, 60, 61, 62, 63, 64, 65, 66, 67, 68, 69, 70, 71, 72, 73, 74, 75, 76, 77, 78, 79, 80, 81, 82, 83] (by decide +kernel) (by decide +kernel)
set_option maxRecDepth 20000 in
theorem gX9_whole_X9_byteAt : GoodIn wsX9_whole (wsV RX9 123 RX9 yX9_byteAt wsX9_byteAt) := goodIn_app (goodIn_of _ (by decide +kernel)) ggX9_whole_X9_byteAt
theorem dX9_whole_0 : decode cX9_whole 0 = .ok (.aload_n 0, 1) := by decide +kernel
theorem dX9_whole_1 : decode cX9_whole 1 = .ok (.invokevirtual 166, 3) := by decide +kernel
theorem dX9_whole_4 : decode cX9_whole 4 = .ok (.istore_n 1, 1) := by decide +kernel
theorem dX9_whole_5 : decode cX9_whole 5 = .ok (.aload_n 0, 1) := by decide +kernel
theorem dX9_whole_6 : decode cX9_whole 6 = .ok (.getfield 116, 3) := by decide +kernel
theorem dX9_whole_9 : decode cX9_whole 9 = .ok (.ifCond .eq 48, 3) := by decide +kernel
theorem dX9_whole_12 : decode cX9_whole 12 = .ok (.aload_n 0, 1) := by decide +kernel
theorem dX9_whole_13 : decode cX9_whole 13 = .ok (.aload_n 0, 1) := by decide +kernel
theorem dX9_whole_14 : decode cX9_whole 14 = .ok (.getfield 120, 3) := by decide +kernel
theorem dX9_whole_17 : decode cX9_whole 17 = .ok (.invokevirtual 123, 3) := by decide +kernel
theorem dX9_whole_20 : decode cX9_whole 20 = .ok (.bipush 124, 2) := by decide +kernel
theorem dX9_whole_22 : decode cX9_whole 22 = .ok (.if_icmp .ne 35, 3) := by decide +kernel
theorem dX9_whole_25 : decode cX9_whole 25 = .ok (.aload_n 0, 1) := by decide +kernel
theorem dX9_whole_26 : decode cX9_whole 26 = .ok (.dup, 1) := by decide +kernel
theorem dX9_whole_27 : decode cX9_whole 27 = .ok (.getfield 120, 3) := by decide +kernel
theorem dX9_whole_30 : decode cX9_whole 30 = .ok (.iconst 1, 1) := by decide +kernel
theorem dX9_whole_31 : decode cX9_whole 31 = .ok (.iadd, 1) := by decide +kernel
theorem dX9_whole_32 : decode cX9_whole 32 = .ok (.putfield 120, 3) := by decide +kernel
theorem dX9_whole_35 : decode cX9_whole 35 = .ok (.aload_n 0, 1) := by decide +kernel
theorem dX9_whole_36 : decode cX9_whole 36 = .ok (.invokevirtual 166, 3) := by decide +kernel
theorem dX9_whole_39 : decode cX9_whole 39 = .ok (.istore_n 2, 1) := by decide +kernel
theorem dX9_whole_40 : decode cX9_whole 40 = .ok (.iload_n 1, 1) := by decide +kernel
theorem dX9_whole_41 : decode cX9_whole 41 = .ok (.ifCond .ne 7, 3) := by decide +kernel
theorem dX9_whole_44 : decode cX9_whole 44 = .ok (.iload_n 2, 1) := by decide +kernel
theorem dX9_whole_45 : decode cX9_whole 45 = .ok (.ifCond .eq 7, 3) := by decide +kernel
theorem dX9_whole_48 : decode cX9_whole 48 = .ok (.iconst 1, 1) := by decide +kernel
theorem dX9_whole_49 : decode cX9_whole 49 = .ok (.goto 4, 3) := by decide +kernel
theorem dX9_whole_52 : decode cX9_whole 52 = .ok (.iconst 0, 1) := by decide +kernel
theorem dX9_whole_53 : decode cX9_whole 53 = .ok (.istore_n 1, 1) := by decide +kernel
theorem dX9_whole_54 : decode cX9_whole 54 = .ok (.goto (-49), 3) := by decide +kernel
theorem dX9_whole_57 : decode cX9_whole 57 = .ok (.iload_n 1, 1) := by decide +kernel
theorem dX9_whole_58 : decode cX9_whole 58 = .ok (.ireturn, 1) := by decide +kernel
set_option maxRecDepth 20000 in
theorem ggX9_walks_X9_whole : GoodIn wsX9_walks wsX9_whole := goodIn_r _ [14, 6, 2, 15, 16, 17, 13, 18, 19, 20, 21, 4, 3, 1, 22, 23, 24, 25, 26, 27, 28, 29, 30, 5, 31, 32, 33, 34, 35, 36, 37, 38, 39, 40, 41, 42, 43, 44, 7, 8, 9, 45, 46, 47, 48, 49, 50, 51, 10, 11, 12, 52, 53, 54, 55, 56, 57, 58, 59, 60, 61, 62, 63, 64, 65, 66, 67, 68, 69, 70, 71, 72, 73, 74, 75, 76, 77, 78, 79, 80, 81, 82, 83, 84] (by decide +kernel) (by decide +kernel)
set_option maxRecDepth 20000 in
theorem gX9_walks_X9_whole : GoodIn wsX9_walks (wsV RX9 154 RX9 yX9_whole wsX9_whole) := goodIn_app (goodIn_of _ (by decide +kernel)) ggX9_walks_X9_whole
theorem dX9_walks_0 : decode cX9_walks 0 = .ok (.aload_n 0, 1) := by decide +kernel
theorem dX9_walks_1 : decode cX9_walks 1 = .ok (.iload_n 1, 1) := by decide +kernel
theorem dX9_walks_2 : decode cX9_walks 2 = .ok (.putfield 113, 3) := by decide +kernel
theorem dX9_walks_5 : decode cX9_walks 5 = .ok (.aload_n 0, 1) := by decide +kernel
theorem dX9_walks_6 : decode cX9_walks 6 = .ok (.iconst 0, 1) := by decide +kernel
theorem dX9_walks_7 : decode cX9_walks 7 = .ok (.putfield 120, 3) := by decide +kernel
theorem dX9_walks_10 : decode cX9_walks 10 = .ok (.aload_n 0, 1) := by decide +kernel
theorem dX9_walks_11 : decode cX9_walks 11 = .ok (.aload_n 0, 1) := by decide +kernel
theorem dX9_walks_12 : decode cX9_walks 12 = .ok (.getfield 7, 3) := by decide +kernel
theorem dX9_walks_15 : decode cX9_walks 15 = .ok (.bipush 6, 2) := by decide +kernel
theorem dX9_walks_17 : decode cX9_walks 17 = .ok (.iload_n 1, 1) := by decide +kernel
theorem dX9_walks_18 : decode cX9_walks 18 = .ok (.iadd, 1) := by decide +kernel
theorem dX9_walks_19 : decode cX9_walks 19 = .ok (.iaload, 1) := by decide +kernel
theorem dX9_walks_20 : decode cX9_walks 20 = .ok (.putfield 110, 3) := by decide +kernel
theorem dX9_walks_23 : decode cX9_walks 23 = .ok (.aload_n 0, 1) := by decide +kernel
theorem dX9_walks_24 : decode cX9_walks 24 = .ok (.iconst 0, 1) := by decide +kernel
theorem dX9_walks_25 : decode cX9_walks 25 = .ok (.putfield 148, 3) := by decide +kernel
theorem dX9_walks_28 : decode cX9_walks 28 = .ok (.aload_n 0, 1) := by decide +kernel
theorem dX9_walks_29 : decode cX9_walks 29 = .ok (.iconst 1, 1) := by decide +kernel
theorem dX9_walks_30 : decode cX9_walks 30 = .ok (.putfield 116, 3) := by decide +kernel
theorem dX9_walks_33 : decode cX9_walks 33 = .ok (.aload_n 0, 1) := by decide +kernel
theorem dX9_walks_34 : decode cX9_walks 34 = .ok (.iload_n 2, 1) := by decide +kernel
theorem dX9_walks_35 : decode cX9_walks 35 = .ok (.putfield 133, 3) := by decide +kernel
theorem dX9_walks_38 : decode cX9_walks 38 = .ok (.aload_n 0, 1) := by decide +kernel
theorem dX9_walks_39 : decode cX9_walks 39 = .ok (.iload_n 3, 1) := by decide +kernel
theorem dX9_walks_40 : decode cX9_walks 40 = .ok (.putfield 136, 3) := by decide +kernel
theorem dX9_walks_43 : decode cX9_walks 43 = .ok (.aload_n 0, 1) := by decide +kernel
theorem dX9_walks_44 : decode cX9_walks 44 = .ok (.iload 4, 2) := by decide +kernel
theorem dX9_walks_46 : decode cX9_walks 46 = .ok (.putfield 139, 3) := by decide +kernel
theorem dX9_walks_49 : decode cX9_walks 49 = .ok (.aload_n 0, 1) := by decide +kernel
theorem dX9_walks_50 : decode cX9_walks 50 = .ok (.invokevirtual 154, 3) := by decide +kernel
theorem dX9_walks_53 : decode cX9_walks 53 = .ok (.istore 5, 2) := by decide +kernel
theorem dX9_walks_55 : decode cX9_walks 55 = .ok (.aload_n 0, 1) := by decide +kernel
theorem dX9_walks_56 : decode cX9_walks 56 = .ok (.aload_n 0, 1) := by decide +kernel
theorem dX9_walks_57 : decode cX9_walks 57 = .ok (.getfield 116, 3) := by decide +kernel
theorem dX9_walks_60 : decode cX9_walks 60 = .ok (.ifCond .eq 18, 3) := by decide +kernel
theorem dX9_walks_63 : decode cX9_walks 63 = .ok (.aload_n 0, 1) := by decide +kernel
theorem dX9_walks_64 : decode cX9_walks 64 = .ok (.getfield 120, 3) := by decide +kernel
theorem dX9_walks_67 : decode cX9_walks 67 = .ok (.aload_n 0, 1) := by decide +kernel
theorem dX9_walks_68 : decode cX9_walks 68 = .ok (.getfield 110, 3) := by decide +kernel
theorem dX9_walks_71 : decode cX9_walks 71 = .ok (.if_icmp .ne 7, 3) := by decide +kernel
theorem dX9_walks_74 : decode cX9_walks 74 = .ok (.iconst 1, 1) := by decide +kernel
theorem dX9_walks_75 : decode cX9_walks 75 = .ok (.goto 4, 3) := by decide +kernel
theorem dX9_walks_78 : decode cX9_walks 78 = .ok (.iconst 0, 1) := by decide +kernel
theorem dX9_walks_79 : decode cX9_walks 79 = .ok (.putfield 116, 3) := by decide +kernel
theorem dX9_walks_82 : decode cX9_walks 82 = .ok (.iload 5, 2) := by decide +kernel
theorem dX9_walks_84 : decode cX9_walks 84 = .ok (.ireturn, 1) := by decide +kernel
set_option maxRecDepth 20000 in
theorem ggX9_lawOf_X9_walks : GoodIn wsX9_lawOf wsX9_walks := goodIn_r _ [6, 7, 8, 1, 9, 10, 11, 12, 13, 14, 15, 16, 17, 5, 18, 19, 20, 21, 22, 23, 24, 25, 26, 27, 28, 29, 30, 31, 32, 33, 34, 35, 36, 37, 38, 39, 40, 41, 42, 43, 44, 45, 46, 47, 48, 49, 50, 51, 52, 53, 54, 55, 56, 57, 58, 59, 60, 64, 65, 66, 67, 68, 69, 70, 71, 72, 73, 74, 75, 76, 77, 78, 79, 80, 81, 82, 83, 84, 85, 86, 87, 88, 89, 90, 91] (by decide +kernel) (by decide +kernel)
set_option maxRecDepth 20000 in
theorem gX9_lawOf_X9_walks : GoodIn wsX9_lawOf (wsV RX9 169 RX9 yX9_walks wsX9_walks) := goodIn_app (goodIn_of _ (by decide +kernel)) ggX9_lawOf_X9_walks
set_option maxRecDepth 20000 in
theorem ggX9_lawOf_X9_held : GoodIn wsX9_lawOf wsX9_held := goodIn_r _ [63] (by decide +kernel) (by decide +kernel)
set_option maxRecDepth 20000 in
theorem gX9_lawOf_X9_held : GoodIn wsX9_lawOf (va_wsS RX9 173 yX9_held wsX9_held) := goodIn_app (goodIn_of _ (by decide +kernel)) ggX9_lawOf_X9_held
theorem dX9_lawOf_0 : decode cX9_lawOf 0 = .ok (.iload_n 1, 1) := by decide +kernel
theorem dX9_lawOf_1 : decode cX9_lawOf 1 = .ok (.ifCond .ne 8, 3) := by decide +kernel
theorem dX9_lawOf_4 : decode cX9_lawOf 4 = .ok (.bipush 9, 2) := by decide +kernel
theorem dX9_lawOf_6 : decode cX9_lawOf 6 = .ok (.goto 5, 3) := by decide +kernel
theorem dX9_lawOf_9 : decode cX9_lawOf 9 = .ok (.bipush 99, 2) := by decide +kernel
theorem dX9_lawOf_11 : decode cX9_lawOf 11 = .ok (.istore 5, 2) := by decide +kernel
theorem dX9_lawOf_13 : decode cX9_lawOf 13 = .ok (.aload_n 0, 1) := by decide +kernel
theorem dX9_lawOf_14 : decode cX9_lawOf 14 = .ok (.getfield 7, 3) := by decide +kernel
theorem dX9_lawOf_17 : decode cX9_lawOf 17 = .ok (.bipush 6, 2) := by decide +kernel
theorem dX9_lawOf_19 : decode cX9_lawOf 19 = .ok (.iload_n 1, 1) := by decide +kernel
theorem dX9_lawOf_20 : decode cX9_lawOf 20 = .ok (.iadd, 1) := by decide +kernel
theorem dX9_lawOf_21 : decode cX9_lawOf 21 = .ok (.iaload, 1) := by decide +kernel
theorem dX9_lawOf_22 : decode cX9_lawOf 22 = .ok (.ifCond .lt 19, 3) := by decide +kernel
theorem dX9_lawOf_25 : decode cX9_lawOf 25 = .ok (.aload_n 0, 1) := by decide +kernel
theorem dX9_lawOf_26 : decode cX9_lawOf 26 = .ok (.iload_n 1, 1) := by decide +kernel
theorem dX9_lawOf_27 : decode cX9_lawOf 27 = .ok (.iload_n 2, 1) := by decide +kernel
theorem dX9_lawOf_28 : decode cX9_lawOf 28 = .ok (.iload_n 3, 1) := by decide +kernel
theorem dX9_lawOf_29 : decode cX9_lawOf 29 = .ok (.iload 4, 2) := by decide +kernel
theorem dX9_lawOf_31 : decode cX9_lawOf 31 = .ok (.invokevirtual 169, 3) := by decide +kernel
theorem dX9_lawOf_34 : decode cX9_lawOf 34 = .ok (.iconst 0, 1) := by decide +kernel
theorem dX9_lawOf_35 : decode cX9_lawOf 35 = .ok (.iload 5, 2) := by decide +kernel
theorem dX9_lawOf_37 : decode cX9_lawOf 37 = .ok (.invokestatic 173, 3) := by decide +kernel
theorem dX9_lawOf_40 : decode cX9_lawOf 40 = .ok (.ireturn, 1) := by decide +kernel
theorem dX9_lawOf_41 : decode cX9_lawOf 41 = .ok (.iload_n 1, 1) := by decide +kernel
theorem dX9_lawOf_42 : decode cX9_lawOf 42 = .ok (.ifCond .ne 11, 3) := by decide +kernel
theorem dX9_lawOf_45 : decode cX9_lawOf 45 = .ok (.iconst 3, 1) := by decide +kernel
theorem dX9_lawOf_46 : decode cX9_lawOf 46 = .ok (.iload_n 3, 1) := by decide +kernel
theorem dX9_lawOf_47 : decode cX9_lawOf 47 = .ok (.iconst 3, 1) := by decide +kernel
theorem dX9_lawOf_48 : decode cX9_lawOf 48 = .ok (.idiv, 1) := by decide +kernel
theorem dX9_lawOf_49 : decode cX9_lawOf 49 = .ok (.isub, 1) := by decide +kernel
theorem dX9_lawOf_50 : decode cX9_lawOf 50 = .ok (.goto 4, 3) := by decide +kernel
theorem dX9_lawOf_53 : decode cX9_lawOf 53 = .ok (.iload_n 2, 1) := by decide +kernel
theorem dX9_lawOf_54 : decode cX9_lawOf 54 = .ok (.iconst 0, 1) := by decide +kernel
theorem dX9_lawOf_55 : decode cX9_lawOf 55 = .ok (.iload 5, 2) := by decide +kernel
theorem dX9_lawOf_57 : decode cX9_lawOf 57 = .ok (.invokestatic 173, 3) := by decide +kernel
theorem dX9_lawOf_60 : decode cX9_lawOf 60 = .ok (.ireturn, 1) := by decide +kernel
set_option maxRecDepth 20000 in
theorem ggX9_law_X9_in : GoodIn wsX9_law wsX9_in := goodIn_r _ [5] (by decide +kernel) (by decide +kernel)
set_option maxRecDepth 20000 in
theorem gX9_law_X9_in : GoodIn wsX9_law (va_wsS RX9 54 yX9_in wsX9_in) := goodIn_app (goodIn_of _ (by decide +kernel)) ggX9_law_X9_in
set_option maxRecDepth 20000 in
theorem ggX9_law_X9_lawOf : GoodIn wsX9_law wsX9_lawOf := goodIn_r _ [9, 10, 11, 12, 13, 4, 14, 15, 16, 17, 18, 19, 20, 21, 22, 23, 24, 25, 26, 27, 28, 29, 30, 31, 32, 33, 34, 35, 36, 37, 38, 39, 40, 41, 42, 43, 44, 45, 2, 3, 5, 46, 47, 48, 49, 50, 51, 52, 53, 54, 55, 56, 57, 58, 59, 60, 61, 62, 63, 64, 65, 66, 67, 68, 75, 76, 77, 78, 79, 80, 81, 82, 83, 84, 85, 86, 87, 88, 89, 90, 91, 92, 93, 94, 95, 96, 97, 98, 99, 100, 101, 102] (by decide +kernel) (by decide +kernel)
set_option maxRecDepth 20000 in
theorem gX9_law_X9_lawOf : GoodIn wsX9_law (wsV RX9 177 RX9 yX9_lawOf wsX9_lawOf) := goodIn_app (goodIn_of _ (by decide +kernel)) ggX9_law_X9_lawOf
set_option maxRecDepth 20000 in
theorem ggX9_law_X9_errs : GoodIn wsX9_law wsX9_errs := goodIn_r _ [72, 73, 74, 75, 76, 77, 78, 79, 80, 81, 82, 83, 84, 85, 86, 87, 88, 89, 90, 91, 92, 93, 94, 95, 96, 97, 98, 99, 100, 101, 102] (by decide +kernel) (by decide +kernel)
set_option maxRecDepth 20000 in
theorem gX9_law_X9_errs : GoodIn wsX9_law (wsV RX9 59 RX9 yX9_errs wsX9_errs) := goodIn_app (goodIn_of _ (by decide +kernel)) ggX9_law_X9_errs
theorem dX9_law_0 : decode cX9_law 0 = .ok (.iload_n 1, 1) := by decide +kernel
theorem dX9_law_1 : decode cX9_law 1 = .ok (.iconst 0, 1) := by decide +kernel
theorem dX9_law_2 : decode cX9_law 2 = .ok (.iconst 1, 1) := by decide +kernel
theorem dX9_law_3 : decode cX9_law 3 = .ok (.invokestatic 54, 3) := by decide +kernel
theorem dX9_law_6 : decode cX9_law 6 = .ok (.ifCond .eq 15, 3) := by decide +kernel
theorem dX9_law_9 : decode cX9_law 9 = .ok (.aload_n 0, 1) := by decide +kernel
theorem dX9_law_10 : decode cX9_law 10 = .ok (.iload_n 1, 1) := by decide +kernel
theorem dX9_law_11 : decode cX9_law 11 = .ok (.iload_n 2, 1) := by decide +kernel
theorem dX9_law_12 : decode cX9_law 12 = .ok (.iload_n 3, 1) := by decide +kernel
theorem dX9_law_13 : decode cX9_law 13 = .ok (.iload 4, 2) := by decide +kernel
theorem dX9_law_15 : decode cX9_law 15 = .ok (.invokevirtual 177, 3) := by decide +kernel
theorem dX9_law_18 : decode cX9_law 18 = .ok (.goto 9, 3) := by decide +kernel
theorem dX9_law_21 : decode cX9_law 21 = .ok (.aload_n 0, 1) := by decide +kernel
theorem dX9_law_22 : decode cX9_law 22 = .ok (.ldc 58, 2) := by decide +kernel
theorem dX9_law_24 : decode cX9_law 24 = .ok (.invokevirtual 59, 3) := by decide +kernel
theorem dX9_law_27 : decode cX9_law 27 = .ok (.ireturn, 1) := by decide +kernel
set_option maxRecDepth 20000 in
theorem ggX9_feed_X9_in : GoodIn wsX9_feed wsX9_in := goodIn_r _ [8] (by decide +kernel) (by decide +kernel)
set_option maxRecDepth 20000 in
theorem gX9_feed_X9_in : GoodIn wsX9_feed (va_wsS RX9 54 yX9_in wsX9_in) := goodIn_app (goodIn_of _ (by decide +kernel)) ggX9_feed_X9_in
set_option maxRecDepth 20000 in
theorem ggX9_feed_X9_errs : GoodIn wsX9_feed wsX9_errs := goodIn_r _ [12, 13, 14, 15, 16, 17, 18, 19, 20, 21, 22, 23, 24, 25, 26, 27, 28, 29, 30, 31, 32, 33, 34, 35, 36, 37, 38, 39, 40, 41, 42] (by decide +kernel) (by decide +kernel)
set_option maxRecDepth 20000 in
theorem gX9_feed_X9_errs : GoodIn wsX9_feed (wsV RX9 59 RX9 yX9_errs wsX9_errs) := goodIn_app (goodIn_of _ (by decide +kernel)) ggX9_feed_X9_errs
theorem dX9_feed_0 : decode cX9_feed 0 = .ok (.iload_n 3, 1) := by decide +kernel
