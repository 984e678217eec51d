theorem dX9_ran_10 : decode cX9_ran 10 = .ok (.getfield 50, 3) := by decide +kernel
theorem dX9_ran_13 : decode cX9_ran 13 = .ok (.aload_n 0, 1) := by decide +kernel
theorem dX9_ran_14 : decode cX9_ran 14 = .ok (.getfield 234, 3) := by decide +kernel
theorem dX9_ran_17 : decode cX9_ran 17 = .ok (.iload_n 1, 1) := by decide +kernel
theorem dX9_ran_18 : decode cX9_ran 18 = .ok (.iastore, 1) := by decide +kernel
theorem dX9_ran_19 : decode cX9_ran 19 = .ok (.aload_n 0, 1) := by decide +kernel
theorem dX9_ran_20 : decode cX9_ran 20 = .ok (.dup, 1) := by decide +kernel
theorem dX9_ran_21 : decode cX9_ran 21 = .ok (.getfield 234, 3) := by decide +kernel
theorem dX9_ran_24 : decode cX9_ran 24 = .ok (.iconst 1, 1) := by decide +kernel
theorem dX9_ran_25 : decode cX9_ran 25 = .ok (.iadd, 1) := by decide +kernel
theorem dX9_ran_26 : decode cX9_ran 26 = .ok (.putfield 234, 3) := by decide +kernel
theorem dX9_ran_29 : decode cX9_ran 29 = .ok (.return_, 1) := by decide +kernel
set_option maxRecDepth 20000 in
theorem ggX9_looksIn_X9_ran : GoodIn wsX9_looksIn wsX9_ran := goodIn_r _ [6, 7, 8, 15, 16, 17, 18, 19, 20, 21, 22, 23, 24, 25, 26, 27, 28, 29, 30, 31, 32, 33, 34, 35, 36, 37, 38, 39, 40, 41, 42] (by decide +kernel) (by decide +kernel)
set_option maxRecDepth 20000 in
theorem gX9_looksIn_X9_ran : GoodIn wsX9_looksIn (wsV RX9 237 RX9 yX9_ran wsX9_ran) := goodIn_app (goodIn_of _ (by decide +kernel)) ggX9_looksIn_X9_ran
set_option maxRecDepth 20000 in
theorem ggX9_looksIn_X9_looksIn : GoodIn wsX9_looksIn wsX9_looksIn := goodIn_r _ [0, 1, 2, 3, 4, 5, 6, 7, 8, 9, 10, 11, 12, 13, 14, 15, 16, 17, 18, 19, 20, 21, 22, 23, 24, 25, 26, 27, 28, 29, 30, 31, 32, 33, 34, 35, 36, 37, 38, 39, 40, 41, 42] (by decide +kernel) (by decide +kernel)
set_option maxRecDepth 20000 in
theorem gX9_looksIn_X9_looksIn : GoodIn wsX9_looksIn (wsV RX9 243 RX9 yX9_looksIn wsX9_looksIn) := goodIn_app (goodIn_of _ (by decide +kernel)) ggX9_looksIn_X9_looksIn
set_option maxRecDepth 20000 in
theorem ggX9_looksIn_X9_above : GoodIn wsX9_looksIn wsX9_above := goodIn_r _ [14] (by decide +kernel) (by decide +kernel)
set_option maxRecDepth 20000 in
theorem gX9_looksIn_X9_above : GoodIn wsX9_looksIn (va_wsS RX9 106 yX9_above wsX9_above) := goodIn_app (goodIn_of _ (by decide +kernel)) ggX9_looksIn_X9_above
theorem dX9_looksIn_0 : decode cX9_looksIn 0 = .ok (.iload_n 1, 1) := by decide +kernel
theorem dX9_looksIn_1 : decode cX9_looksIn 1 = .ok (.ifCond .ne 16, 3) := by decide +kernel
theorem dX9_looksIn_4 : decode cX9_looksIn 4 = .ok (.aload_n 0, 1) := by decide +kernel
theorem dX9_looksIn_5 : decode cX9_looksIn 5 = .ok (.bipush 10, 2) := by decide +kernel
theorem dX9_looksIn_7 : decode cX9_looksIn 7 = .ok (.invokevirtual 237, 3) := by decide +kernel
theorem dX9_looksIn_10 : decode cX9_looksIn 10 = .ok (.iload_n 2, 1) := by decide +kernel
theorem dX9_looksIn_11 : decode cX9_looksIn 11 = .ok (.aload_n 0, 1) := by decide +kernel
theorem dX9_looksIn_12 : decode cX9_looksIn 12 = .ok (.getfield 240, 3) := by decide +kernel
theorem dX9_looksIn_15 : decode cX9_looksIn 15 = .ok (.iadd, 1) := by decide +kernel
theorem dX9_looksIn_16 : decode cX9_looksIn 16 = .ok (.ireturn, 1) := by decide +kernel
theorem dX9_looksIn_17 : decode cX9_looksIn 17 = .ok (.iload_n 1, 1) := by decide +kernel
theorem dX9_looksIn_18 : decode cX9_looksIn 18 = .ok (.iconst 1, 1) := by decide +kernel
theorem dX9_looksIn_19 : decode cX9_looksIn 19 = .ok (.if_icmp .ne 18, 3) := by decide +kernel
theorem dX9_looksIn_22 : decode cX9_looksIn 22 = .ok (.aload_n 0, 1) := by decide +kernel
theorem dX9_looksIn_23 : decode cX9_looksIn 23 = .ok (.bipush 20, 2) := by decide +kernel
theorem dX9_looksIn_25 : decode cX9_looksIn 25 = .ok (.invokevirtual 237, 3) := by decide +kernel
theorem dX9_looksIn_28 : decode cX9_looksIn 28 = .ok (.aload_n 0, 1) := by decide +kernel
theorem dX9_looksIn_29 : decode cX9_looksIn 29 = .ok (.iconst 0, 1) := by decide +kernel
theorem dX9_looksIn_30 : decode cX9_looksIn 30 = .ok (.iload_n 2, 1) := by decide +kernel
theorem dX9_looksIn_31 : decode cX9_looksIn 31 = .ok (.invokevirtual 243, 3) := by decide +kernel
theorem dX9_looksIn_34 : decode cX9_looksIn 34 = .ok (.iconst 3, 1) := by decide +kernel
theorem dX9_looksIn_35 : decode cX9_looksIn 35 = .ok (.imul, 1) := by decide +kernel
theorem dX9_looksIn_36 : decode cX9_looksIn 36 = .ok (.ireturn, 1) := by decide +kernel
theorem dX9_looksIn_37 : decode cX9_looksIn 37 = .ok (.aload_n 0, 1) := by decide +kernel
theorem dX9_looksIn_38 : decode cX9_looksIn 38 = .ok (.iload_n 1, 1) := by decide +kernel
theorem dX9_looksIn_39 : decode cX9_looksIn 39 = .ok (.invokestatic 106, 3) := by decide +kernel
theorem dX9_looksIn_42 : decode cX9_looksIn 42 = .ok (.iload_n 2, 1) := by decide +kernel
theorem dX9_looksIn_43 : decode cX9_looksIn 43 = .ok (.invokevirtual 243, 3) := by decide +kernel
theorem dX9_looksIn_46 : decode cX9_looksIn 46 = .ok (.ireturn, 1) := by decide +kernel
set_option maxRecDepth 20000 in
theorem ggX9_glancesIn_X9_ran : GoodIn wsX9_glancesIn wsX9_ran := goodIn_r _ [7, 8, 9, 16, 17, 18, 19, 20, 21, 22, 23, 24, 25, 26, 27, 28, 29, 30, 31, 32, 33, 34, 35, 36, 37, 38, 39, 40, 41, 42, 43] (by decide +kernel) (by decide +kernel)
set_option maxRecDepth 20000 in
theorem gX9_glancesIn_X9_ran : GoodIn wsX9_glancesIn (wsV RX9 237 RX9 yX9_ran wsX9_ran) := goodIn_app (goodIn_of _ (by decide +kernel)) ggX9_glancesIn_X9_ran
set_option maxRecDepth 20000 in
theorem ggX9_glancesIn_X9_glancesIn : GoodIn wsX9_glancesIn wsX9_glancesIn := goodIn_r _ [0, 1, 2, 3, 4, 5, 6, 7, 8, 9, 10, 11, 12, 13, 14, 15, 16, 17, 18, 19, 20, 21, 22, 23, 24, 25, 26, 27, 28, 29, 30, 31, 32, 33, 34, 35, 36, 37, 38, 39, 40, 41, 42, 43] (by decide +kernel) (by decide +kernel)
set_option maxRecDepth 20000 in
theorem gX9_glancesIn_X9_glancesIn : GoodIn wsX9_glancesIn (wsV RX9 249 RX9 yX9_glancesIn wsX9_glancesIn) := goodIn_app (goodIn_of _ (by decide +kernel)) ggX9_glancesIn_X9_glancesIn
set_option maxRecDepth 20000 in
theorem ggX9_glancesIn_X9_above : GoodIn wsX9_glancesIn wsX9_above := goodIn_r _ [15] (by decide +kernel) (by decide +kernel)
set_option maxRecDepth 20000 in
theorem gX9_glancesIn_X9_above : GoodIn wsX9_glancesIn (va_wsS RX9 106 yX9_above wsX9_above) := goodIn_app (goodIn_of _ (by decide +kernel)) ggX9_glancesIn_X9_above
theorem dX9_glancesIn_0 : decode cX9_glancesIn 0 = .ok (.iload_n 1, 1) := by decide +kernel
theorem dX9_glancesIn_1 : decode cX9_glancesIn 1 = .ok (.ifCond .ne 16, 3) := by decide +kernel
theorem dX9_glancesIn_4 : decode cX9_glancesIn 4 = .ok (.aload_n 0, 1) := by decide +kernel
theorem dX9_glancesIn_5 : decode cX9_glancesIn 5 = .ok (.bipush 12, 2) := by decide +kernel
theorem dX9_glancesIn_7 : decode cX9_glancesIn 7 = .ok (.invokevirtual 237, 3) := by decide +kernel
theorem dX9_glancesIn_10 : decode cX9_glancesIn 10 = .ok (.iload_n 2, 1) := by decide +kernel
theorem dX9_glancesIn_11 : decode cX9_glancesIn 11 = .ok (.aload_n 0, 1) := by decide +kernel
theorem dX9_glancesIn_12 : decode cX9_glancesIn 12 = .ok (.getfield 246, 3) := by decide +kernel
theorem dX9_glancesIn_15 : decode cX9_glancesIn 15 = .ok (.isub, 1) := by decide +kernel
theorem dX9_glancesIn_16 : decode cX9_glancesIn 16 = .ok (.ireturn, 1) := by decide +kernel
theorem dX9_glancesIn_17 : decode cX9_glancesIn 17 = .ok (.iload_n 1, 1) := by decide +kernel
theorem dX9_glancesIn_18 : decode cX9_glancesIn 18 = .ok (.iconst 3, 1) := by decide +kernel
theorem dX9_glancesIn_19 : decode cX9_glancesIn 19 = .ok (.if_icmp .ne 17, 3) := by decide +kernel
theorem dX9_glancesIn_22 : decode cX9_glancesIn 22 = .ok (.aload_n 0, 1) := by decide +kernel
theorem dX9_glancesIn_23 : decode cX9_glancesIn 23 = .ok (.bipush 40, 2) := by decide +kernel
theorem dX9_glancesIn_25 : decode cX9_glancesIn 25 = .ok (.invokevirtual 237, 3) := by decide +kernel
theorem dX9_glancesIn_28 : decode cX9_glancesIn 28 = .ok (.aload_n 0, 1) := by decide +kernel
theorem dX9_glancesIn_29 : decode cX9_glancesIn 29 = .ok (.iconst 0, 1) := by decide +kernel
theorem dX9_glancesIn_30 : decode cX9_glancesIn 30 = .ok (.iload_n 2, 1) := by decide +kernel
theorem dX9_glancesIn_31 : decode cX9_glancesIn 31 = .ok (.invokevirtual 249, 3) := by decide +kernel
theorem dX9_glancesIn_34 : decode cX9_glancesIn 34 = .ok (.ineg, 1) := by decide +kernel
theorem dX9_glancesIn_35 : decode cX9_glancesIn 35 = .ok (.ireturn, 1) := by decide +kernel
theorem dX9_glancesIn_36 : decode cX9_glancesIn 36 = .ok (.iload_n 1, 1) := by decide +kernel
theorem dX9_glancesIn_37 : decode cX9_glancesIn 37 = .ok (.bipush 6, 2) := by decide +kernel
theorem dX9_glancesIn_39 : decode cX9_glancesIn 39 = .ok (.if_icmp .ne 21, 3) := by decide +kernel
theorem dX9_glancesIn_42 : decode cX9_glancesIn 42 = .ok (.aload_n 0, 1) := by decide +kernel
theorem dX9_glancesIn_43 : decode cX9_glancesIn 43 = .ok (.bipush 70, 2) := by decide +kernel
theorem dX9_glancesIn_45 : decode cX9_glancesIn 45 = .ok (.invokevirtual 237, 3) := by decide +kernel
theorem dX9_glancesIn_48 : decode cX9_glancesIn 48 = .ok (.aload_n 0, 1) := by decide +kernel
theorem dX9_glancesIn_49 : decode cX9_glancesIn 49 = .ok (.iconst 3, 1) := by decide +kernel
theorem dX9_glancesIn_50 : decode cX9_glancesIn 50 = .ok (.iload_n 2, 1) := by decide +kernel
theorem dX9_glancesIn_51 : decode cX9_glancesIn 51 = .ok (.invokevirtual 249, 3) := by decide +kernel
theorem dX9_glancesIn_54 : decode cX9_glancesIn 54 = .ok (.aload_n 0, 1) := by decide +kernel
theorem dX9_glancesIn_55 : decode cX9_glancesIn 55 = .ok (.getfield 240, 3) := by decide +kernel
theorem dX9_glancesIn_58 : decode cX9_glancesIn 58 = .ok (.ixor, 1) := by decide +kernel
theorem dX9_glancesIn_59 : decode cX9_glancesIn 59 = .ok (.ireturn, 1) := by decide +kernel
theorem dX9_glancesIn_60 : decode cX9_glancesIn 60 = .ok (.aload_n 0, 1) := by decide +kernel
theorem dX9_glancesIn_61 : decode cX9_glancesIn 61 = .ok (.iload_n 1, 1) := by decide +kernel
theorem dX9_glancesIn_62 : decode cX9_glancesIn 62 = .ok (.invokestatic 106, 3) := by decide +kernel
theorem dX9_glancesIn_65 : decode cX9_glancesIn 65 = .ok (.iload_n 2, 1) := by decide +kernel
theorem dX9_glancesIn_66 : decode cX9_glancesIn 66 = .ok (.invokevirtual 249, 3) := by decide +kernel
theorem dX9_glancesIn_69 : decode cX9_glancesIn 69 = .ok (.ireturn, 1) := by decide +kernel
set_option maxRecDepth 20000 in
theorem ggX9_addsIn_X9_ran : GoodIn wsX9_addsIn wsX9_ran := goodIn_r _ [6, 7, 8, 25, 26, 27, 28, 29, 30, 31, 32, 33, 34, 35, 36, 37, 38, 39, 40, 41, 42, 43, 44, 45, 46, 47, 48, 49, 50, 51, 52] (by decide +kernel) (by decide +kernel)
set_option maxRecDepth 20000 in
theorem gX9_addsIn_X9_ran : GoodIn wsX9_addsIn (wsV RX9 237 RX9 yX9_ran wsX9_ran) := goodIn_app (goodIn_of _ (by decide +kernel)) ggX9_addsIn_X9_ran
set_option maxRecDepth 20000 in
theorem ggX9_addsIn_X9_looksIn : GoodIn wsX9_addsIn wsX9_looksIn := goodIn_r _ [12, 13, 2, 3, 4, 5, 6, 7, 8, 9, 10, 11, 14, 15, 16, 25, 26, 27, 28, 29, 30, 31, 32, 33, 34, 35, 36, 37, 38, 39, 40, 41, 42, 43, 44, 45, 46, 47, 48, 49, 50, 51, 52] (by decide +kernel) (by decide +kernel)
set_option maxRecDepth 20000 in
theorem gX9_addsIn_X9_looksIn : GoodIn wsX9_addsIn (wsV RX9 243 RX9 yX9_looksIn wsX9_looksIn) := goodIn_app (goodIn_of _ (by decide +kernel)) ggX9_addsIn_X9_looksIn
set_option maxRecDepth 20000 in
theorem ggX9_addsIn_X9_addsIn : GoodIn wsX9_addsIn wsX9_addsIn := goodIn_r _ [0, 1, 2, 3, 4, 5, 6, 7, 8, 9, 10, 11, 12, 13, 14, 15, 16, 17, 18, 19, 20, 21, 22, 23, 24, 25, 26, 27, 28, 29, 30, 31, 32, 33, 34, 35, 36, 37, 38, 39, 40, 41, 42, 43, 44, 45, 46, 47, 48, 49, 50, 51, 52] (by decide +kernel) (by decide +kernel)
set_option maxRecDepth 20000 in
theorem gX9_addsIn_X9_addsIn : GoodIn wsX9_addsIn (wsV RX9 255 RX9 yX9_addsIn wsX9_addsIn) := goodIn_app (goodIn_of _ (by decide +kernel)) ggX9_addsIn_X9_addsIn
set_option maxRecDepth 20000 in
theorem ggX9_addsIn_X9_glancesIn : GoodIn wsX9_addsIn wsX9_glancesIn := goodIn_r _ [23, 24, 13, 2, 3, 4, 5, 6, 7, 8, 20, 21, 22, 14, 15, 16, 25, 26, 27, 28, 29, 30, 31, 32, 33, 34, 35, 36, 37, 38, 39, 40, 41, 42, 43, 44, 45, 46, 47, 48, 49, 50, 51, 52] (by decide +kernel) (by decide +kernel)
set_option maxRecDepth 20000 in
theorem gX9_addsIn_X9_glancesIn : GoodIn wsX9_addsIn (wsV RX9 249 RX9 yX9_glancesIn wsX9_glancesIn) := goodIn_app (goodIn_of _ (by decide +kernel)) ggX9_addsIn_X9_glancesIn
set_option maxRecDepth 20000 in
theorem ggX9_addsIn_X9_above : GoodIn wsX9_addsIn wsX9_above := goodIn_r _ [16] (by decide +kernel) (by decide +kernel)
set_option maxRecDepth 20000 in
theorem gX9_addsIn_X9_above : GoodIn wsX9_addsIn (va_wsS RX9 106 yX9_above wsX9_above) := goodIn_app (goodIn_of _ (by decide +kernel)) ggX9_addsIn_X9_above
theorem dX9_addsIn_0 : decode cX9_addsIn 0 = .ok (.iload_n 1, 1) := by decide +kernel
theorem dX9_addsIn_1 : decode cX9_addsIn 1 = .ok (.ifCond .ne 21, 3) := by decide +kernel
theorem dX9_addsIn_4 : decode cX9_addsIn 4 = .ok (.aload_n 0, 1) := by decide +kernel
theorem dX9_addsIn_5 : decode cX9_addsIn 5 = .ok (.bipush 11, 2) := by decide +kernel
theorem dX9_addsIn_7 : decode cX9_addsIn 7 = .ok (.invokevirtual 237, 3) := by decide +kernel
theorem dX9_addsIn_10 : decode cX9_addsIn 10 = .ok (.aload_n 0, 1) := by decide +kernel
theorem dX9_addsIn_11 : decode cX9_addsIn 11 = .ok (.aload_n 0, 1) := by decide +kernel
theorem dX9_addsIn_12 : decode cX9_addsIn 12 = .ok (.getfield 252, 3) := by decide +kernel
theorem dX9_addsIn_15 : decode cX9_addsIn 15 = .ok (.iload_n 2, 1) := by decide +kernel
theorem dX9_addsIn_16 : decode cX9_addsIn 16 = .ok (.invokevirtual 243, 3) := by decide +kernel
theorem dX9_addsIn_19 : decode cX9_addsIn 19 = .ok (.iconst 2, 1) := by decide +kernel
theorem dX9_addsIn_20 : decode cX9_addsIn 20 = .ok (.imul, 1) := by decide +kernel
theorem dX9_addsIn_21 : decode cX9_addsIn 21 = .ok (.ireturn, 1) := by decide +kernel
theorem dX9_addsIn_22 : decode cX9_addsIn 22 = .ok (.iload_n 1, 1) := by decide +kernel
theorem dX9_addsIn_23 : decode cX9_addsIn 23 = .ok (.iconst 2, 1) := by decide +kernel
theorem dX9_addsIn_24 : decode cX9_addsIn 24 = .ok (.if_icmp .ne 28, 3) := by decide +kernel
theorem dX9_addsIn_27 : decode cX9_addsIn 27 = .ok (.aload_n 0, 1) := by decide +kernel
theorem dX9_addsIn_28 : decode cX9_addsIn 28 = .ok (.bipush 30, 2) := by decide +kernel
theorem dX9_addsIn_30 : decode cX9_addsIn 30 = .ok (.invokevirtual 237, 3) := by decide +kernel
theorem dX9_addsIn_33 : decode cX9_addsIn 33 = .ok (.aload_n 0, 1) := by decide +kernel
theorem dX9_addsIn_34 : decode cX9_addsIn 34 = .ok (.iconst 0, 1) := by decide +kernel
theorem dX9_addsIn_35 : decode cX9_addsIn 35 = .ok (.iload_n 2, 1) := by decide +kernel
theorem dX9_addsIn_36 : decode cX9_addsIn 36 = .ok (.invokevirtual 255, 3) := by decide +kernel
theorem dX9_addsIn_39 : decode cX9_addsIn 39 = .ok (.istore_n 3, 1) := by decide +kernel
theorem dX9_addsIn_40 : decode cX9_addsIn 40 = .ok (.iload_n 3, 1) := by decide +kernel
theorem dX9_addsIn_41 : decode cX9_addsIn 41 = .ok (.aload_n 0, 1) := by decide +kernel
theorem dX9_addsIn_42 : decode cX9_addsIn 42 = .ok (.aload_n 0, 1) := by decide +kernel
theorem dX9_addsIn_43 : decode cX9_addsIn 43 = .ok (.getfield 252, 3) := by decide +kernel
theorem dX9_addsIn_46 : decode cX9_addsIn 46 = .ok (.iconst 1, 1) := by decide +kernel
theorem dX9_addsIn_47 : decode cX9_addsIn 47 = .ok (.invokevirtual 249, 3) := by decide +kernel
theorem dX9_addsIn_50 : decode cX9_addsIn 50 = .ok (.isub, 1) := by decide +kernel
theorem dX9_addsIn_51 : decode cX9_addsIn 51 = .ok (.ireturn, 1) := by decide +kernel
theorem dX9_addsIn_52 : decode cX9_addsIn 52 = .ok (.iload_n 1, 1) := by decide +kernel
theorem dX9_addsIn_53 : decode cX9_addsIn 53 = .ok (.iconst 5, 1) := by decide +kernel
theorem dX9_addsIn_54 : decode cX9_addsIn 54 = .ok (.if_icmp .ne 18, 3) := by decide +kernel
theorem dX9_addsIn_57 : decode cX9_addsIn 57 = .ok (.aload_n 0, 1) := by decide +kernel
theorem dX9_addsIn_58 : decode cX9_addsIn 58 = .ok (.bipush 60, 2) := by decide +kernel
theorem dX9_addsIn_60 : decode cX9_addsIn 60 = .ok (.invokevirtual 237, 3) := by decide +kernel
theorem dX9_addsIn_63 : decode cX9_addsIn 63 = .ok (.aload_n 0, 1) := by decide +kernel
theorem dX9_addsIn_64 : decode cX9_addsIn 64 = .ok (.iconst 2, 1) := by decide +kernel
theorem dX9_addsIn_65 : decode cX9_addsIn 65 = .ok (.iload_n 2, 1) := by decide +kernel
theorem dX9_addsIn_66 : decode cX9_addsIn 66 = .ok (.iconst 1, 1) := by decide +kernel
theorem dX9_addsIn_67 : decode cX9_addsIn 67 = .ok (.iadd, 1) := by decide +kernel
theorem dX9_addsIn_68 : decode cX9_addsIn 68 = .ok (.invokevirtual 255, 3) := by decide +kernel
theorem dX9_addsIn_71 : decode cX9_addsIn 71 = .ok (.ireturn, 1) := by decide +kernel
theorem dX9_addsIn_72 : decode cX9_addsIn 72 = .ok (.aload_n 0, 1) := by decide +kernel
theorem dX9_addsIn_73 : decode cX9_addsIn 73 = .ok (.iload_n 1, 1) := by decide +kernel
theorem dX9_addsIn_74 : decode cX9_addsIn 74 = .ok (.invokestatic 106, 3) := by decide +kernel
theorem dX9_addsIn_77 : decode cX9_addsIn 77 = .ok (.iload_n 2, 1) := by decide +kernel
theorem dX9_addsIn_78 : decode cX9_addsIn 78 = .ok (.invokevirtual 255, 3) := by decide +kernel
theorem dX9_addsIn_81 : decode cX9_addsIn 81 = .ok (.ireturn, 1) := by decide +kernel
set_option maxRecDepth 20000 in
theorem ggX9_provesIn_X9_ran : GoodIn wsX9_provesIn wsX9_ran := goodIn_r _ [6, 7, 8, 29, 30, 31, 32, 33, 34, 35, 36, 37, 38, 39, 40, 41, 42, 43, 44, 45, 46, 47, 48, 49, 50, 51, 52, 53, 54, 55, 56] (by decide +kernel) (by decide +kernel)
set_option maxRecDepth 20000 in
theorem gX9_provesIn_X9_ran : GoodIn wsX9_provesIn (wsV RX9 237 RX9 yX9_ran wsX9_ran) := goodIn_app (goodIn_of _ (by decide +kernel)) ggX9_provesIn_X9_ran
set_option maxRecDepth 20000 in
theorem ggX9_provesIn_X9_addsIn : GoodIn wsX9_provesIn wsX9_addsIn := goodIn_r _ [12, 1, 2, 3, 4, 5, 6, 7, 8, 13, 14, 15, 16, 17, 18, 19, 20, 9, 10, 11, 21, 22, 23, 24, 25, 29, 30, 31, 32, 33, 34, 35, 36, 37, 38, 39, 40, 41, 42, 43, 44, 45, 46, 47, 48, 49, 50, 51, 52, 53, 54, 55, 56] (by decide +kernel) (by decide +kernel)
set_option maxRecDepth 20000 in
theorem gX9_provesIn_X9_addsIn : GoodIn wsX9_provesIn (wsV RX9 255 RX9 yX9_addsIn wsX9_addsIn) := goodIn_app (goodIn_of _ (by decide +kernel)) ggX9_provesIn_X9_addsIn
set_option maxRecDepth 20000 in
theorem ggX9_provesIn_X9_glancesIn : GoodIn wsX9_provesIn wsX9_glancesIn := goodIn_r _ [24, 25, 17, 2, 3, 4, 5, 6, 7, 8, 21, 22, 23, 18, 19, 20, 29, 30, 31, 32, 33, 34, 35, 36, 37, 38, 39, 40, 41, 42, 43, 44, 45, 46, 47, 48, 49, 50, 51, 52, 53, 54, 55, 56] (by decide +kernel) (by decide +kernel)
set_option maxRecDepth 20000 in
theorem gX9_provesIn_X9_glancesIn : GoodIn wsX9_provesIn (wsV RX9 249 RX9 yX9_glancesIn wsX9_glancesIn) := goodIn_app (goodIn_of _ (by decide +kernel)) ggX9_provesIn_X9_glancesIn
set_option maxRecDepth 20000 in
theorem ggX9_provesIn_X9_provesIn : GoodIn wsX9_provesIn wsX9_provesIn := goodIn_r _ [0, 1, 2, 3, 4, 5, 6, 7, 8, 9, 10, 11, 12, 13, 14, 15, 16, 17, 18, 19, 20, 21, 22, 23, 24, 25, 26, 27, 28, 29, 30, 31, 32, 33, 34, 35, 36, 37, 38, 39, 40, 41, 42, 43, 44, 45, 46, 47, 48, 49, 50, 51, 52, 53, 54, 55, 56] (by decide +kernel) (by decide +kernel)
set_option maxRecDepth 20000 in
theorem gX9_provesIn_X9_provesIn : GoodIn wsX9_provesIn (wsV RX9 258 RX9 yX9_provesIn wsX9_provesIn) := goodIn_app (goodIn_of _ (by decide +kernel)) ggX9_provesIn_X9_provesIn
set_option maxRecDepth 20000 in
theorem ggX9_provesIn_X9_looksIn : GoodIn wsX9_provesIn wsX9_looksIn := goodIn_r _ [16, 17, 2, 3, 4, 5, 6, 7, 8, 13, 14, 15, 18, 19, 20, 29, 30, 31, 32, 33, 34, 35, 36, 37, 38, 39, 40, 41, 42, 43, 44, 45, 46, 47, 48, 49, 50, 51, 52, 53, 54, 55, 56] (by decide +kernel) (by decide +kernel)
set_option maxRecDepth 20000 in
theorem gX9_provesIn_X9_looksIn : GoodIn wsX9_provesIn (wsV RX9 243 RX9 yX9_looksIn wsX9_looksIn) := goodIn_app (goodIn_of _ (by decide +kernel)) ggX9_provesIn_X9_looksIn
set_option maxRecDepth 20000 in
theorem ggX9_provesIn_X9_above : GoodIn wsX9_provesIn wsX9_above := goodIn_r _ [20] (by decide +kernel) (by decide +kernel)
set_option maxRecDepth 20000 in
theorem gX9_provesIn_X9_above : GoodIn wsX9_provesIn (va_wsS RX9 106 yX9_above wsX9_above) := goodIn_app (goodIn_of _ (by decide +kernel)) ggX9_provesIn_X9_above
theorem dX9_provesIn_0 : decode cX9_provesIn 0 = .ok (.iload_n 1, 1) := by decide +kernel
theorem dX9_provesIn_1 : decode cX9_provesIn 1 = .ok (.ifCond .ne 31, 3) := by decide +kernel
theorem dX9_provesIn_4 : decode cX9_provesIn 4 = .ok (.aload_n 0, 1) := by decide +kernel
theorem dX9_provesIn_5 : decode cX9_provesIn 5 = .ok (.bipush 13, 2) := by decide +kernel
theorem dX9_provesIn_7 : decode cX9_provesIn 7 = .ok (.invokevirtual 237, 3) := by decide +kernel
theorem dX9_provesIn_10 : decode cX9_provesIn 10 = .ok (.aload_n 0, 1) := by decide +kernel
theorem dX9_provesIn_11 : decode cX9_provesIn 11 = .ok (.aload_n 0, 1) := by decide +kernel
theorem dX9_provesIn_12 : decode cX9_provesIn 12 = .ok (.getfield 252, 3) := by decide +kernel
theorem dX9_provesIn_15 : decode cX9_provesIn 15 = .ok (.iload_n 2, 1) := by decide +kernel
theorem dX9_provesIn_16 : decode cX9_provesIn 16 = .ok (.invokevirtual 255, 3) := by decide +kernel
theorem dX9_provesIn_19 : decode cX9_provesIn 19 = .ok (.istore_n 3, 1) := by decide +kernel
theorem dX9_provesIn_20 : decode cX9_provesIn 20 = .ok (.iload_n 3, 1) := by decide +kernel
theorem dX9_provesIn_21 : decode cX9_provesIn 21 = .ok (.aload_n 0, 1) := by decide +kernel
theorem dX9_provesIn_22 : decode cX9_provesIn 22 = .ok (.aload_n 0, 1) := by decide +kernel
theorem dX9_provesIn_23 : decode cX9_provesIn 23 = .ok (.getfield 252, 3) := by decide +kernel
theorem dX9_provesIn_26 : decode cX9_provesIn 26 = .ok (.iload_n 2, 1) := by decide +kernel
theorem dX9_provesIn_27 : decode cX9_provesIn 27 = .ok (.invokevirtual 249, 3) := by decide +kernel
theorem dX9_provesIn_30 : decode cX9_provesIn 30 = .ok (.ixor, 1) := by decide +kernel
theorem dX9_provesIn_31 : decode cX9_provesIn 31 = .ok (.ireturn, 1) := by decide +kernel
theorem dX9_provesIn_32 : decode cX9_provesIn 32 = .ok (.iload_n 1, 1) := by decide +kernel
theorem dX9_provesIn_33 : decode cX9_provesIn 33 = .ok (.iconst 4, 1) := by decide +kernel
theorem dX9_provesIn_34 : decode cX9_provesIn 34 = .ok (.if_icmp .ne 28, 3) := by decide +kernel
theorem dX9_provesIn_37 : decode cX9_provesIn 37 = .ok (.aload_n 0, 1) := by decide +kernel
theorem dX9_provesIn_38 : decode cX9_provesIn 38 = .ok (.bipush 50, 2) := by decide +kernel
theorem dX9_provesIn_40 : decode cX9_provesIn 40 = .ok (.invokevirtual 237, 3) := by decide +kernel
theorem dX9_provesIn_43 : decode cX9_provesIn 43 = .ok (.aload_n 0, 1) := by decide +kernel
theorem dX9_provesIn_44 : decode cX9_provesIn 44 = .ok (.iconst 1, 1) := by decide +kernel
theorem dX9_provesIn_45 : decode cX9_provesIn 45 = .ok (.iload_n 2, 1) := by decide +kernel
theorem dX9_provesIn_46 : decode cX9_provesIn 46 = .ok (.invokevirtual 258, 3) := by decide +kernel
theorem dX9_provesIn_49 : decode cX9_provesIn 49 = .ok (.istore_n 3, 1) := by decide +kernel
theorem dX9_provesIn_50 : decode cX9_provesIn 50 = .ok (.iload_n 3, 1) := by decide +kernel
theorem dX9_provesIn_51 : decode cX9_provesIn 51 = .ok (.aload_n 0, 1) := by decide +kernel
theorem dX9_provesIn_52 : decode cX9_provesIn 52 = .ok (.aload_n 0, 1) := by decide +kernel
theorem dX9_provesIn_53 : decode cX9_provesIn 53 = .ok (.getfield 252, 3) := by decide +kernel
theorem dX9_provesIn_56 : decode cX9_provesIn 56 = .ok (.iconst 2, 1) := by decide +kernel
theorem dX9_provesIn_57 : decode cX9_provesIn 57 = .ok (.invokevirtual 243, 3) := by decide +kernel
theorem dX9_provesIn_60 : decode cX9_provesIn 60 = .ok (.isub, 1) := by decide +kernel
theorem dX9_provesIn_61 : decode cX9_provesIn 61 = .ok (.ireturn, 1) := by decide +kernel
theorem dX9_provesIn_62 : decode cX9_provesIn 62 = .ok (.iload_n 1, 1) := by decide +kernel
theorem dX9_provesIn_63 : decode cX9_provesIn 63 = .ok (.bipush 6, 2) := by decide +kernel
theorem dX9_provesIn_65 : decode cX9_provesIn 65 = .ok (.if_icmp .ne 28, 3) := by decide +kernel
theorem dX9_provesIn_68 : decode cX9_provesIn 68 = .ok (.aload_n 0, 1) := by decide +kernel
theorem dX9_provesIn_69 : decode cX9_provesIn 69 = .ok (.bipush 71, 2) := by decide +kernel
theorem dX9_provesIn_71 : decode cX9_provesIn 71 = .ok (.invokevirtual 237, 3) := by decide +kernel
theorem dX9_provesIn_74 : decode cX9_provesIn 74 = .ok (.aload_n 0, 1) := by decide +kernel
theorem dX9_provesIn_75 : decode cX9_provesIn 75 = .ok (.aload_n 0, 1) := by decide +kernel
theorem dX9_provesIn_76 : decode cX9_provesIn 76 = .ok (.getfield 252, 3) := by decide +kernel
theorem dX9_provesIn_79 : decode cX9_provesIn 79 = .ok (.iload_n 2, 1) := by decide +kernel
theorem dX9_provesIn_80 : decode cX9_provesIn 80 = .ok (.invokevirtual 255, 3) := by decide +kernel
theorem dX9_provesIn_83 : decode cX9_provesIn 83 = .ok (.istore_n 3, 1) := by decide +kernel
theorem dX9_provesIn_84 : decode cX9_provesIn 84 = .ok (.iload_n 3, 1) := by decide +kernel
theorem dX9_provesIn_85 : decode cX9_provesIn 85 = .ok (.aload_n 0, 1) := by decide +kernel
theorem dX9_provesIn_86 : decode cX9_provesIn 86 = .ok (.iconst 3, 1) := by decide +kernel
theorem dX9_provesIn_87 : decode cX9_provesIn 87 = .ok (.iload_n 2, 1) := by decide +kernel
theorem dX9_provesIn_88 : decode cX9_provesIn 88 = .ok (.invokevirtual 258, 3) := by decide +kernel
theorem dX9_provesIn_91 : decode cX9_provesIn 91 = .ok (.isub, 1) := by decide +kernel
theorem dX9_provesIn_92 : decode cX9_provesIn 92 = .ok (.ireturn, 1) := by decide +kernel
theorem dX9_provesIn_93 : decode cX9_provesIn 93 = .ok (.aload_n 0, 1) := by decide +kernel
theorem dX9_provesIn_94 : decode cX9_provesIn 94 = .ok (.iload_n 1, 1) := by decide +kernel
theorem dX9_provesIn_95 : decode cX9_provesIn 95 = .ok (.invokestatic 106, 3) := by decide +kernel
theorem dX9_provesIn_98 : decode cX9_provesIn 98 = .ok (.iload_n 2, 1) := by decide +kernel
theorem dX9_provesIn_99 : decode cX9_provesIn 99 = .ok (.invokevirtual 258, 3) := by decide +kernel
theorem dX9_provesIn_102 : decode cX9_provesIn 102 = .ok (.ireturn, 1) := by decide +kernel
set_option maxRecDepth 20000 in
theorem ggX9_voice_X9_isPerson : GoodIn wsX9_voice wsX9_isPerson := goodIn_r _ [10, 11, 12, 13, 9, 14, 49, 50, 51, 52, 53, 54, 55, 56, 57, 58, 59, 60, 61, 62, 63, 64, 65, 66, 67, 68, 69, 70, 71, 72, 73, 74, 75, 76] (by decide +kernel) (by decide +kernel)
set_option maxRecDepth 20000 in
theorem gX9_voice_X9_isPerson : GoodIn wsX9_voice (wsV RX9 94 RX9 yX9_isPerson wsX9_isPerson) := goodIn_app (goodIn_of _ (by decide +kernel)) ggX9_voice_X9_isPerson
set_option maxRecDepth 20000 in
theorem ggX9_voice_X9_in : GoodIn wsX9_voice wsX9_in := goodIn_r _ [14] (by decide +kernel) (by decide +kernel)
set_option maxRecDepth 20000 in
theorem gX9_voice_X9_in : GoodIn wsX9_voice (va_wsS RX9 54 yX9_in wsX9_in) := goodIn_app (goodIn_of _ (by decide +kernel)) ggX9_voice_X9_in
set_option maxRecDepth 20000 in
theorem ggX9_voice_X9_errs : GoodIn wsX9_voice wsX9_errs := goodIn_r _ [18, 19, 20, 49, 50, 51, 52, 53, 54, 55, 56, 57, 58, 59, 60, 61, 62, 63, 64, 65, 66, 67, 68, 69, 70, 71, 72, 73, 74, 75, 76] (by decide +kernel) (by decide +kernel)
set_option maxRecDepth 20000 in
theorem gX9_voice_X9_errs : GoodIn wsX9_voice (wsV RX9 59 RX9 yX9_errs wsX9_errs) := goodIn_app (goodIn_of _ (by decide +kernel)) ggX9_voice_X9_errs
set_option maxRecDepth 20000 in
theorem ggX9_voice_X9_its : GoodIn wsX9_voice wsX9_its := goodIn_r _ [24, 11, 49, 50, 51, 52, 53, 54, 55, 56, 57, 58, 59, 60, 61, 62, 63, 64, 65, 66, 67, 68, 69, 70, 71, 72, 73, 74, 75, 76] (by decide +kernel) (by decide +kernel)
set_option maxRecDepth 20000 in
theorem gX9_voice_X9_its : GoodIn wsX9_voice (wsV RX9 80 RX9 yX9_its wsX9_its) := goodIn_app (goodIn_of _ (by decide +kernel)) ggX9_voice_X9_its
set_option maxRecDepth 20000 in
theorem ggX9_voice_X9_looksIn : GoodIn wsX9_voice wsX9_looksIn := goodIn_r _ [28, 4, 29, 30, 31, 9, 32, 2, 33, 25, 26, 27, 34, 35, 36, 49, 50, 51, 52, 53, 54, 55, 56, 57, 58, 59, 60, 61, 62, 63, 64, 65, 66, 67, 68, 69, 70, 71, 72, 73, 74, 75, 76] (by decide +kernel) (by decide +kernel)
set_option maxRecDepth 20000 in
theorem gX9_voice_X9_looksIn : GoodIn wsX9_voice (wsV RX9 243 RX9 yX9_looksIn wsX9_looksIn) := goodIn_app (goodIn_of _ (by decide +kernel)) ggX9_voice_X9_looksIn
set_option maxRecDepth 20000 in
theorem ggX9_voice_X9_addsIn : GoodIn wsX9_voice wsX9_addsIn := goodIn_r _ [40, 3, 29, 30, 31, 9, 32, 2, 33, 25, 26, 27, 28, 4, 34, 35, 36, 37, 38, 39, 41, 42, 43, 44, 5, 49, 50, 51, 52, 53, 54, 55, 56, 57, 58, 59, 60, 61, 62, 63, 64, 65, 66, 67, 68, 69, 70, 71, 72, 73, 74, 75, 76] (by decide +kernel) (by decide +kernel)
set_option maxRecDepth 20000 in
theorem gX9_voice_X9_addsIn : GoodIn wsX9_voice (wsV RX9 255 RX9 yX9_addsIn wsX9_addsIn) := goodIn_app (goodIn_of _ (by decide +kernel)) ggX9_voice_X9_addsIn
set_option maxRecDepth 20000 in
theorem ggX9_voice_X9_glancesIn : GoodIn wsX9_voice wsX9_glancesIn := goodIn_r _ [44, 5, 4, 29, 30, 31, 9, 32, 2, 33, 41, 42, 43, 34, 35, 36, 49, 50, 51, 52, 53, 54, 55, 56, 57, 58, 59, 60, 61, 62, 63, 64, 65, 66, 67, 68, 69, 70, 71, 72, 73, 74, 75, 76] (by decide +kernel) (by decide +kernel)
set_option maxRecDepth 20000 in
theorem gX9_voice_X9_glancesIn : GoodIn wsX9_voice (wsV RX9 249 RX9 yX9_glancesIn wsX9_glancesIn) := goodIn_app (goodIn_of _ (by decide +kernel)) ggX9_voice_X9_glancesIn
set_option maxRecDepth 20000 in
theorem ggX9_voice_X9_provesIn : GoodIn wsX9_voice wsX9_provesIn := goodIn_r _ [48, 3, 29, 30, 31, 9, 32, 2, 33, 37, 38, 39, 40, 25, 26, 27, 28, 4, 34, 35, 36, 41, 42, 43, 44, 5, 45, 46, 47, 49, 50, 51, 52, 53, 54, 55, 56, 57, 58, 59, 60, 61, 62, 63, 64, 65, 66, 67, 68, 69, 70, 71, 72, 73, 74, 75, 76] (by decide +kernel) (by decide +kernel)
set_option maxRecDepth 20000 in
theorem gX9_voice_X9_provesIn : GoodIn wsX9_voice (wsV RX9 258 RX9 yX9_provesIn wsX9_provesIn) := goodIn_app (goodIn_of _ (by decide +kernel)) ggX9_voice_X9_provesIn
theorem dX9_voice_0 : decode cX9_voice 0 = .ok (.aload_n 0, 1) := by decide +kernel
theorem dX9_voice_1 : decode cX9_voice 1 = .ok (.iload_n 1, 1) := by decide +kernel
theorem dX9_voice_2 : decode cX9_voice 2 = .ok (.invokevirtual 94, 3) := by decide +kernel
theorem dX9_voice_5 : decode cX9_voice 5 = .ok (.ifCond .eq 12, 3) := by decide +kernel
theorem dX9_voice_8 : decode cX9_voice 8 = .ok (.iload_n 2, 1) := by decide +kernel
theorem dX9_voice_9 : decode cX9_voice 9 = .ok (.iconst 0, 1) := by decide +kernel
theorem dX9_voice_10 : decode cX9_voice 10 = .ok (.iconst 3, 1) := by decide +kernel
theorem dX9_voice_11 : decode cX9_voice 11 = .ok (.invokestatic 54, 3) := by decide +kernel
theorem dX9_voice_14 : decode cX9_voice 14 = .ok (.ifCond .ne 10, 3) := by decide +kernel
theorem dX9_voice_17 : decode cX9_voice 17 = .ok (.aload_n 0, 1) := by decide +kernel
theorem dX9_voice_18 : decode cX9_voice 18 = .ok (.ldc 58, 2) := by decide +kernel
theorem dX9_voice_20 : decode cX9_voice 20 = .ok (.invokevirtual 59, 3) := by decide +kernel
theorem dX9_voice_23 : decode cX9_voice 23 = .ok (.ireturn, 1) := by decide +kernel
theorem dX9_voice_24 : decode cX9_voice 24 = .ok (.aload_n 0, 1) := by decide +kernel
theorem dX9_voice_25 : decode cX9_voice 25 = .ok (.iconst 0, 1) := by decide +kernel
theorem dX9_voice_26 : decode cX9_voice 26 = .ok (.putfield 234, 3) := by decide +kernel
theorem dX9_voice_29 : decode cX9_voice 29 = .ok (.aload_n 0, 1) := by decide +kernel
theorem dX9_voice_30 : decode cX9_voice 30 = .ok (.aload_n 0, 1) := by decide +kernel
theorem dX9_voice_31 : decode cX9_voice 31 = .ok (.iload_n 1, 1) := by decide +kernel
theorem dX9_voice_32 : decode cX9_voice 32 = .ok (.iconst 0, 1) := by decide +kernel
theorem dX9_voice_33 : decode cX9_voice 33 = .ok (.invokevirtual 80, 3) := by decide +kernel
theorem dX9_voice_36 : decode cX9_voice 36 = .ok (.putfield 252, 3) := by decide +kernel
theorem dX9_voice_39 : decode cX9_voice 39 = .ok (.aload_n 0, 1) := by decide +kernel
theorem dX9_voice_40 : decode cX9_voice 40 = .ok (.iload_n 1, 1) := by decide +kernel
theorem dX9_voice_41 : decode cX9_voice 41 = .ok (.putfield 240, 3) := by decide +kernel
theorem dX9_voice_44 : decode cX9_voice 44 = .ok (.aload_n 0, 1) := by decide +kernel
theorem dX9_voice_45 : decode cX9_voice 45 = .ok (.aload_n 0, 1) := by decide +kernel
theorem dX9_voice_46 : decode cX9_voice 46 = .ok (.iload_n 1, 1) := by decide +kernel
theorem dX9_voice_47 : decode cX9_voice 47 = .ok (.iconst 1, 1) := by decide +kernel
theorem dX9_voice_48 : decode cX9_voice 48 = .ok (.invokevirtual 80, 3) := by decide +kernel
theorem dX9_voice_51 : decode cX9_voice 51 = .ok (.putfield 246, 3) := by decide +kernel
theorem dX9_voice_54 : decode cX9_voice 54 = .ok (.iload_n 2, 1) := by decide +kernel
theorem dX9_voice_55 : decode cX9_voice 55 = .ok (.tableswitch 55 0 2 #[25, 35, 45], 25) := by decide +kernel
theorem dX9_voice_80 : decode cX9_voice 80 = .ok (.aload_n 0, 1) := by decide +kernel
theorem dX9_voice_81 : decode cX9_voice 81 = .ok (.aload_n 0, 1) := by decide +kernel
theorem dX9_voice_82 : decode cX9_voice 82 = .ok (.getfield 252, 3) := by decide +kernel
theorem dX9_voice_85 : decode cX9_voice 85 = .ok (.iload_n 3, 1) := by decide +kernel
theorem dX9_voice_86 : decode cX9_voice 86 = .ok (.invokevirtual 243, 3) := by decide +kernel
theorem dX9_voice_89 : decode cX9_voice 89 = .ok (.ireturn, 1) := by decide +kernel
theorem dX9_voice_90 : decode cX9_voice 90 = .ok (.aload_n 0, 1) := by decide +kernel
theorem dX9_voice_91 : decode cX9_voice 91 = .ok (.aload_n 0, 1) := by decide +kernel
theorem dX9_voice_92 : decode cX9_voice 92 = .ok (.getfield 252, 3) := by decide +kernel
theorem dX9_voice_95 : decode cX9_voice 95 = .ok (.iload_n 3, 1) := by decide +kernel
theorem dX9_voice_96 : decode cX9_voice 96 = .ok (.invokevirtual 255, 3) := by decide +kernel
theorem dX9_voice_99 : decode cX9_voice 99 = .ok (.ireturn, 1) := by decide +kernel
theorem dX9_voice_100 : decode cX9_voice 100 = .ok (.aload_n 0, 1) := by decide +kernel
theorem dX9_voice_101 : decode cX9_voice 101 = .ok (.aload_n 0, 1) := by decide +kernel
theorem dX9_voice_102 : decode cX9_voice 102 = .ok (.getfield 252, 3) := by decide +kernel
theorem dX9_voice_105 : decode cX9_voice 105 = .ok (.iload_n 3, 1) := by decide +kernel
theorem dX9_voice_106 : decode cX9_voice 106 = .ok (.invokevirtual 249, 3) := by decide +kernel
theorem dX9_voice_109 : decode cX9_voice 109 = .ok (.ireturn, 1) := by decide +kernel
theorem dX9_voice_110 : decode cX9_voice 110 = .ok (.aload_n 0, 1) := by decide +kernel
theorem dX9_voice_111 : decode cX9_voice 111 = .ok (.aload_n 0, 1) := by decide +kernel
theorem dX9_voice_112 : decode cX9_voice 112 = .ok (.getfield 252, 3) := by decide +kernel
theorem dX9_voice_115 : decode cX9_voice 115 = .ok (.iload_n 3, 1) := by decide +kernel
theorem dX9_voice_116 : decode cX9_voice 116 = .ok (.invokevirtual 258, 3) := by decide +kernel
theorem dX9_voice_119 : decode cX9_voice 119 = .ok (.ireturn, 1) := by decide +kernel
set_option maxRecDepth 20000 in
theorem ggX9_trace_X9_in : GoodIn wsX9_trace wsX9_in := goodIn_r _ [7] (by decide +kernel) (by decide +kernel)
set_option maxRecDepth 20000 in
theorem gX9_trace_X9_in : GoodIn wsX9_trace (va_wsS RX9 54 yX9_in wsX9_in) := goodIn_app (goodIn_of _ (by decide +kernel)) ggX9_trace_X9_in
set_option maxRecDepth 20000 in
theorem ggX9_trace_X9_errs : GoodIn wsX9_trace wsX9_errs := goodIn_r _ [11, 12, 13, 14, 15, 16, 17, 18, 19, 20, 21, 22, 23, 24, 25, 26, 27, 28, 29, 30, 31, 32, 33, 34, 35, 36, 37, 38, 39, 40, 41] (by decide +kernel) (by decide +kernel)
set_option maxRecDepth 20000 in
theorem gX9_trace_X9_errs : GoodIn wsX9_trace (wsV RX9 59 RX9 yX9_errs wsX9_errs) := goodIn_app (goodIn_of _ (by decide +kernel)) ggX9_trace_X9_errs
theorem dX9_trace_0 : decode cX9_trace 0 = .ok (.iload_n 1, 1) := by decide +kernel
theorem dX9_trace_1 : decode cX9_trace 1 = .ok (.iconst 0, 1) := by decide +kernel
theorem dX9_trace_2 : decode cX9_trace 2 = .ok (.aload_n 0, 1) := by decide +kernel
theorem dX9_trace_3 : decode cX9_trace 3 = .ok (.getfield 234, 3) := by decide +kernel
theorem dX9_trace_6 : decode cX9_trace 6 = .ok (.iconst 1, 1) := by decide +kernel
theorem dX9_trace_7 : decode cX9_trace 7 = .ok (.isub, 1) := by decide +kernel
theorem dX9_trace_8 : decode cX9_trace 8 = .ok (.invokestatic 54, 3) := by decide +kernel
theorem dX9_trace_11 : decode cX9_trace 11 = .ok (.ifCond .eq 12, 3) := by decide +kernel
theorem dX9_trace_14 : decode cX9_trace 14 = .ok (.aload_n 0, 1) := by decide +kernel
theorem dX9_trace_15 : decode cX9_trace 15 = .ok (.getfield 50, 3) := by decide +kernel
theorem dX9_trace_18 : decode cX9_trace 18 = .ok (.iload_n 1, 1) := by decide +kernel
theorem dX9_trace_19 : decode cX9_trace 19 = .ok (.iaload, 1) := by decide +kernel
theorem dX9_trace_20 : decode cX9_trace 20 = .ok (.goto 9, 3) := by decide +kernel
theorem dX9_trace_23 : decode cX9_trace 23 = .ok (.aload_n 0, 1) := by decide +kernel
theorem dX9_trace_24 : decode cX9_trace 24 = .ok (.ldc 204, 2) := by decide +kernel
theorem dX9_trace_26 : decode cX9_trace 26 = .ok (.invokevirtual 59, 3) := by decide +kernel
theorem dX9_trace_29 : decode cX9_trace 29 = .ok (.ireturn, 1) := by decide +kernel
theorem dX9_narrow_0 : decode cX9_narrow 0 = .ok (.iload_n 0, 1) := by decide +kernel
theorem dX9_narrow_1 : decode cX9_narrow 1 = .ok (.bipush 8, 2) := by decide +kernel
theorem dX9_narrow_3 : decode cX9_narrow 3 = .ok (.if_icmp .ne 8, 3) := by decide +kernel
theorem dX9_narrow_6 : decode cX9_narrow 6 = .ok (.iload_n 1, 1) := by decide +kernel
theorem dX9_narrow_7 : decode cX9_narrow 7 = .ok (.i2b, 1) := by decide +kernel
theorem dX9_narrow_8 : decode cX9_narrow 8 = .ok (.goto 15, 3) := by decide +kernel
theorem dX9_narrow_11 : decode cX9_narrow 11 = .ok (.iload_n 0, 1) := by decide +kernel
theorem dX9_narrow_12 : decode cX9_narrow 12 = .ok (.bipush 16, 2) := by decide +kernel
theorem dX9_narrow_14 : decode cX9_narrow 14 = .ok (.if_icmp .ne 8, 3) := by decide +kernel
theorem dX9_narrow_17 : decode cX9_narrow 17 = .ok (.iload_n 1, 1) := by decide +kernel
theorem dX9_narrow_18 : decode cX9_narrow 18 = .ok (.i2s, 1) := by decide +kernel
theorem dX9_narrow_19 : decode cX9_narrow 19 = .ok (.goto 4, 3) := by decide +kernel
theorem dX9_narrow_22 : decode cX9_narrow 22 = .ok (.iload_n 1, 1) := by decide +kernel
theorem dX9_narrow_23 : decode cX9_narrow 23 = .ok (.ireturn, 1) := by decide +kernel
set_option maxRecDepth 20000 in
theorem ggX9_sheet_X9_isSheet : GoodIn wsX9_sheet wsX9_isSheet := goodIn_r _ [9, 10, 11, 8, 12] (by decide +kernel) (by decide +kernel)
set_option maxRecDepth 20000 in
theorem gX9_sheet_X9_isSheet : GoodIn wsX9_sheet (va_wsS RX9 219 yX9_isSheet wsX9_isSheet) := goodIn_app (goodIn_of _ (by decide +kernel)) ggX9_sheet_X9_isSheet
set_option maxRecDepth 20000 in
theorem ggX9_sheet_X9_errs : GoodIn wsX9_sheet wsX9_errs := goodIn_r _ [16, 17, 18, 19, 20, 21, 22, 23, 24, 25, 26, 27, 28, 29, 30, 31, 32, 33, 34, 35, 36, 37, 38, 39, 40, 41, 42, 43, 44, 45, 46] (by decide +kernel) (by decide +kernel)
set_option maxRecDepth 20000 in
theorem gX9_sheet_X9_errs : GoodIn wsX9_sheet (wsV RX9 59 RX9 yX9_errs wsX9_errs) := goodIn_app (goodIn_of _ (by decide +kernel)) ggX9_sheet_X9_errs
theorem dX9_sheet_0 : decode cX9_sheet 0 = .ok (.iload_n 1, 1) := by decide +kernel
theorem dX9_sheet_1 : decode cX9_sheet 1 = .ok (.invokestatic 219, 3) := by decide +kernel
theorem dX9_sheet_4 : decode cX9_sheet 4 = .ok (.ifCond .eq 25, 3) := by decide +kernel
theorem dX9_sheet_7 : decode cX9_sheet 7 = .ok (.iload_n 2, 1) := by decide +kernel
theorem dX9_sheet_8 : decode cX9_sheet 8 = .ok (.ifCond .eq 28, 3) := by decide +kernel
theorem dX9_sheet_11 : decode cX9_sheet 11 = .ok (.iload_n 2, 1) := by decide +kernel
theorem dX9_sheet_12 : decode cX9_sheet 12 = .ok (.bipush 8, 2) := by decide +kernel
theorem dX9_sheet_14 : decode cX9_sheet 14 = .ok (.if_icmp .eq 22, 3) := by decide +kernel
theorem dX9_sheet_17 : decode cX9_sheet 17 = .ok (.iload_n 2, 1) := by decide +kernel
theorem dX9_sheet_18 : decode cX9_sheet 18 = .ok (.bipush 16, 2) := by decide +kernel
theorem dX9_sheet_20 : decode cX9_sheet 20 = .ok (.if_icmp .eq 16, 3) := by decide +kernel
theorem dX9_sheet_23 : decode cX9_sheet 23 = .ok (.iload_n 2, 1) := by decide +kernel
theorem dX9_sheet_24 : decode cX9_sheet 24 = .ok (.bipush 32, 2) := by decide +kernel
theorem dX9_sheet_26 : decode cX9_sheet 26 = .ok (.if_icmp .eq 10, 3) := by decide +kernel
theorem dX9_sheet_29 : decode cX9_sheet 29 = .ok (.aload_n 0, 1) := by decide +kernel
theorem dX9_sheet_30 : decode cX9_sheet 30 = .ok (.ldc 58, 2) := by decide +kernel
theorem dX9_sheet_32 : decode cX9_sheet 32 = .ok (.invokevirtual 59, 3) := by decide +kernel
theorem dX9_sheet_35 : decode cX9_sheet 35 = .ok (.ireturn, 1) := by decide +kernel
theorem dX9_sheet_36 : decode cX9_sheet 36 = .ok (.iload_n 2, 1) := by decide +kernel
theorem dX9_sheet_37 : decode cX9_sheet 37 = .ok (.ifCond .eq 14, 3) := by decide +kernel
theorem dX9_sheet_40 : decode cX9_sheet 40 = .ok (.iload_n 3, 1) := by decide +kernel
theorem dX9_sheet_41 : decode cX9_sheet 41 = .ok (.ifCond .ge 10, 3) := by decide +kernel
theorem dX9_sheet_44 : decode cX9_sheet 44 = .ok (.aload_n 0, 1) := by decide +kernel
theorem dX9_sheet_45 : decode cX9_sheet 45 = .ok (.ldc 63, 2) := by decide +kernel
theorem dX9_sheet_47 : decode cX9_sheet 47 = .ok (.invokevirtual 59, 3) := by decide +kernel
theorem dX9_sheet_50 : decode cX9_sheet 50 = .ok (.ireturn, 1) := by decide +kernel
theorem dX9_sheet_51 : decode cX9_sheet 51 = .ok (.iload_n 2, 1) := by decide +kernel
theorem dX9_sheet_52 : decode cX9_sheet 52 = .ok (.ifCond .eq 16, 3) := by decide +kernel
theorem dX9_sheet_55 : decode cX9_sheet 55 = .ok (.iload_n 3, 1) := by decide +kernel
theorem dX9_sheet_56 : decode cX9_sheet 56 = .ok (.bipush 40, 2) := by decide +kernel
theorem dX9_sheet_58 : decode cX9_sheet 58 = .ok (.if_icmp .le 10, 3) := by decide +kernel
theorem dX9_sheet_61 : decode cX9_sheet 61 = .ok (.aload_n 0, 1) := by decide +kernel
theorem dX9_sheet_62 : decode cX9_sheet 62 = .ok (.ldc 58, 2) := by decide +kernel
theorem dX9_sheet_64 : decode cX9_sheet 64 = .ok (.invokevirtual 59, 3) := by decide +kernel
theorem dX9_sheet_67 : decode cX9_sheet 67 = .ok (.ireturn, 1) := by decide +kernel
theorem dX9_sheet_68 : decode cX9_sheet 68 = .ok (.aload_n 0, 1) := by decide +kernel
theorem dX9_sheet_69 : decode cX9_sheet 69 = .ok (.getfield 35, 3) := by decide +kernel
theorem dX9_sheet_72 : decode cX9_sheet 72 = .ok (.iload_n 1, 1) := by decide +kernel
theorem dX9_sheet_73 : decode cX9_sheet 73 = .ok (.iload_n 2, 1) := by decide +kernel
theorem dX9_sheet_74 : decode cX9_sheet 74 = .ok (.iastore, 1) := by decide +kernel
theorem dX9_sheet_75 : decode cX9_sheet 75 = .ok (.aload_n 0, 1) := by decide +kernel
theorem dX9_sheet_76 : decode cX9_sheet 76 = .ok (.getfield 38, 3) := by decide +kernel
theorem dX9_sheet_79 : decode cX9_sheet 79 = .ok (.iload_n 1, 1) := by decide +kernel
theorem dX9_sheet_80 : decode cX9_sheet 80 = .ok (.iload_n 2, 1) := by decide +kernel
theorem dX9_sheet_81 : decode cX9_sheet 81 = .ok (.ifCond .ne 7, 3) := by decide +kernel
theorem dX9_sheet_84 : decode cX9_sheet 84 = .ok (.iconst 0, 1) := by decide +kernel
theorem dX9_sheet_85 : decode cX9_sheet 85 = .ok (.goto 4, 3) := by decide +kernel
theorem dX9_sheet_88 : decode cX9_sheet 88 = .ok (.iload_n 3, 1) := by decide +kernel
theorem dX9_sheet_89 : decode cX9_sheet 89 = .ok (.iastore, 1) := by decide +kernel
theorem dX9_sheet_90 : decode cX9_sheet 90 = .ok (.iconst 0, 1) := by decide +kernel
theorem dX9_sheet_91 : decode cX9_sheet 91 = .ok (.istore 4, 2) := by decide +kernel
theorem dX9_sheet_93 : decode cX9_sheet 93 = .ok (.iload 4, 2) := by decide +kernel
theorem dX9_sheet_95 : decode cX9_sheet 95 = .ok (.bipush 40, 2) := by decide +kernel
theorem dX9_sheet_97 : decode cX9_sheet 97 = .ok (.if_icmp .ge 22, 3) := by decide +kernel
theorem dX9_sheet_100 : decode cX9_sheet 100 = .ok (.aload_n 0, 1) := by decide +kernel
theorem dX9_sheet_101 : decode cX9_sheet 101 = .ok (.getfield 41, 3) := by decide +kernel
theorem dX9_sheet_104 : decode cX9_sheet 104 = .ok (.bipush 40, 2) := by decide +kernel
theorem dX9_sheet_106 : decode cX9_sheet 106 = .ok (.iload_n 1, 1) := by decide +kernel
theorem dX9_sheet_107 : decode cX9_sheet 107 = .ok (.imul, 1) := by decide +kernel
theorem dX9_sheet_108 : decode cX9_sheet 108 = .ok (.iload 4, 2) := by decide +kernel
theorem dX9_sheet_110 : decode cX9_sheet 110 = .ok (.iadd, 1) := by decide +kernel
theorem dX9_sheet_111 : decode cX9_sheet 111 = .ok (.iconst 0, 1) := by decide +kernel
theorem dX9_sheet_112 : decode cX9_sheet 112 = .ok (.iastore, 1) := by decide +kernel
theorem dX9_sheet_113 : decode cX9_sheet 113 = .ok (.iinc 4 1, 3) := by decide +kernel
theorem dX9_sheet_116 : decode cX9_sheet 116 = .ok (.goto (-23), 3) := by decide +kernel
theorem dX9_sheet_119 : decode cX9_sheet 119 = .ok (.iconst 1, 1) := by decide +kernel
theorem dX9_sheet_120 : decode cX9_sheet 120 = .ok (.ireturn, 1) := by decide +kernel
set_option maxRecDepth 20000 in
theorem ggX9_put_X9_isSheet : GoodIn wsX9_put wsX9_isSheet := goodIn_r _ [9, 10, 11, 8, 12] (by decide +kernel) (by decide +kernel)
set_option maxRecDepth 20000 in
theorem gX9_put_X9_isSheet : GoodIn wsX9_put (va_wsS RX9 219 yX9_isSheet wsX9_isSheet) := goodIn_app (goodIn_of _ (by decide +kernel)) ggX9_put_X9_isSheet
set_option maxRecDepth 20000 in
theorem ggX9_put_X9_errs : GoodIn wsX9_put wsX9_errs := goodIn_r _ [16, 17, 18, 22, 23, 24, 25, 26, 27, 28, 29, 30, 31, 32, 33, 34, 35, 36, 37, 38, 39, 40, 41, 42, 43, 44, 45, 46, 47, 48, 49] (by decide +kernel) (by decide +kernel)
set_option maxRecDepth 20000 in
theorem gX9_put_X9_errs : GoodIn wsX9_put (wsV RX9 59 RX9 yX9_errs wsX9_errs) := goodIn_app (goodIn_of _ (by decide +kernel)) ggX9_put_X9_errs
set_option maxRecDepth 20000 in
theorem ggX9_put_X9_in : GoodIn wsX9_put wsX9_in := goodIn_r _ [12] (by decide +kernel) (by decide +kernel)
set_option maxRecDepth 20000 in
theorem gX9_put_X9_in : GoodIn wsX9_put (va_wsS RX9 54 yX9_in wsX9_in) := goodIn_app (goodIn_of _ (by decide +kernel)) ggX9_put_X9_in
set_option maxRecDepth 20000 in
theorem ggX9_put_X9_narrow : GoodIn wsX9_put wsX9_narrow := goodIn_r _ [21] (by decide +kernel) (by decide +kernel)
set_option maxRecDepth 20000 in
theorem gX9_put_X9_narrow : GoodIn wsX9_put (va_wsS RX9 261 yX9_narrow wsX9_narrow) := goodIn_app (goodIn_of _ (by decide +kernel)) ggX9_put_X9_narrow
theorem dX9_put_0 : decode cX9_put 0 = .ok (.iload_n 1, 1) := by decide +kernel
theorem dX9_put_1 : decode cX9_put 1 = .ok (.invokestatic 219, 3) := by decide +kernel
theorem dX9_put_4 : decode cX9_put 4 = .ok (.ifCond .ne 10, 3) := by decide +kernel
theorem dX9_put_7 : decode cX9_put 7 = .ok (.aload_n 0, 1) := by decide +kernel
theorem dX9_put_8 : decode cX9_put 8 = .ok (.ldc 58, 2) := by decide +kernel
theorem dX9_put_10 : decode cX9_put 10 = .ok (.invokevirtual 59, 3) := by decide +kernel
theorem dX9_put_13 : decode cX9_put 13 = .ok (.ireturn, 1) := by decide +kernel
theorem dX9_put_14 : decode cX9_put 14 = .ok (.aload_n 0, 1) := by decide +kernel
theorem dX9_put_15 : decode cX9_put 15 = .ok (.getfield 35, 3) := by decide +kernel
theorem dX9_put_18 : decode cX9_put 18 = .ok (.iload_n 1, 1) := by decide +kernel
theorem dX9_put_19 : decode cX9_put 19 = .ok (.iaload, 1) := by decide +kernel
theorem dX9_put_20 : decode cX9_put 20 = .ok (.ifCond .ne 10, 3) := by decide +kernel
theorem dX9_put_23 : decode cX9_put 23 = .ok (.aload_n 0, 1) := by decide +kernel
theorem dX9_put_24 : decode cX9_put 24 = .ok (.ldc 204, 2) := by decide +kernel
theorem dX9_put_26 : decode cX9_put 26 = .ok (.invokevirtual 59, 3) := by decide +kernel
theorem dX9_put_29 : decode cX9_put 29 = .ok (.ireturn, 1) := by decide +kernel
theorem dX9_put_30 : decode cX9_put 30 = .ok (.iload_n 2, 1) := by decide +kernel
theorem dX9_put_31 : decode cX9_put 31 = .ok (.iconst 0, 1) := by decide +kernel
theorem dX9_put_32 : decode cX9_put 32 = .ok (.aload_n 0, 1) := by decide +kernel
theorem dX9_put_33 : decode cX9_put 33 = .ok (.getfield 38, 3) := by decide +kernel
theorem dX9_put_36 : decode cX9_put 36 = .ok (.iload_n 1, 1) := by decide +kernel
theorem dX9_put_37 : decode cX9_put 37 = .ok (.iaload, 1) := by decide +kernel
theorem dX9_put_38 : decode cX9_put 38 = .ok (.iconst 1, 1) := by decide +kernel
theorem dX9_put_39 : decode cX9_put 39 = .ok (.isub, 1) := by decide +kernel
theorem dX9_put_40 : decode cX9_put 40 = .ok (.invokestatic 54, 3) := by decide +kernel
theorem dX9_put_43 : decode cX9_put 43 = .ok (.ifCond .ne 10, 3) := by decide +kernel
theorem dX9_put_46 : decode cX9_put 46 = .ok (.aload_n 0, 1) := by decide +kernel
theorem dX9_put_47 : decode cX9_put 47 = .ok (.ldc 58, 2) := by decide +kernel
theorem dX9_put_49 : decode cX9_put 49 = .ok (.invokevirtual 59, 3) := by decide +kernel
theorem dX9_put_52 : decode cX9_put 52 = .ok (.ireturn, 1) := by decide +kernel
theorem dX9_put_53 : decode cX9_put 53 = .ok (.aload_n 0, 1) := by decide +kernel
theorem dX9_put_54 : decode cX9_put 54 = .ok (.getfield 41, 3) := by decide +kernel
theorem dX9_put_57 : decode cX9_put 57 = .ok (.bipush 40, 2) := by decide +kernel
theorem dX9_put_59 : decode cX9_put 59 = .ok (.iload_n 1, 1) := by decide +kernel
theorem dX9_put_60 : decode cX9_put 60 = .ok (.imul, 1) := by decide +kernel
theorem dX9_put_61 : decode cX9_put 61 = .ok (.iload_n 2, 1) := by decide +kernel
theorem dX9_put_62 : decode cX9_put 62 = .ok (.iadd, 1) := by decide +kernel
theorem dX9_put_63 : decode cX9_put 63 = .ok (.aload_n 0, 1) := by decide +kernel
theorem dX9_put_64 : decode cX9_put 64 = .ok (.getfield 35, 3) := by decide +kernel
theorem dX9_put_67 : decode cX9_put 67 = .ok (.iload_n 1, 1) := by decide +kernel
theorem dX9_put_68 : decode cX9_put 68 = .ok (.iaload, 1) := by decide +kernel
theorem dX9_put_69 : decode cX9_put 69 = .ok (.iload_n 3, 1) := by decide +kernel
theorem dX9_put_70 : decode cX9_put 70 = .ok (.invokestatic 261, 3) := by decide +kernel
theorem dX9_put_73 : decode cX9_put 73 = .ok (.iastore, 1) := by decide +kernel
theorem dX9_put_74 : decode cX9_put 74 = .ok (.iconst 1, 1) := by decide +kernel
theorem dX9_put_75 : decode cX9_put 75 = .ok (.ireturn, 1) := by decide +kernel
set_option maxRecDepth 20000 in
theorem ggX9_move_X9_isSheet : GoodIn wsX9_move wsX9_isSheet := goodIn_r _ [11, 12, 13, 10, 14] (by decide +kernel) (by decide +kernel)
set_option maxRecDepth 20000 in
theorem gX9_move_X9_isSheet : GoodIn wsX9_move (va_wsS RX9 219 yX9_isSheet wsX9_isSheet) := goodIn_app (goodIn_of _ (by decide +kernel)) ggX9_move_X9_isSheet
set_option maxRecDepth 20000 in
theorem ggX9_move_X9_errs : GoodIn wsX9_move wsX9_errs := goodIn_r _ [18, 19, 20, 21, 22, 23, 24, 25, 26, 27, 28, 29, 30, 31, 32, 33, 34, 35, 36, 37, 38, 39, 40, 41, 42, 43, 44, 45, 46, 47, 48] (by decide +kernel) (by decide +kernel)
set_option maxRecDepth 20000 in
theorem gX9_move_X9_errs : GoodIn wsX9_move (wsV RX9 59 RX9 yX9_errs wsX9_errs) := goodIn_app (goodIn_of _ (by decide +kernel)) ggX9_move_X9_errs
theorem dX9_move_0 : decode cX9_move 0 = .ok (.iload_n 1, 1) := by decide +kernel
theorem dX9_move_1 : decode cX9_move 1 = .ok (.invokestatic 219, 3) := by decide +kernel
theorem dX9_move_4 : decode cX9_move 4 = .ok (.ifCond .eq 10, 3) := by decide +kernel
theorem dX9_move_7 : decode cX9_move 7 = .ok (.iload_n 3, 1) := by decide +kernel
theorem dX9_move_8 : decode cX9_move 8 = .ok (.invokestatic 219, 3) := by decide +kernel
theorem dX9_move_11 : decode cX9_move 11 = .ok (.ifCond .ne 10, 3) := by decide +kernel
theorem dX9_move_14 : decode cX9_move 14 = .ok (.aload_n 0, 1) := by decide +kernel
theorem dX9_move_15 : decode cX9_move 15 = .ok (.ldc 58, 2) := by decide +kernel
theorem dX9_move_17 : decode cX9_move 17 = .ok (.invokevirtual 59, 3) := by decide +kernel
theorem dX9_move_20 : decode cX9_move 20 = .ok (.ireturn, 1) := by decide +kernel
theorem dX9_move_21 : decode cX9_move 21 = .ok (.aload_n 0, 1) := by decide +kernel
theorem dX9_move_22 : decode cX9_move 22 = .ok (.getfield 35, 3) := by decide +kernel
theorem dX9_move_25 : decode cX9_move 25 = .ok (.iload_n 1, 1) := by decide +kernel
theorem dX9_move_26 : decode cX9_move 26 = .ok (.iaload, 1) := by decide +kernel
theorem dX9_move_27 : decode cX9_move 27 = .ok (.ifCond .eq 12, 3) := by decide +kernel
theorem dX9_move_30 : decode cX9_move 30 = .ok (.aload_n 0, 1) := by decide +kernel
theorem dX9_move_31 : decode cX9_move 31 = .ok (.getfield 35, 3) := by decide +kernel
theorem dX9_move_34 : decode cX9_move 34 = .ok (.iload_n 3, 1) := by decide +kernel
theorem dX9_move_35 : decode cX9_move 35 = .ok (.iaload, 1) := by decide +kernel
theorem dX9_move_36 : decode cX9_move 36 = .ok (.ifCond .ne 10, 3) := by decide +kernel
theorem dX9_move_39 : decode cX9_move 39 = .ok (.aload_n 0, 1) := by decide +kernel
theorem dX9_move_40 : decode cX9_move 40 = .ok (.ldc 204, 2) := by decide +kernel
theorem dX9_move_42 : decode cX9_move 42 = .ok (.invokevirtual 59, 3) := by decide +kernel
theorem dX9_move_45 : decode cX9_move 45 = .ok (.ireturn, 1) := by decide +kernel
theorem dX9_move_46 : decode cX9_move 46 = .ok (.aload_n 0, 1) := by decide +kernel
theorem dX9_move_47 : decode cX9_move 47 = .ok (.getfield 35, 3) := by decide +kernel
theorem dX9_move_50 : decode cX9_move 50 = .ok (.iload_n 1, 1) := by decide +kernel
theorem dX9_move_51 : decode cX9_move 51 = .ok (.iaload, 1) := by decide +kernel
theorem dX9_move_52 : decode cX9_move 52 = .ok (.aload_n 0, 1) := by decide +kernel
theorem dX9_move_53 : decode cX9_move 53 = .ok (.getfield 35, 3) := by decide +kernel
theorem dX9_move_56 : decode cX9_move 56 = .ok (.iload_n 3, 1) := by decide +kernel
theorem dX9_move_57 : decode cX9_move 57 = .ok (.iaload, 1) := by decide +kernel
theorem dX9_move_58 : decode cX9_move 58 = .ok (.if_icmp .eq 10, 3) := by decide +kernel
theorem dX9_move_61 : decode cX9_move 61 = .ok (.aload_n 0, 1) := by decide +kernel
theorem dX9_move_62 : decode cX9_move 62 = .ok (.ldc 109, 2) := by decide +kernel
theorem dX9_move_64 : decode cX9_move 64 = .ok (.invokevirtual 59, 3) := by decide +kernel
theorem dX9_move_67 : decode cX9_move 67 = .ok (.ireturn, 1) := by decide +kernel
theorem dX9_move_68 : decode cX9_move 68 = .ok (.iload 5, 2) := by decide +kernel
theorem dX9_move_70 : decode cX9_move 70 = .ok (.ifCond .lt 39, 3) := by decide +kernel
theorem dX9_move_73 : decode cX9_move 73 = .ok (.iload_n 2, 1) := by decide +kernel
theorem dX9_move_74 : decode cX9_move 74 = .ok (.ifCond .lt 35, 3) := by decide +kernel
theorem dX9_move_77 : decode cX9_move 77 = .ok (.iload 4, 2) := by decide +kernel
theorem dX9_move_79 : decode cX9_move 79 = .ok (.ifCond .lt 30, 3) := by decide +kernel
theorem dX9_move_82 : decode cX9_move 82 = .ok (.iload_n 2, 1) := by decide +kernel
theorem dX9_move_83 : decode cX9_move 83 = .ok (.aload_n 0, 1) := by decide +kernel
theorem dX9_move_84 : decode cX9_move 84 = .ok (.getfield 38, 3) := by decide +kernel
theorem dX9_move_87 : decode cX9_move 87 = .ok (.iload_n 1, 1) := by decide +kernel
theorem dX9_move_88 : decode cX9_move 88 = .ok (.iaload, 1) := by decide +kernel
theorem dX9_move_89 : decode cX9_move 89 = .ok (.iload 5, 2) := by decide +kernel
theorem dX9_move_91 : decode cX9_move 91 = .ok (.isub, 1) := by decide +kernel
theorem dX9_move_92 : decode cX9_move 92 = .ok (.if_icmp .gt 17, 3) := by decide +kernel
theorem dX9_move_95 : decode cX9_move 95 = .ok (.iload 4, 2) := by decide +kernel
theorem dX9_move_97 : decode cX9_move 97 = .ok (.aload_n 0, 1) := by decide +kernel
theorem dX9_move_98 : decode cX9_move 98 = .ok (.getfield 38, 3) := by decide +kernel
theorem dX9_move_101 : decode cX9_move 101 = .ok (.iload_n 3, 1) := by decide +kernel
theorem dX9_move_102 : decode cX9_move 102 = .ok (.iaload, 1) := by decide +kernel
theorem dX9_move_103 : decode cX9_move 103 = .ok (.iload 5, 2) := by decide +kernel
theorem dX9_move_105 : decode cX9_move 105 = .ok (.isub, 1) := by decide +kernel
theorem dX9_move_106 : decode cX9_move 106 = .ok (.if_icmp .le 10, 3) := by decide +kernel
theorem dX9_move_109 : decode cX9_move 109 = .ok (.aload_n 0, 1) := by decide +kernel
theorem dX9_move_110 : decode cX9_move 110 = .ok (.ldc 58, 2) := by decide +kernel
theorem dX9_move_112 : decode cX9_move 112 = .ok (.invokevirtual 59, 3) := by decide +kernel
theorem dX9_move_115 : decode cX9_move 115 = .ok (.ireturn, 1) := by decide +kernel
theorem dX9_move_116 : decode cX9_move 116 = .ok (.iconst 0, 1) := by decide +kernel
theorem dX9_move_117 : decode cX9_move 117 = .ok (.istore 6, 2) := by decide +kernel
theorem dX9_move_119 : decode cX9_move 119 = .ok (.iload 6, 2) := by decide +kernel
theorem dX9_move_121 : decode cX9_move 121 = .ok (.iload 5, 2) := by decide +kernel
theorem dX9_move_123 : decode cX9_move 123 = .ok (.if_icmp .ge 30, 3) := by decide +kernel
theorem dX9_move_126 : decode cX9_move 126 = .ok (.aload_n 0, 1) := by decide +kernel
theorem dX9_move_127 : decode cX9_move 127 = .ok (.getfield 44, 3) := by decide +kernel
theorem dX9_move_130 : decode cX9_move 130 = .ok (.iload 6, 2) := by decide +kernel
theorem dX9_move_132 : decode cX9_move 132 = .ok (.aload_n 0, 1) := by decide +kernel
theorem dX9_move_133 : decode cX9_move 133 = .ok (.getfield 41, 3) := by decide +kernel
theorem dX9_move_136 : decode cX9_move 136 = .ok (.bipush 40, 2) := by decide +kernel
theorem dX9_move_138 : decode cX9_move 138 = .ok (.iload_n 1, 1) := by decide +kernel
theorem dX9_move_139 : decode cX9_move 139 = .ok (.imul, 1) := by decide +kernel
theorem dX9_move_140 : decode cX9_move 140 = .ok (.iload_n 2, 1) := by decide +kernel
theorem dX9_move_141 : decode cX9_move 141 = .ok (.iadd, 1) := by decide +kernel
theorem dX9_move_142 : decode cX9_move 142 = .ok (.iload 6, 2) := by decide +kernel
theorem dX9_move_144 : decode cX9_move 144 = .ok (.iadd, 1) := by decide +kernel
theorem dX9_move_145 : decode cX9_move 145 = .ok (.iaload, 1) := by decide +kernel
theorem dX9_move_146 : decode cX9_move 146 = .ok (.iastore, 1) := by decide +kernel
theorem dX9_move_147 : decode cX9_move 147 = .ok (.iinc 6 1, 3) := by decide +kernel
theorem dX9_move_150 : decode cX9_move 150 = .ok (.goto (-31), 3) := by decide +kernel
theorem dX9_move_153 : decode cX9_move 153 = .ok (.iconst 0, 1) := by decide +kernel
theorem dX9_move_154 : decode cX9_move 154 = .ok (.istore 6, 2) := by decide +kernel
theorem dX9_move_156 : decode cX9_move 156 = .ok (.iload 6, 2) := by decide +kernel
theorem dX9_move_158 : decode cX9_move 158 = .ok (.iload 5, 2) := by decide +kernel
theorem dX9_move_160 : decode cX9_move 160 = .ok (.if_icmp .ge 31, 3) := by decide +kernel
theorem dX9_move_163 : decode cX9_move 163 = .ok (.aload_n 0, 1) := by decide +kernel
theorem dX9_move_164 : decode cX9_move 164 = .ok (.getfield 41, 3) := by decide +kernel
theorem dX9_move_167 : decode cX9_move 167 = .ok (.bipush 40, 2) := by decide +kernel
theorem dX9_move_169 : decode cX9_move 169 = .ok (.iload_n 3, 1) := by decide +kernel
theorem dX9_move_170 : decode cX9_move 170 = .ok (.imul, 1) := by decide +kernel
theorem dX9_move_171 : decode cX9_move 171 = .ok (.iload 4, 2) := by decide +kernel
theorem dX9_move_173 : decode cX9_move 173 = .ok (.iadd, 1) := by decide +kernel
theorem dX9_move_174 : decode cX9_move 174 = .ok (.iload 6, 2) := by decide +kernel
theorem dX9_move_176 : decode cX9_move 176 = .ok (.iadd, 1) := by decide +kernel
theorem dX9_move_177 : decode cX9_move 177 = .ok (.aload_n 0, 1) := by decide +kernel
theorem dX9_move_178 : decode cX9_move 178 = .ok (.getfield 44, 3) := by decide +kernel
theorem dX9_move_181 : decode cX9_move 181 = .ok (.iload 6, 2) := by decide +kernel
theorem dX9_move_183 : decode cX9_move 183 = .ok (.iaload, 1) := by decide +kernel
theorem dX9_move_184 : decode cX9_move 184 = .ok (.iastore, 1) := by decide +kernel
theorem dX9_move_185 : decode cX9_move 185 = .ok (.iinc 6 1, 3) := by decide +kernel
theorem dX9_move_188 : decode cX9_move 188 = .ok (.goto (-32), 3) := by decide +kernel
theorem dX9_move_191 : decode cX9_move 191 = .ok (.iload 5, 2) := by decide +kernel
theorem dX9_move_193 : decode cX9_move 193 = .ok (.ireturn, 1) := by decide +kernel
set_option maxRecDepth 20000 in
theorem ggX9_weeds_X9_isSheet : GoodIn wsX9_weeds wsX9_isSheet := goodIn_r _ [10, 11, 12, 9, 13] (by decide +kernel) (by decide +kernel)
set_option maxRecDepth 20000 in
theorem gX9_weeds_X9_isSheet : GoodIn wsX9_weeds (va_wsS RX9 219 yX9_isSheet wsX9_isSheet) := goodIn_app (goodIn_of _ (by decide +kernel)) ggX9_weeds_X9_isSheet
set_option maxRecDepth 20000 in
theorem ggX9_weeds_X9_errs : GoodIn wsX9_weeds wsX9_errs := goodIn_r _ [17, 18, 19, 24, 25, 26, 27, 28, 29, 30, 31, 32, 33, 34, 35, 36, 37, 38, 39, 40, 41, 42, 43, 44, 45, 46, 47, 48, 49, 50, 51] (by decide +kernel) (by decide +kernel)
set_option maxRecDepth 20000 in
theorem gX9_weeds_X9_errs : GoodIn wsX9_weeds (wsV RX9 59 RX9 yX9_errs wsX9_errs) := goodIn_app (goodIn_of _ (by decide +kernel)) ggX9_weeds_X9_errs
set_option maxRecDepth 20000 in
theorem ggX9_weeds_X9_isCell : GoodIn wsX9_weeds wsX9_isCell := goodIn_r _ [23, 6, 11, 12, 9, 13, 24, 25, 26, 27, 28, 29, 30, 31, 32, 33, 34, 35, 36, 37, 38, 39, 40, 41, 42, 43, 44, 45, 46, 47, 48, 49, 50, 51] (by decide +kernel) (by decide +kernel)
set_option maxRecDepth 20000 in
theorem gX9_weeds_X9_isCell : GoodIn wsX9_weeds (wsV RX9 68 RX9 yX9_isCell wsX9_isCell) := goodIn_app (goodIn_of _ (by decide +kernel)) ggX9_weeds_X9_isCell
set_option maxRecDepth 20000 in
theorem ggX9_weeds_X9_in : GoodIn wsX9_weeds wsX9_in := goodIn_r _ [13] (by decide +kernel) (by decide +kernel)
set_option maxRecDepth 20000 in
theorem gX9_weeds_X9_in : GoodIn wsX9_weeds (va_wsS RX9 54 yX9_in wsX9_in) := goodIn_app (goodIn_of _ (by decide +kernel)) ggX9_weeds_X9_in
theorem dX9_weeds_0 : decode cX9_weeds 0 = .ok (.iload_n 1, 1) := by decide +kernel
theorem dX9_weeds_1 : decode cX9_weeds 1 = .ok (.invokestatic 219, 3) := by decide +kernel
theorem dX9_weeds_4 : decode cX9_weeds 4 = .ok (.ifCond .ne 10, 3) := by decide +kernel
theorem dX9_weeds_7 : decode cX9_weeds 7 = .ok (.aload_n 0, 1) := by decide +kernel
theorem dX9_weeds_8 : decode cX9_weeds 8 = .ok (.ldc 58, 2) := by decide +kernel
theorem dX9_weeds_10 : decode cX9_weeds 10 = .ok (.invokevirtual 59, 3) := by decide +kernel
theorem dX9_weeds_13 : decode cX9_weeds 13 = .ok (.ireturn, 1) := by decide +kernel
theorem dX9_weeds_14 : decode cX9_weeds 14 = .ok (.aload_n 0, 1) := by decide +kernel
theorem dX9_weeds_15 : decode cX9_weeds 15 = .ok (.getfield 35, 3) := by decide +kernel
theorem dX9_weeds_18 : decode cX9_weeds 18 = .ok (.iload_n 1, 1) := by decide +kernel
theorem dX9_weeds_19 : decode cX9_weeds 19 = .ok (.iaload, 1) := by decide +kernel
theorem dX9_weeds_20 : decode cX9_weeds 20 = .ok (.ifCond .ne 10, 3) := by decide +kernel
theorem dX9_weeds_23 : decode cX9_weeds 23 = .ok (.aload_n 0, 1) := by decide +kernel
theorem dX9_weeds_24 : decode cX9_weeds 24 = .ok (.ldc 204, 2) := by decide +kernel
theorem dX9_weeds_26 : decode cX9_weeds 26 = .ok (.invokevirtual 59, 3) := by decide +kernel
theorem dX9_weeds_29 : decode cX9_weeds 29 = .ok (.ireturn, 1) := by decide +kernel
theorem dX9_weeds_30 : decode cX9_weeds 30 = .ok (.iconst 0, 1) := by decide +kernel
theorem dX9_weeds_31 : decode cX9_weeds 31 = .ok (.istore_n 2, 1) := by decide +kernel
theorem dX9_weeds_32 : decode cX9_weeds 32 = .ok (.iload_n 2, 1) := by decide +kernel
theorem dX9_weeds_33 : decode cX9_weeds 33 = .ok (.aload_n 0, 1) := by decide +kernel
theorem dX9_weeds_34 : decode cX9_weeds 34 = .ok (.getfield 38, 3) := by decide +kernel
theorem dX9_weeds_37 : decode cX9_weeds 37 = .ok (.iload_n 1, 1) := by decide +kernel
theorem dX9_weeds_38 : decode cX9_weeds 38 = .ok (.iaload, 1) := by decide +kernel
theorem dX9_weeds_39 : decode cX9_weeds 39 = .ok (.if_icmp .ge 57, 3) := by decide +kernel
theorem dX9_weeds_42 : decode cX9_weeds 42 = .ok (.aload_n 0, 1) := by decide +kernel
theorem dX9_weeds_43 : decode cX9_weeds 43 = .ok (.iload_n 2, 1) := by decide +kernel
theorem dX9_weeds_44 : decode cX9_weeds 44 = .ok (.invokevirtual 68, 3) := by decide +kernel
theorem dX9_weeds_47 : decode cX9_weeds 47 = .ok (.ifCond .eq 49, 3) := by decide +kernel
theorem dX9_weeds_50 : decode cX9_weeds 50 = .ok (.aload_n 0, 1) := by decide +kernel
theorem dX9_weeds_51 : decode cX9_weeds 51 = .ok (.getfield 41, 3) := by decide +kernel
theorem dX9_weeds_54 : decode cX9_weeds 54 = .ok (.bipush 40, 2) := by decide +kernel
theorem dX9_weeds_56 : decode cX9_weeds 56 = .ok (.iload_n 1, 1) := by decide +kernel
theorem dX9_weeds_57 : decode cX9_weeds 57 = .ok (.imul, 1) := by decide +kernel
theorem dX9_weeds_58 : decode cX9_weeds 58 = .ok (.iload_n 2, 1) := by decide +kernel
theorem dX9_weeds_59 : decode cX9_weeds 59 = .ok (.iadd, 1) := by decide +kernel
theorem dX9_weeds_60 : decode cX9_weeds 60 = .ok (.iaload, 1) := by decide +kernel
theorem dX9_weeds_61 : decode cX9_weeds 61 = .ok (.iconst 0, 1) := by decide +kernel
theorem dX9_weeds_62 : decode cX9_weeds 62 = .ok (.bipush 99, 2) := by decide +kernel
theorem dX9_weeds_64 : decode cX9_weeds 64 = .ok (.invokestatic 54, 3) := by decide +kernel
theorem dX9_weeds_67 : decode cX9_weeds 67 = .ok (.ifCond .eq 29, 3) := by decide +kernel
theorem dX9_weeds_70 : decode cX9_weeds 70 = .ok (.aload_n 0, 1) := by decide +kernel
theorem dX9_weeds_71 : decode cX9_weeds 71 = .ok (.getfield 7, 3) := by decide +kernel
theorem dX9_weeds_74 : decode cX9_weeds 74 = .ok (.bipush 22, 2) := by decide +kernel
theorem dX9_weeds_76 : decode cX9_weeds 76 = .ok (.iload_n 2, 1) := by decide +kernel
theorem dX9_weeds_77 : decode cX9_weeds 77 = .ok (.iadd, 1) := by decide +kernel
theorem dX9_weeds_78 : decode cX9_weeds 78 = .ok (.aload_n 0, 1) := by decide +kernel
theorem dX9_weeds_79 : decode cX9_weeds 79 = .ok (.getfield 41, 3) := by decide +kernel
theorem dX9_weeds_82 : decode cX9_weeds 82 = .ok (.bipush 40, 2) := by decide +kernel
theorem dX9_weeds_84 : decode cX9_weeds 84 = .ok (.iload_n 1, 1) := by decide +kernel
theorem dX9_weeds_85 : decode cX9_weeds 85 = .ok (.imul, 1) := by decide +kernel
theorem dX9_weeds_86 : decode cX9_weeds 86 = .ok (.iload_n 2, 1) := by decide +kernel
theorem dX9_weeds_87 : decode cX9_weeds 87 = .ok (.iadd, 1) := by decide +kernel
theorem dX9_weeds_88 : decode cX9_weeds 88 = .ok (.iaload, 1) := by decide +kernel
theorem dX9_weeds_89 : decode cX9_weeds 89 = .ok (.iastore, 1) := by decide +kernel
theorem dX9_weeds_90 : decode cX9_weeds 90 = .ok (.iinc 2 1, 3) := by decide +kernel
theorem dX9_weeds_93 : decode cX9_weeds 93 = .ok (.goto (-61), 3) := by decide +kernel
theorem dX9_weeds_96 : decode cX9_weeds 96 = .ok (.iload_n 2, 1) := by decide +kernel
theorem dX9_weeds_97 : decode cX9_weeds 97 = .ok (.ireturn, 1) := by decide +kernel
set_option maxRecDepth 20000 in
theorem ggX9_judge_X9_isSheet : GoodIn wsX9_judge wsX9_isSheet := goodIn_r _ [10, 11, 12, 9, 13] (by decide +kernel) (by decide +kernel)
set_option maxRecDepth 20000 in
theorem gX9_judge_X9_isSheet : GoodIn wsX9_judge (va_wsS RX9 219 yX9_isSheet wsX9_isSheet) := goodIn_app (goodIn_of _ (by decide +kernel)) ggX9_judge_X9_isSheet
set_option maxRecDepth 20000 in
theorem ggX9_judge_X9_errs : GoodIn wsX9_judge wsX9_errs := goodIn_r _ [17, 18, 19, 20, 21, 22, 23, 24, 25, 26, 27, 28, 29, 30, 31, 32, 33, 34, 35, 36, 37, 38, 39, 40, 41, 42, 43, 44, 45, 46, 47] (by decide +kernel) (by decide +kernel)
set_option maxRecDepth 20000 in
theorem gX9_judge_X9_errs : GoodIn wsX9_judge (wsV RX9 59 RX9 yX9_errs wsX9_errs) := goodIn_app (goodIn_of _ (by decide +kernel)) ggX9_judge_X9_errs
theorem dX9_judge_0 : decode cX9_judge 0 = .ok (.iload_n 1, 1) := by decide +kernel
theorem dX9_judge_1 : decode cX9_judge 1 = .ok (.invokestatic 219, 3) := by decide +kernel
theorem dX9_judge_4 : decode cX9_judge 4 = .ok (.ifCond .ne 10, 3) := by decide +kernel
theorem dX9_judge_7 : decode cX9_judge 7 = .ok (.aload_n 0, 1) := by decide +kernel
theorem dX9_judge_8 : decode cX9_judge 8 = .ok (.ldc 58, 2) := by decide +kernel
theorem dX9_judge_10 : decode cX9_judge 10 = .ok (.invokevirtual 59, 3) := by decide +kernel
theorem dX9_judge_13 : decode cX9_judge 13 = .ok (.ireturn, 1) := by decide +kernel
theorem dX9_judge_14 : decode cX9_judge 14 = .ok (.aload_n 0, 1) := by decide +kernel
theorem dX9_judge_15 : decode cX9_judge 15 = .ok (.getfield 35, 3) := by decide +kernel
theorem dX9_judge_18 : decode cX9_judge 18 = .ok (.iload_n 1, 1) := by decide +kernel
theorem dX9_judge_19 : decode cX9_judge 19 = .ok (.iaload, 1) := by decide +kernel
theorem dX9_judge_20 : decode cX9_judge 20 = .ok (.ifCond .ne 10, 3) := by decide +kernel
theorem dX9_judge_23 : decode cX9_judge 23 = .ok (.aload_n 0, 1) := by decide +kernel
theorem dX9_judge_24 : decode cX9_judge 24 = .ok (.ldc 204, 2) := by decide +kernel
theorem dX9_judge_26 : decode cX9_judge 26 = .ok (.invokevirtual 59, 3) := by decide +kernel
theorem dX9_judge_29 : decode cX9_judge 29 = .ok (.ireturn, 1) := by decide +kernel
theorem dX9_judge_30 : decode cX9_judge 30 = .ok (.iconst 0, 1) := by decide +kernel
theorem dX9_judge_31 : decode cX9_judge 31 = .ok (.istore_n 2, 1) := by decide +kernel
theorem dX9_judge_32 : decode cX9_judge 32 = .ok (.iload_n 2, 1) := by decide +kernel
theorem dX9_judge_33 : decode cX9_judge 33 = .ok (.aload_n 0, 1) := by decide +kernel
theorem dX9_judge_34 : decode cX9_judge 34 = .ok (.getfield 7, 3) := by decide +kernel
theorem dX9_judge_37 : decode cX9_judge 37 = .ok (.iconst 3, 1) := by decide +kernel
theorem dX9_judge_38 : decode cX9_judge 38 = .ok (.iaload, 1) := by decide +kernel
theorem dX9_judge_39 : decode cX9_judge 39 = .ok (.if_icmp .ge 42, 3) := by decide +kernel
theorem dX9_judge_42 : decode cX9_judge 42 = .ok (.iload_n 2, 1) := by decide +kernel
theorem dX9_judge_43 : decode cX9_judge 43 = .ok (.aload_n 0, 1) := by decide +kernel
theorem dX9_judge_44 : decode cX9_judge 44 = .ok (.getfield 38, 3) := by decide +kernel
theorem dX9_judge_47 : decode cX9_judge 47 = .ok (.iload_n 1, 1) := by decide +kernel
theorem dX9_judge_48 : decode cX9_judge 48 = .ok (.iaload, 1) := by decide +kernel
theorem dX9_judge_49 : decode cX9_judge 49 = .ok (.if_icmp .ge 32, 3) := by decide +kernel
theorem dX9_judge_52 : decode cX9_judge 52 = .ok (.aload_n 0, 1) := by decide +kernel
theorem dX9_judge_53 : decode cX9_judge 53 = .ok (.getfield 41, 3) := by decide +kernel
theorem dX9_judge_56 : decode cX9_judge 56 = .ok (.bipush 40, 2) := by decide +kernel
theorem dX9_judge_58 : decode cX9_judge 58 = .ok (.iload_n 1, 1) := by decide +kernel
theorem dX9_judge_59 : decode cX9_judge 59 = .ok (.imul, 1) := by decide +kernel
theorem dX9_judge_60 : decode cX9_judge 60 = .ok (.iload_n 2, 1) := by decide +kernel
theorem dX9_judge_61 : decode cX9_judge 61 = .ok (.iadd, 1) := by decide +kernel
theorem dX9_judge_62 : decode cX9_judge 62 = .ok (.iaload, 1) := by decide +kernel
theorem dX9_judge_63 : decode cX9_judge 63 = .ok (.aload_n 0, 1) := by decide +kernel
theorem dX9_judge_64 : decode cX9_judge 64 = .ok (.getfield 7, 3) := by decide +kernel
theorem dX9_judge_67 : decode cX9_judge 67 = .ok (.bipush 12, 2) := by decide +kernel
theorem dX9_judge_69 : decode cX9_judge 69 = .ok (.iload_n 2, 1) := by decide +kernel
theorem dX9_judge_70 : decode cX9_judge 70 = .ok (.iadd, 1) := by decide +kernel
theorem dX9_judge_71 : decode cX9_judge 71 = .ok (.iaload, 1) := by decide +kernel
theorem dX9_judge_72 : decode cX9_judge 72 = .ok (.if_icmp .ne 9, 3) := by decide +kernel
theorem dX9_judge_75 : decode cX9_judge 75 = .ok (.iinc 2 1, 3) := by decide +kernel
theorem dX9_judge_78 : decode cX9_judge 78 = .ok (.goto (-46), 3) := by decide +kernel
theorem dX9_judge_81 : decode cX9_judge 81 = .ok (.iload_n 2, 1) := by decide +kernel
theorem dX9_judge_82 : decode cX9_judge 82 = .ok (.aload_n 0, 1) := by decide +kernel
theorem dX9_judge_83 : decode cX9_judge 83 = .ok (.getfield 7, 3) := by decide +kernel
theorem dX9_judge_86 : decode cX9_judge 86 = .ok (.iconst 3, 1) := by decide +kernel
theorem dX9_judge_87 : decode cX9_judge 87 = .ok (.iaload, 1) := by decide +kernel
theorem dX9_judge_88 : decode cX9_judge 88 = .ok (.if_icmp .ne 17, 3) := by decide +kernel
theorem dX9_judge_91 : decode cX9_judge 91 = .ok (.iload_n 2, 1) := by decide +kernel
theorem dX9_judge_92 : decode cX9_judge 92 = .ok (.aload_n 0, 1) := by decide +kernel
theorem dX9_judge_93 : decode cX9_judge 93 = .ok (.getfield 38, 3) := by decide +kernel
theorem dX9_judge_96 : decode cX9_judge 96 = .ok (.iload_n 1, 1) := by decide +kernel
theorem dX9_judge_97 : decode cX9_judge 97 = .ok (.iaload, 1) := by decide +kernel
theorem dX9_judge_98 : decode cX9_judge 98 = .ok (.if_icmp .ne 7, 3) := by decide +kernel
theorem dX9_judge_101 : decode cX9_judge 101 = .ok (.iconst (-1), 1) := by decide +kernel
theorem dX9_judge_102 : decode cX9_judge 102 = .ok (.goto 4, 3) := by decide +kernel
theorem dX9_judge_105 : decode cX9_judge 105 = .ok (.iload_n 2, 1) := by decide +kernel
theorem dX9_judge_106 : decode cX9_judge 106 = .ok (.ireturn, 1) := by decide +kernel
set_option maxRecDepth 20000 in
theorem ggX9_image_X9_moveAll : GoodIn wsX9_image wsX9_moveAll := goodIn_r _ [9] (by decide +kernel) (by decide +kernel)
set_option maxRecDepth 20000 in
theorem gX9_image_X9_moveAll : GoodIn wsX9_image (wsV RX9 182 RX9 yX9_moveAll wsX9_moveAll) := goodIn_app (goodIn_of _ (by decide +kernel)) ggX9_image_X9_moveAll
theorem dX9_image_0 : decode cX9_image 0 = .ok (.aload_n 0, 1) := by decide +kernel
theorem dX9_image_1 : decode cX9_image 1 = .ok (.aload_n 0, 1) := by decide +kernel
theorem dX9_image_2 : decode cX9_image 2 = .ok (.getfield 7, 3) := by decide +kernel
theorem dX9_image_5 : decode cX9_image 5 = .ok (.aload_n 0, 1) := by decide +kernel
theorem dX9_image_6 : decode cX9_image 6 = .ok (.getfield 13, 3) := by decide +kernel
theorem dX9_image_9 : decode cX9_image 9 = .ok (.invokevirtual 182, 3) := by decide +kernel
theorem dX9_image_12 : decode cX9_image 12 = .ok (.aload_n 0, 1) := by decide +kernel
theorem dX9_image_13 : decode cX9_image 13 = .ok (.iconst 1, 1) := by decide +kernel
theorem dX9_image_14 : decode cX9_image 14 = .ok (.putfield 264, 3) := by decide +kernel
theorem dX9_image_17 : decode cX9_image 17 = .ok (.aload_n 0, 1) := by decide +kernel
theorem dX9_image_18 : decode cX9_image 18 = .ok (.dup, 1) := by decide +kernel
theorem dX9_image_19 : decode cX9_image 19 = .ok (.getfield 267, 3) := by decide +kernel
theorem dX9_image_22 : decode cX9_image 22 = .ok (.iconst 1, 1) := by decide +kernel
theorem dX9_image_23 : decode cX9_image 23 = .ok (.iadd, 1) := by decide +kernel
theorem dX9_image_24 : decode cX9_image 24 = .ok (.putfield 267, 3) := by decide +kernel
theorem dX9_image_27 : decode cX9_image 27 = .ok (.aload_n 0, 1) := by decide +kernel
theorem dX9_image_28 : decode cX9_image 28 = .ok (.getfield 267, 3) := by decide +kernel
theorem dX9_image_31 : decode cX9_image 31 = .ok (.ireturn, 1) := by decide +kernel
set_option maxRecDepth 20000 in
theorem ggX9_restore_X9_errs : GoodIn wsX9_restore wsX9_errs := goodIn_r _ [9, 10, 11, 16, 17, 18, 19, 20, 21, 22, 23, 24, 25, 26, 27, 28, 29, 30, 31, 32, 33, 34, 35, 36, 37, 38, 39, 40, 41, 42, 43] (by decide +kernel) (by decide +kernel)
set_option maxRecDepth 20000 in
theorem gX9_restore_X9_errs : GoodIn wsX9_restore (wsV RX9 59 RX9 yX9_errs wsX9_errs) := goodIn_app (goodIn_of _ (by decide +kernel)) ggX9_restore_X9_errs
set_option maxRecDepth 20000 in
theorem ggX9_restore_X9_moveAll : GoodIn wsX9_restore wsX9_moveAll := goodIn_r _ [15] (by decide +kernel) (by decide +kernel)
set_option maxRecDepth 20000 in
theorem gX9_restore_X9_moveAll : GoodIn wsX9_restore (wsV RX9 182 RX9 yX9_moveAll wsX9_moveAll) := goodIn_app (goodIn_of _ (by decide +kernel)) ggX9_restore_X9_moveAll
theorem dX9_restore_0 : decode cX9_restore 0 = .ok (.aload_n 0, 1) := by decide +kernel
theorem dX9_restore_1 : decode cX9_restore 1 = .ok (.getfield 264, 3) := by decide +kernel
theorem dX9_restore_4 : decode cX9_restore 4 = .ok (.ifCond .ne 10, 3) := by decide +kernel
theorem dX9_restore_7 : decode cX9_restore 7 = .ok (.aload_n 0, 1) := by decide +kernel
theorem dX9_restore_8 : decode cX9_restore 8 = .ok (.ldc 204, 2) := by decide +kernel
theorem dX9_restore_10 : decode cX9_restore 10 = .ok (.invokevirtual 59, 3) := by decide +kernel
theorem dX9_restore_13 : decode cX9_restore 13 = .ok (.ireturn, 1) := by decide +kernel
theorem dX9_restore_14 : decode cX9_restore 14 = .ok (.aload_n 0, 1) := by decide +kernel
theorem dX9_restore_15 : decode cX9_restore 15 = .ok (.aload_n 0, 1) := by decide +kernel
theorem dX9_restore_16 : decode cX9_restore 16 = .ok (.getfield 13, 3) := by decide +kernel
theorem dX9_restore_19 : decode cX9_restore 19 = .ok (.aload_n 0, 1) := by decide +kernel
theorem dX9_restore_20 : decode cX9_restore 20 = .ok (.getfield 7, 3) := by decide +kernel
theorem dX9_restore_23 : decode cX9_restore 23 = .ok (.invokevirtual 182, 3) := by decide +kernel
theorem dX9_restore_26 : decode cX9_restore 26 = .ok (.aload_n 0, 1) := by decide +kernel
theorem dX9_restore_27 : decode cX9_restore 27 = .ok (.getfield 7, 3) := by decide +kernel
theorem dX9_restore_30 : decode cX9_restore 30 = .ok (.iconst 0, 1) := by decide +kernel
theorem dX9_restore_31 : decode cX9_restore 31 = .ok (.iaload, 1) := by decide +kernel
theorem dX9_restore_32 : decode cX9_restore 32 = .ok (.ireturn, 1) := by decide +kernel
set_option maxRecDepth 20000 in
theorem ggX9_tell_X9_errs : GoodIn wsX9_tell wsX9_errs := goodIn_r _ [7, 8, 9, 10, 11, 12, 13, 14, 15, 16, 17, 18, 19, 20, 21, 22, 23, 24, 25, 26, 27, 28, 29, 30, 31, 32, 33, 34, 35, 36, 37] (by decide +kernel) (by decide +kernel)
set_option maxRecDepth 20000 in
theorem gX9_tell_X9_errs : GoodIn wsX9_tell (wsV RX9 59 RX9 yX9_errs wsX9_errs) := goodIn_app (goodIn_of _ (by decide +kernel)) ggX9_tell_X9_errs
theorem dX9_tell_0 : decode cX9_tell 0 = .ok (.aload_n 0, 1) := by decide +kernel
theorem dX9_tell_1 : decode cX9_tell 1 = .ok (.getfield 7, 3) := by decide +kernel
theorem dX9_tell_4 : decode cX9_tell 4 = .ok (.iconst 5, 1) := by decide +kernel
theorem dX9_tell_5 : decode cX9_tell 5 = .ok (.iaload, 1) := by decide +kernel
theorem dX9_tell_6 : decode cX9_tell 6 = .ok (.bipush 20, 2) := by decide +kernel
theorem dX9_tell_8 : decode cX9_tell 8 = .ok (.if_icmp .ne 10, 3) := by decide +kernel
theorem dX9_tell_11 : decode cX9_tell 11 = .ok (.aload_n 0, 1) := by decide +kernel
theorem dX9_tell_12 : decode cX9_tell 12 = .ok (.ldc 89, 2) := by decide +kernel
theorem dX9_tell_14 : decode cX9_tell 14 = .ok (.invokevirtual 59, 3) := by decide +kernel
theorem dX9_tell_17 : decode cX9_tell 17 = .ok (.ireturn, 1) := by decide +kernel
theorem dX9_tell_18 : decode cX9_tell 18 = .ok (.aload_n 0, 1) := by decide +kernel
theorem dX9_tell_19 : decode cX9_tell 19 = .ok (.getfield 7, 3) := by decide +kernel
theorem dX9_tell_22 : decode cX9_tell 22 = .ok (.bipush 114, 2) := by decide +kernel
theorem dX9_tell_24 : decode cX9_tell 24 = .ok (.aload_n 0, 1) := by decide +kernel
theorem dX9_tell_25 : decode cX9_tell 25 = .ok (.getfield 7, 3) := by decide +kernel
theorem dX9_tell_28 : decode cX9_tell 28 = .ok (.iconst 5, 1) := by decide +kernel
theorem dX9_tell_29 : decode cX9_tell 29 = .ok (.iaload, 1) := by decide +kernel
theorem dX9_tell_30 : decode cX9_tell 30 = .ok (.iadd, 1) := by decide +kernel
theorem dX9_tell_31 : decode cX9_tell 31 = .ok (.iload_n 1, 1) := by decide +kernel
theorem dX9_tell_32 : decode cX9_tell 32 = .ok (.iastore, 1) := by decide +kernel
theorem dX9_tell_33 : decode cX9_tell 33 = .ok (.aload_n 0, 1) := by decide +kernel
theorem dX9_tell_34 : decode cX9_tell 34 = .ok (.getfield 7, 3) := by decide +kernel
theorem dX9_tell_37 : decode cX9_tell 37 = .ok (.iconst 5, 1) := by decide +kernel
theorem dX9_tell_38 : decode cX9_tell 38 = .ok (.dup2, 1) := by decide +kernel
theorem dX9_tell_39 : decode cX9_tell 39 = .ok (.iaload, 1) := by decide +kernel
theorem dX9_tell_40 : decode cX9_tell 40 = .ok (.iconst 1, 1) := by decide +kernel
theorem dX9_tell_41 : decode cX9_tell 41 = .ok (.iadd, 1) := by decide +kernel
theorem dX9_tell_42 : decode cX9_tell 42 = .ok (.iastore, 1) := by decide +kernel
theorem dX9_tell_43 : decode cX9_tell 43 = .ok (.aload_n 0, 1) := by decide +kernel
theorem dX9_tell_44 : decode cX9_tell 44 = .ok (.getfield 7, 3) := by decide +kernel
theorem dX9_tell_47 : decode cX9_tell 47 = .ok (.iconst 5, 1) := by decide +kernel
theorem dX9_tell_48 : decode cX9_tell 48 = .ok (.iaload, 1) := by decide +kernel
theorem dX9_tell_49 : decode cX9_tell 49 = .ok (.ireturn, 1) := by decide +kernel
set_option maxRecDepth 20000 in
theorem ggX9_check_X9_moveAll : GoodIn wsX9_check wsX9_moveAll := goodIn_r _ [7] (by decide +kernel) (by decide +kernel)
set_option maxRecDepth 20000 in
theorem gX9_check_X9_moveAll : GoodIn wsX9_check (wsV RX9 182 RX9 yX9_moveAll wsX9_moveAll) := goodIn_app (goodIn_of _ (by decide +kernel)) ggX9_check_X9_moveAll
set_option maxRecDepth 20000 in
theorem ggX9_check_X9_oneHour : GoodIn wsX9_check wsX9_oneHour := goodIn_r _ [11, 1, 12, 13, 14, 15, 16, 17, 6, 18, 19, 20, 21, 22, 23, 24, 25, 26, 27, 28, 29, 30, 31, 32, 33, 34, 35, 36, 37, 38, 39, 40, 41, 42, 43, 44, 45, 46, 47, 48, 49, 50, 51, 52, 53, 54, 55, 56, 57, 58, 59, 60, 61, 62, 63, 64, 65, 66, 67, 68, 69, 70, 71, 72, 73, 74, 75, 76, 77, 78, 79, 80, 81, 82, 83, 84, 85, 86, 87, 88, 89, 90, 91, 92, 93, 94, 95, 96, 97, 98, 99, 100, 101, 102, 103, 104, 105, 106, 107, 108, 109, 110, 111, 112, 113, 114, 119, 120, 121, 122, 123, 124, 125, 126, 127, 128, 129, 130, 131, 132, 133, 134, 135, 136, 137, 138, 139, 140, 141, 142, 143, 144, 145, 146] (by decide +kernel) (by decide +kernel)
set_option maxRecDepth 20000 in
theorem gX9_check_X9_oneHour : GoodIn wsX9_check (wsV RX9 190 RX9 yX9_oneHour wsX9_oneHour) := goodIn_app (goodIn_of _ (by decide +kernel)) ggX9_check_X9_oneHour
set_option maxRecDepth 20000 in
theorem ggX9_check_X9_grains : GoodIn wsX9_check wsX9_grains := goodIn_r _ [118, 1, 119, 120, 121, 122, 123, 124, 125, 126, 127, 128, 129, 130, 131, 132, 133, 134, 135, 136, 137, 138, 139, 140, 141, 142, 143, 144, 145, 146] (by decide +kernel) (by decide +kernel)
set_option maxRecDepth 20000 in
theorem gX9_check_X9_grains : GoodIn wsX9_check (wsV RX9 196 RX9 yX9_grains wsX9_grains) := goodIn_app (goodIn_of _ (by decide +kernel)) ggX9_check_X9_grains
theorem dX9_check_0 : decode cX9_check 0 = .ok (.aload_n 0, 1) := by decide +kernel
theorem dX9_check_1 : decode cX9_check 1 = .ok (.getfield 7, 3) := by decide +kernel
theorem dX9_check_4 : decode cX9_check 4 = .ok (.iconst 5, 1) := by decide +kernel
theorem dX9_check_5 : decode cX9_check 5 = .ok (.iaload, 1) := by decide +kernel
theorem dX9_check_6 : decode cX9_check 6 = .ok (.istore_n 1, 1) := by decide +kernel
theorem dX9_check_7 : decode cX9_check 7 = .ok (.aload_n 0, 1) := by decide +kernel
theorem dX9_check_8 : decode cX9_check 8 = .ok (.getfield 7, 3) := by decide +kernel
theorem dX9_check_11 : decode cX9_check 11 = .ok (.iconst 5, 1) := by decide +kernel
theorem dX9_check_12 : decode cX9_check 12 = .ok (.iconst 0, 1) := by decide +kernel
theorem dX9_check_13 : decode cX9_check 13 = .ok (.iastore, 1) := by decide +kernel
theorem dX9_check_14 : decode cX9_check 14 = .ok (.aload_n 0, 1) := by decide +kernel
theorem dX9_check_15 : decode cX9_check 15 = .ok (.aload_n 0, 1) := by decide +kernel
theorem dX9_check_16 : decode cX9_check 16 = .ok (.getfield 7, 3) := by decide +kernel
theorem dX9_check_19 : decode cX9_check 19 = .ok (.aload_n 0, 1) := by decide +kernel
theorem dX9_check_20 : decode cX9_check 20 = .ok (.getfield 16, 3) := by decide +kernel
theorem dX9_check_23 : decode cX9_check 23 = .ok (.invokevirtual 182, 3) := by decide +kernel
theorem dX9_check_26 : decode cX9_check 26 = .ok (.iconst 0, 1) := by decide +kernel
theorem dX9_check_27 : decode cX9_check 27 = .ok (.istore_n 2, 1) := by decide +kernel
theorem dX9_check_28 : decode cX9_check 28 = .ok (.iconst 1, 1) := by decide +kernel
theorem dX9_check_29 : decode cX9_check 29 = .ok (.istore_n 3, 1) := by decide +kernel
theorem dX9_check_30 : decode cX9_check 30 = .ok (.iload_n 2, 1) := by decide +kernel
theorem dX9_check_31 : decode cX9_check 31 = .ok (.iload_n 1, 1) := by decide +kernel
theorem dX9_check_32 : decode cX9_check 32 = .ok (.if_icmp .ge 48, 3) := by decide +kernel
theorem dX9_check_35 : decode cX9_check 35 = .ok (.iload_n 3, 1) := by decide +kernel
theorem dX9_check_36 : decode cX9_check 36 = .ok (.ifCond .eq 44, 3) := by decide +kernel
theorem dX9_check_39 : decode cX9_check 39 = .ok (.aload_n 0, 1) := by decide +kernel
theorem dX9_check_40 : decode cX9_check 40 = .ok (.invokevirtual 190, 3) := by decide +kernel
theorem dX9_check_43 : decode cX9_check 43 = .ok (.aload_n 0, 1) := by decide +kernel
theorem dX9_check_44 : decode cX9_check 44 = .ok (.invokevirtual 196, 3) := by decide +kernel
theorem dX9_check_47 : decode cX9_check 47 = .ok (.aload_n 0, 1) := by decide +kernel
theorem dX9_check_48 : decode cX9_check 48 = .ok (.getfield 7, 3) := by decide +kernel
theorem dX9_check_51 : decode cX9_check 51 = .ok (.bipush 114, 2) := by decide +kernel
theorem dX9_check_53 : decode cX9_check 53 = .ok (.iload_n 2, 1) := by decide +kernel
theorem dX9_check_54 : decode cX9_check 54 = .ok (.iadd, 1) := by decide +kernel
theorem dX9_check_55 : decode cX9_check 55 = .ok (.iaload, 1) := by decide +kernel
theorem dX9_check_56 : decode cX9_check 56 = .ok (.if_icmp .ne 7, 3) := by decide +kernel
theorem dX9_check_59 : decode cX9_check 59 = .ok (.iconst 1, 1) := by decide +kernel
theorem dX9_check_60 : decode cX9_check 60 = .ok (.goto 4, 3) := by decide +kernel
theorem dX9_check_63 : decode cX9_check 63 = .ok (.iconst 0, 1) := by decide +kernel
theorem dX9_check_64 : decode cX9_check 64 = .ok (.istore_n 3, 1) := by decide +kernel
theorem dX9_check_65 : decode cX9_check 65 = .ok (.iload_n 2, 1) := by decide +kernel
theorem dX9_check_66 : decode cX9_check 66 = .ok (.iload_n 3, 1) := by decide +kernel
theorem dX9_check_67 : decode cX9_check 67 = .ok (.ifCond .eq 7, 3) := by decide +kernel
theorem dX9_check_70 : decode cX9_check 70 = .ok (.iconst 1, 1) := by decide +kernel
theorem dX9_check_71 : decode cX9_check 71 = .ok (.goto 4, 3) := by decide +kernel
theorem dX9_check_74 : decode cX9_check 74 = .ok (.iconst 0, 1) := by decide +kernel
theorem dX9_check_75 : decode cX9_check 75 = .ok (.iadd, 1) := by decide +kernel
theorem dX9_check_76 : decode cX9_check 76 = .ok (.istore_n 2, 1) := by decide +kernel
theorem dX9_check_77 : decode cX9_check 77 = .ok (.goto (-47), 3) := by decide +kernel
theorem dX9_check_80 : decode cX9_check 80 = .ok (.aload_n 0, 1) := by decide +kernel
theorem dX9_check_81 : decode cX9_check 81 = .ok (.aload_n 0, 1) := by decide +kernel
theorem dX9_check_82 : decode cX9_check 82 = .ok (.getfield 16, 3) := by decide +kernel
theorem dX9_check_85 : decode cX9_check 85 = .ok (.aload_n 0, 1) := by decide +kernel
theorem dX9_check_86 : decode cX9_check 86 = .ok (.getfield 7, 3) := by decide +kernel
theorem dX9_check_89 : decode cX9_check 89 = .ok (.invokevirtual 182, 3) := by decide +kernel
theorem dX9_check_92 : decode cX9_check 92 = .ok (.iload_n 3, 1) := by decide +kernel
theorem dX9_check_93 : decode cX9_check 93 = .ok (.ifCond .eq 7, 3) := by decide +kernel
theorem dX9_check_96 : decode cX9_check 96 = .ok (.iconst 0, 1) := by decide +kernel
theorem dX9_check_97 : decode cX9_check 97 = .ok (.goto 6, 3) := by decide +kernel
theorem dX9_check_100 : decode cX9_check 100 = .ok (.iconst 1, 1) := by decide +kernel
theorem dX9_check_101 : decode cX9_check 101 = .ok (.iload_n 2, 1) := by decide +kernel
theorem dX9_check_102 : decode cX9_check 102 = .ok (.iadd, 1) := by decide +kernel
theorem dX9_check_103 : decode cX9_check 103 = .ok (.ireturn, 1) := by decide +kernel
set_option maxRecDepth 20000 in
theorem ggX9_count_X9_grains : GoodIn wsX9_count wsX9_grains := goodIn_r _ [8, 1, 15, 16, 17, 18, 19, 20, 21, 22, 23, 24, 25, 26, 27, 28, 29, 30, 31, 32, 33, 34, 35, 36, 37, 38, 39, 40, 41, 42] (by decide +kernel) (by decide +kernel)
set_option maxRecDepth 20000 in
theorem gX9_count_X9_grains : GoodIn wsX9_count (wsV RX9 196 RX9 yX9_grains wsX9_grains) := goodIn_app (goodIn_of _ (by decide +kernel)) ggX9_count_X9_grains
set_option maxRecDepth 20000 in
theorem ggX9_count_X9_errs : GoodIn wsX9_count wsX9_errs := goodIn_r _ [12, 13, 14, 15, 16, 17, 18, 19, 20, 21, 22, 23, 24, 25, 26, 27, 28, 29, 30, 31, 32, 33, 34, 35, 36, 37, 38, 39, 40, 41, 42] (by decide +kernel) (by decide +kernel)
set_option maxRecDepth 20000 in
theorem gX9_count_X9_errs : GoodIn wsX9_count (wsV RX9 59 RX9 yX9_errs wsX9_errs) := goodIn_app (goodIn_of _ (by decide +kernel)) ggX9_count_X9_errs
theorem dX9_count_0 : decode cX9_count 0 = .ok (.iload_n 1, 1) := by decide +kernel
theorem dX9_count_1 : decode cX9_count 1 = .ok (.tableswitch 147 0 11 #[63, 70, 78, 85, 93, 101, 108, 116, 121, 128, 135, 140], 63) := by decide +kernel
theorem dX9_count_64 : decode cX9_count 64 = .ok (.aload_n 0, 1) := by decide +kernel
theorem dX9_count_65 : decode cX9_count 65 = .ok (.getfield 7, 3) := by decide +kernel
theorem dX9_count_68 : decode cX9_count 68 = .ok (.iconst 3, 1) := by decide +kernel
theorem dX9_count_69 : decode cX9_count 69 = .ok (.iaload, 1) := by decide +kernel
theorem dX9_count_70 : decode cX9_count 70 = .ok (.ireturn, 1) := by decide +kernel
theorem dX9_count_71 : decode cX9_count 71 = .ok (.aload_n 0, 1) := by decide +kernel
theorem dX9_count_72 : decode cX9_count 72 = .ok (.getfield 7, 3) := by decide +kernel
theorem dX9_count_75 : decode cX9_count 75 = .ok (.bipush 8, 2) := by decide +kernel
theorem dX9_count_77 : decode cX9_count 77 = .ok (.iaload, 1) := by decide +kernel
theorem dX9_count_78 : decode cX9_count 78 = .ok (.ireturn, 1) := by decide +kernel
theorem dX9_count_79 : decode cX9_count 79 = .ok (.aload_n 0, 1) := by decide +kernel
theorem dX9_count_80 : decode cX9_count 80 = .ok (.getfield 7, 3) := by decide +kernel
theorem dX9_count_83 : decode cX9_count 83 = .ok (.iconst 0, 1) := by decide +kernel
theorem dX9_count_84 : decode cX9_count 84 = .ok (.iaload, 1) := by decide +kernel
theorem dX9_count_85 : decode cX9_count 85 = .ok (.ireturn, 1) := by decide +kernel
theorem dX9_count_86 : decode cX9_count 86 = .ok (.aload_n 0, 1) := by decide +kernel
theorem dX9_count_87 : decode cX9_count 87 = .ok (.getfield 7, 3) := by decide +kernel
theorem dX9_count_90 : decode cX9_count 90 = .ok (.bipush 9, 2) := by decide +kernel
theorem dX9_count_92 : decode cX9_count 92 = .ok (.iaload, 1) := by decide +kernel
theorem dX9_count_93 : decode cX9_count 93 = .ok (.ireturn, 1) := by decide +kernel
theorem dX9_count_94 : decode cX9_count 94 = .ok (.aload_n 0, 1) := by decide +kernel
theorem dX9_count_95 : decode cX9_count 95 = .ok (.getfield 7, 3) := by decide +kernel
theorem dX9_count_98 : decode cX9_count 98 = .ok (.bipush 10, 2) := by decide +kernel
theorem dX9_count_100 : decode cX9_count 100 = .ok (.iaload, 1) := by decide +kernel
theorem dX9_count_101 : decode cX9_count 101 = .ok (.ireturn, 1) := by decide +kernel
theorem dX9_count_102 : decode cX9_count 102 = .ok (.aload_n 0, 1) := by decide +kernel
theorem dX9_count_103 : decode cX9_count 103 = .ok (.getfield 7, 3) := by decide +kernel
theorem dX9_count_106 : decode cX9_count 106 = .ok (.iconst 1, 1) := by decide +kernel
theorem dX9_count_107 : decode cX9_count 107 = .ok (.iaload, 1) := by decide +kernel
theorem dX9_count_108 : decode cX9_count 108 = .ok (.ireturn, 1) := by decide +kernel
theorem dX9_count_109 : decode cX9_count 109 = .ok (.aload_n 0, 1) := by decide +kernel
theorem dX9_count_110 : decode cX9_count 110 = .ok (.getfield 7, 3) := by decide +kernel
theorem dX9_count_113 : decode cX9_count 113 = .ok (.bipush 11, 2) := by decide +kernel
theorem dX9_count_115 : decode cX9_count 115 = .ok (.iaload, 1) := by decide +kernel
theorem dX9_count_116 : decode cX9_count 116 = .ok (.ireturn, 1) := by decide +kernel
theorem dX9_count_117 : decode cX9_count 117 = .ok (.aload_n 0, 1) := by decide +kernel
theorem dX9_count_118 : decode cX9_count 118 = .ok (.invokevirtual 196, 3) := by decide +kernel
theorem dX9_count_121 : decode cX9_count 121 = .ok (.ireturn, 1) := by decide +kernel
theorem dX9_count_122 : decode cX9_count 122 = .ok (.aload_n 0, 1) := by decide +kernel
theorem dX9_count_123 : decode cX9_count 123 = .ok (.getfield 7, 3) := by decide +kernel
theorem dX9_count_126 : decode cX9_count 126 = .ok (.iconst 4, 1) := by decide +kernel
theorem dX9_count_127 : decode cX9_count 127 = .ok (.iaload, 1) := by decide +kernel
theorem dX9_count_128 : decode cX9_count 128 = .ok (.ireturn, 1) := by decide +kernel
theorem dX9_count_129 : decode cX9_count 129 = .ok (.aload_n 0, 1) := by decide +kernel
theorem dX9_count_130 : decode cX9_count 130 = .ok (.getfield 7, 3) := by decide +kernel
theorem dX9_count_133 : decode cX9_count 133 = .ok (.iconst 5, 1) := by decide +kernel
theorem dX9_count_134 : decode cX9_count 134 = .ok (.iaload, 1) := by decide +kernel
theorem dX9_count_135 : decode cX9_count 135 = .ok (.ireturn, 1) := by decide +kernel
theorem dX9_count_136 : decode cX9_count 136 = .ok (.aload_n 0, 1) := by decide +kernel
theorem dX9_count_137 : decode cX9_count 137 = .ok (.getfield 234, 3) := by decide +kernel
theorem dX9_count_140 : decode cX9_count 140 = .ok (.ireturn, 1) := by decide +kernel
theorem dX9_count_141 : decode cX9_count 141 = .ok (.aload_n 0, 1) := by decide +kernel
theorem dX9_count_142 : decode cX9_count 142 = .ok (.getfield 7, 3) := by decide +kernel
theorem dX9_count_145 : decode cX9_count 145 = .ok (.iconst 2, 1) := by decide +kernel
theorem dX9_count_146 : decode cX9_count 146 = .ok (.iaload, 1) := by decide +kernel
theorem dX9_count_147 : decode cX9_count 147 = .ok (.ireturn, 1) := by decide +kernel
theorem dX9_count_148 : decode cX9_count 148 = .ok (.aload_n 0, 1) := by decide +kernel
theorem dX9_count_149 : decode cX9_count 149 = .ok (.ldc 58, 2) := by decide +kernel
theorem dX9_count_151 : decode cX9_count 151 = .ok (.invokevirtual 59, 3) := by decide +kernel
theorem dX9_count_154 : decode cX9_count 154 = .ok (.ireturn, 1) := by decide +kernel
set_option maxRecDepth 20000 in
theorem ggX9_told_X9_in : GoodIn wsX9_told wsX9_in := goodIn_r _ [6] (by decide +kernel) (by decide +kernel)
set_option maxRecDepth 20000 in
theorem gX9_told_X9_in : GoodIn wsX9_told (va_wsS RX9 54 yX9_in wsX9_in) := goodIn_app (goodIn_of _ (by decide +kernel)) ggX9_told_X9_in
set_option maxRecDepth 20000 in
theorem ggX9_told_X9_errs : GoodIn wsX9_told wsX9_errs := goodIn_r _ [10, 1, 11, 12, 13, 14, 15, 16, 17, 18, 19, 20, 21, 22, 23, 24, 25, 26, 27, 28, 29, 30, 31, 32, 33, 34, 35, 36, 37, 38, 39] (by decide +kernel) (by decide +kernel)
set_option maxRecDepth 20000 in
theorem gX9_told_X9_errs : GoodIn wsX9_told (wsV RX9 59 RX9 yX9_errs wsX9_errs) := goodIn_app (goodIn_of _ (by decide +kernel)) ggX9_told_X9_errs
theorem dX9_told_0 : decode cX9_told 0 = .ok (.iload_n 1, 1) := by decide +kernel
theorem dX9_told_1 : decode cX9_told 1 = .ok (.iconst 1, 1) := by decide +kernel
theorem dX9_told_2 : decode cX9_told 2 = .ok (.iconst 5, 1) := by decide +kernel
theorem dX9_told_3 : decode cX9_told 3 = .ok (.invokestatic 54, 3) := by decide +kernel
theorem dX9_told_6 : decode cX9_told 6 = .ok (.ifCond .eq 12, 3) := by decide +kernel
theorem dX9_told_9 : decode cX9_told 9 = .ok (.aload_n 0, 1) := by decide +kernel
theorem dX9_told_10 : decode cX9_told 10 = .ok (.getfield 22, 3) := by decide +kernel
theorem dX9_told_13 : decode cX9_told 13 = .ok (.iload_n 1, 1) := by decide +kernel
theorem dX9_told_14 : decode cX9_told 14 = .ok (.iaload, 1) := by decide +kernel
theorem dX9_told_15 : decode cX9_told 15 = .ok (.goto 9, 3) := by decide +kernel
theorem dX9_told_18 : decode cX9_told 18 = .ok (.aload_n 0, 1) := by decide +kernel
theorem dX9_told_19 : decode cX9_told 19 = .ok (.ldc 58, 2) := by decide +kernel
theorem dX9_told_21 : decode cX9_told 21 = .ok (.invokevirtual 59, 3) := by decide +kernel
theorem dX9_told_24 : decode cX9_told 24 = .ok (.ireturn, 1) := by decide +kernel
theorem dJ11_isValidCodePoint_9a6ad_0 : decode cJ11_isValidCodePoint_9a6ad 0 = .ok (.iload_n 0, 1) := by decide +kernel
theorem dJ11_isValidCodePoint_9a6ad_1 : decode cJ11_isValidCodePoint_9a6ad 1 = .ok (.bipush 16, 2) := by decide +kernel
theorem dJ11_isValidCodePoint_9a6ad_3 : decode cJ11_isValidCodePoint_9a6ad 3 = .ok (.iushr, 1) := by decide +kernel
theorem dJ11_isValidCodePoint_9a6ad_4 : decode cJ11_isValidCodePoint_9a6ad 4 = .ok (.istore_n 1, 1) := by decide +kernel
theorem dJ11_isValidCodePoint_9a6ad_5 : decode cJ11_isValidCodePoint_9a6ad 5 = .ok (.iload_n 1, 1) := by decide +kernel
theorem dJ11_isValidCodePoint_9a6ad_6 : decode cJ11_isValidCodePoint_9a6ad 6 = .ok (.bipush 17, 2) := by decide +kernel
theorem dJ11_isValidCodePoint_9a6ad_8 : decode cJ11_isValidCodePoint_9a6ad 8 = .ok (.if_icmp .ge 7, 3) := by decide +kernel
theorem dJ11_isValidCodePoint_9a6ad_11 : decode cJ11_isValidCodePoint_9a6ad 11 = .ok (.iconst 1, 1) := by decide +kernel
theorem dJ11_isValidCodePoint_9a6ad_12 : decode cJ11_isValidCodePoint_9a6ad 12 = .ok (.goto 4, 3) := by decide +kernel
theorem dJ11_isValidCodePoint_9a6ad_15 : decode cJ11_isValidCodePoint_9a6ad 15 = .ok (.iconst 0, 1) := by decide +kernel
theorem dJ11_isValidCodePoint_9a6ad_16 : decode cJ11_isValidCodePoint_9a6ad 16 = .ok (.ireturn, 1) := by decide +kernel
theorem dJ11_highSurrogate_5068e_0 : decode cJ11_highSurrogate_5068e 0 = .ok (.iload_n 0, 1) := by decide +kernel
theorem dJ11_highSurrogate_5068e_1 : decode cJ11_highSurrogate_5068e 1 = .ok (.bipush 10, 2) := by decide +kernel
theorem dJ11_highSurrogate_5068e_3 : decode cJ11_highSurrogate_5068e 3 = .ok (.iushr, 1) := by decide +kernel
theorem dJ11_highSurrogate_5068e_4 : decode cJ11_highSurrogate_5068e 4 = .ok (.ldc 110, 2) := by decide +kernel
theorem dJ11_highSurrogate_5068e_6 : decode cJ11_highSurrogate_5068e 6 = .ok (.iadd, 1) := by decide +kernel
theorem dJ11_highSurrogate_5068e_7 : decode cJ11_highSurrogate_5068e 7 = .ok (.i2c, 1) := by decide +kernel
theorem dJ11_highSurrogate_5068e_8 : decode cJ11_highSurrogate_5068e 8 = .ok (.ireturn, 1) := by decide +kernel
theorem dJ11_lowSurrogate_5068e_0 : decode cJ11_lowSurrogate_5068e 0 = .ok (.iload_n 0, 1) := by decide +kernel
theorem dJ11_lowSurrogate_5068e_1 : decode cJ11_lowSurrogate_5068e 1 = .ok (.sipush 1023, 3) := by decide +kernel
theorem dJ11_lowSurrogate_5068e_4 : decode cJ11_lowSurrogate_5068e 4 = .ok (.iand, 1) := by decide +kernel
theorem dJ11_lowSurrogate_5068e_5 : decode cJ11_lowSurrogate_5068e 5 = .ok (.ldc 76, 2) := by decide +kernel
theorem dJ11_lowSurrogate_5068e_7 : decode cJ11_lowSurrogate_5068e 7 = .ok (.iadd, 1) := by decide +kernel
theorem dJ11_lowSurrogate_5068e_8 : decode cJ11_lowSurrogate_5068e 8 = .ok (.i2c, 1) := by decide +kernel
theorem dJ11_lowSurrogate_5068e_9 : decode cJ11_lowSurrogate_5068e 9 = .ok (.ireturn, 1) := by decide +kernel
theorem dJ6_bitCount_0f7a4_0 : decode cJ6_bitCount_0f7a4 0 = .ok (.iload_n 0, 1) := by decide +kernel
theorem dJ6_bitCount_0f7a4_1 : decode cJ6_bitCount_0f7a4 1 = .ok (.iload_n 0, 1) := by decide +kernel
theorem dJ6_bitCount_0f7a4_2 : decode cJ6_bitCount_0f7a4 2 = .ok (.iconst 1, 1) := by decide +kernel
theorem dJ6_bitCount_0f7a4_3 : decode cJ6_bitCount_0f7a4 3 = .ok (.iushr, 1) := by decide +kernel
theorem dJ6_bitCount_0f7a4_4 : decode cJ6_bitCount_0f7a4 4 = .ok (.ldc_w 265, 3) := by decide +kernel
theorem dJ6_bitCount_0f7a4_7 : decode cJ6_bitCount_0f7a4 7 = .ok (.iand, 1) := by decide +kernel
theorem dJ6_bitCount_0f7a4_8 : decode cJ6_bitCount_0f7a4 8 = .ok (.isub, 1) := by decide +kernel
theorem dJ6_bitCount_0f7a4_9 : decode cJ6_bitCount_0f7a4 9 = .ok (.istore_n 0, 1) := by decide +kernel
theorem dJ6_bitCount_0f7a4_10 : decode cJ6_bitCount_0f7a4 10 = .ok (.iload_n 0, 1) := by decide +kernel
theorem dJ6_bitCount_0f7a4_11 : decode cJ6_bitCount_0f7a4 11 = .ok (.ldc_w 266, 3) := by decide +kernel
theorem dJ6_bitCount_0f7a4_14 : decode cJ6_bitCount_0f7a4 14 = .ok (.iand, 1) := by decide +kernel
theorem dJ6_bitCount_0f7a4_15 : decode cJ6_bitCount_0f7a4 15 = .ok (.iload_n 0, 1) := by decide +kernel
theorem dJ6_bitCount_0f7a4_16 : decode cJ6_bitCount_0f7a4 16 = .ok (.iconst 2, 1) := by decide +kernel
theorem dJ6_bitCount_0f7a4_17 : decode cJ6_bitCount_0f7a4 17 = .ok (.iushr, 1) := by decide +kernel
theorem dJ6_bitCount_0f7a4_18 : decode cJ6_bitCount_0f7a4 18 = .ok (.ldc_w 266, 3) := by decide +kernel
theorem dJ6_bitCount_0f7a4_21 : decode cJ6_bitCount_0f7a4 21 = .ok (.iand, 1) := by decide +kernel
theorem dJ6_bitCount_0f7a4_22 : decode cJ6_bitCount_0f7a4 22 = .ok (.iadd, 1) := by decide +kernel
theorem dJ6_bitCount_0f7a4_23 : decode cJ6_bitCount_0f7a4 23 = .ok (.istore_n 0, 1) := by decide +kernel
theorem dJ6_bitCount_0f7a4_24 : decode cJ6_bitCount_0f7a4 24 = .ok (.iload_n 0, 1) := by decide +kernel
theorem dJ6_bitCount_0f7a4_25 : decode cJ6_bitCount_0f7a4 25 = .ok (.iload_n 0, 1) := by decide +kernel
theorem dJ6_bitCount_0f7a4_26 : decode cJ6_bitCount_0f7a4 26 = .ok (.iconst 4, 1) := by decide +kernel
theorem dJ6_bitCount_0f7a4_27 : decode cJ6_bitCount_0f7a4 27 = .ok (.iushr, 1) := by decide +kernel
theorem dJ6_bitCount_0f7a4_28 : decode cJ6_bitCount_0f7a4 28 = .ok (.iadd, 1) := by decide +kernel
theorem dJ6_bitCount_0f7a4_29 : decode cJ6_bitCount_0f7a4 29 = .ok (.ldc_w 267, 3) := by decide +kernel
theorem dJ6_bitCount_0f7a4_32 : decode cJ6_bitCount_0f7a4 32 = .ok (.iand, 1) := by decide +kernel
theorem dJ6_bitCount_0f7a4_33 : decode cJ6_bitCount_0f7a4 33 = .ok (.istore_n 0, 1) := by decide +kernel
theorem dJ6_bitCount_0f7a4_34 : decode cJ6_bitCount_0f7a4 34 = .ok (.iload_n 0, 1) := by decide +kernel
theorem dJ6_bitCount_0f7a4_35 : decode cJ6_bitCount_0f7a4 35 = .ok (.iload_n 0, 1) := by decide +kernel
theorem dJ6_bitCount_0f7a4_36 : decode cJ6_bitCount_0f7a4 36 = .ok (.bipush 8, 2) := by decide +kernel
theorem dJ6_bitCount_0f7a4_38 : decode cJ6_bitCount_0f7a4 38 = .ok (.iushr, 1) := by decide +kernel
theorem dJ6_bitCount_0f7a4_39 : decode cJ6_bitCount_0f7a4 39 = .ok (.iadd, 1) := by decide +kernel
theorem dJ6_bitCount_0f7a4_40 : decode cJ6_bitCount_0f7a4 40 = .ok (.istore_n 0, 1) := by decide +kernel
theorem dJ6_bitCount_0f7a4_41 : decode cJ6_bitCount_0f7a4 41 = .ok (.iload_n 0, 1) := by decide +kernel
theorem dJ6_bitCount_0f7a4_42 : decode cJ6_bitCount_0f7a4 42 = .ok (.iload_n 0, 1) := by decide +kernel
theorem dJ6_bitCount_0f7a4_43 : decode cJ6_bitCount_0f7a4 43 = .ok (.bipush 16, 2) := by decide +kernel
theorem dJ6_bitCount_0f7a4_45 : decode cJ6_bitCount_0f7a4 45 = .ok (.iushr, 1) := by decide +kernel
theorem dJ6_bitCount_0f7a4_46 : decode cJ6_bitCount_0f7a4 46 = .ok (.iadd, 1) := by decide +kernel
theorem dJ6_bitCount_0f7a4_47 : decode cJ6_bitCount_0f7a4 47 = .ok (.istore_n 0, 1) := by decide +kernel
theorem dJ6_bitCount_0f7a4_48 : decode cJ6_bitCount_0f7a4 48 = .ok (.iload_n 0, 1) := by decide +kernel
theorem dJ6_bitCount_0f7a4_49 : decode cJ6_bitCount_0f7a4 49 = .ok (.bipush 63, 2) := by decide +kernel
theorem dJ6_bitCount_0f7a4_51 : decode cJ6_bitCount_0f7a4 51 = .ok (.iand, 1) := by decide +kernel
theorem dJ6_bitCount_0f7a4_52 : decode cJ6_bitCount_0f7a4 52 = .ok (.ireturn, 1) := by decide +kernel
theorem dJ9_max_7cf53_0 : decode cJ9_max_7cf53 0 = .ok (.iload_n 0, 1) := by decide +kernel
theorem dJ9_max_7cf53_1 : decode cJ9_max_7cf53 1 = .ok (.iload_n 1, 1) := by decide +kernel
theorem dJ9_max_7cf53_2 : decode cJ9_max_7cf53 2 = .ok (.if_icmp .lt 7, 3) := by decide +kernel
theorem dJ9_max_7cf53_5 : decode cJ9_max_7cf53 5 = .ok (.iload_n 0, 1) := by decide +kernel
theorem dJ9_max_7cf53_6 : decode cJ9_max_7cf53 6 = .ok (.goto 4, 3) := by decide +kernel
theorem dJ9_max_7cf53_9 : decode cJ9_max_7cf53 9 = .ok (.iload_n 1, 1) := by decide +kernel
theorem dJ9_max_7cf53_10 : decode cJ9_max_7cf53 10 = .ok (.ireturn, 1) := by decide +kernel
theorem dJ9_min_7cf53_0 : decode cJ9_min_7cf53 0 = .ok (.iload_n 0, 1) := by decide +kernel
theorem dJ9_min_7cf53_1 : decode cJ9_min_7cf53 1 = .ok (.iload_n 1, 1) := by decide +kernel
theorem dJ9_min_7cf53_2 : decode cJ9_min_7cf53 2 = .ok (.if_icmp .gt 7, 3) := by decide +kernel
theorem dJ9_min_7cf53_5 : decode cJ9_min_7cf53 5 = .ok (.iload_n 0, 1) := by decide +kernel
theorem dJ9_min_7cf53_6 : decode cJ9_min_7cf53 6 = .ok (.goto 4, 3) := by decide +kernel
theorem dJ9_min_7cf53_9 : decode cJ9_min_7cf53 9 = .ok (.iload_n 1, 1) := by decide +kernel
theorem dJ9_min_7cf53_10 : decode cJ9_min_7cf53 10 = .ok (.ireturn, 1) := by decide +kernel
set_option maxRecDepth 20000 in
theorem ggJ0_length_8abf5_J0_coder_7d493 : GoodIn wsJ0_length_8abf5 wsJ0_coder_7d493 := goodIn_r _ [6, 7, 8] (by decide +kernel) (by decide +kernel)
set_option maxRecDepth 20000 in
theorem gJ0_length_8abf5_J0_coder_7d493 : GoodIn wsJ0_length_8abf5 (wsV RJ0 335 RJ0 yJ0_coder_7d493 wsJ0_coder_7d493) := goodIn_app (goodIn_of _ (by decide +kernel)) ggJ0_length_8abf5_J0_coder_7d493
theorem dJ0_length_8abf5_0 : decode cJ0_length_8abf5 0 = .ok (.aload_n 0, 1) := by decide +kernel
theorem dJ0_length_8abf5_1 : decode cJ0_length_8abf5 1 = .ok (.getfield 9, 3) := by decide +kernel
theorem dJ0_length_8abf5_4 : decode cJ0_length_8abf5 4 = .ok (.arraylength, 1) := by decide +kernel
theorem dJ0_length_8abf5_5 : decode cJ0_length_8abf5 5 = .ok (.aload_n 0, 1) := by decide +kernel
theorem dJ0_length_8abf5_6 : decode cJ0_length_8abf5 6 = .ok (.invokevirtual 335, 3) := by decide +kernel
theorem dJ0_length_8abf5_9 : decode cJ0_length_8abf5 9 = .ok (.ishr, 1) := by decide +kernel
theorem dJ0_length_8abf5_10 : decode cJ0_length_8abf5 10 = .ok (.ireturn, 1) := by decide +kernel
set_option maxRecDepth 20000 in
theorem ggJ0_indexOf_0f7a4_J0_indexOf_7cf53 : GoodIn wsJ0_indexOf_0f7a4 wsJ0_indexOf_7cf53 := goodIn_r _ [5, 6, 7, 8, 9, 4, 10, 11, 12, 13, 14, 15, 16, 17, 18, 19, 20, 21, 22, 23, 24, 25, 26, 27, 28, 29, 30, 31, 32, 33, 34, 35, 36, 37, 38, 39, 40, 41, 42, 43, 44, 45, 46, 47, 48, 49, 50, 51, 52, 53, 54, 55, 56, 57, 58, 59, 60, 61, 62, 63, 64, 65, 66, 67, 68, 69, 70, 71, 72, 73, 74, 75, 76, 77, 78, 79, 80, 81, 82, 83, 84, 85] (by decide +kernel) (by decide +kernel)
set_option maxRecDepth 20000 in
theorem gJ0_indexOf_0f7a4_J0_indexOf_7cf53 : GoodIn wsJ0_indexOf_0f7a4 (wsV RJ0 633 RJ0 yJ0_indexOf_7cf53 wsJ0_indexOf_7cf53) := goodIn_app (goodIn_of _ (by decide +kernel)) ggJ0_indexOf_0f7a4_J0_indexOf_7cf53
theorem dJ0_indexOf_0f7a4_0 : decode cJ0_indexOf_0f7a4 0 = .ok (.aload_n 0, 1) := by decide +kernel
theorem dJ0_indexOf_0f7a4_1 : decode cJ0_indexOf_0f7a4 1 = .ok (.iload_n 1, 1) := by decide +kernel
theorem dJ0_indexOf_0f7a4_2 : decode cJ0_indexOf_0f7a4 2 = .ok (.iconst 0, 1) := by decide +kernel
theorem dJ0_indexOf_0f7a4_3 : decode cJ0_indexOf_0f7a4 3 = .ok (.invokevirtual 633, 3) := by decide +kernel
theorem dJ0_indexOf_0f7a4_6 : decode cJ0_indexOf_0f7a4 6 = .ok (.ireturn, 1) := by decide +kernel
set_option maxRecDepth 20000 in
theorem ggJ0_indexOf_7cf53_J0_isLatin1_aae02 : GoodIn wsJ0_indexOf_7cf53 wsJ0_isLatin1_aae02 := goodIn_r _ [6, 7, 8] (by decide +kernel) (by decide +kernel)
set_option maxRecDepth 20000 in
theorem gJ0_indexOf_7cf53_J0_isLatin1_aae02 : GoodIn wsJ0_indexOf_7cf53 (wsV RJ0 492 RJ0 yJ0_isLatin1_aae02 wsJ0_isLatin1_aae02) := goodIn_app (goodIn_of _ (by decide +kernel)) ggJ0_indexOf_7cf53_J0_isLatin1_aae02
set_option maxRecDepth 20000 in
theorem ggJ0_indexOf_7cf53_J0_length_8abf5 : GoodIn wsJ0_indexOf_7cf53 wsJ0_length_8abf5 := goodIn_r _ [12, 1, 13, 14, 15, 5, 16, 7, 8] (by decide +kernel) (by decide +kernel)
set_option maxRecDepth 20000 in
theorem gJ0_indexOf_7cf53_J0_length_8abf5 : GoodIn wsJ0_indexOf_7cf53 (wsV RJ0 505 RJ0 yJ0_length_8abf5 wsJ0_length_8abf5) := goodIn_app (goodIn_of _ (by decide +kernel)) ggJ0_indexOf_7cf53_J0_length_8abf5
set_option maxRecDepth 20000 in
theorem ggJ0_indexOf_7cf53_J1_indexOf_4cfef : GoodIn wsJ0_indexOf_7cf53 wsJ1_indexOf_4cfef := goodIn_r _ [20, 21, 22, 23, 24, 25, 26, 27, 28, 29, 19, 30, 31, 32, 33] (by decide +kernel) (by decide +kernel)
set_option maxRecDepth 20000 in
theorem gJ0_indexOf_7cf53_J1_indexOf_4cfef : GoodIn wsJ0_indexOf_7cf53 (va_wsS RJ0 637 yJ1_indexOf_4cfef wsJ1_indexOf_4cfef) := goodIn_app (goodIn_of _ (by decide +kernel)) ggJ0_indexOf_7cf53_J1_indexOf_4cfef
set_option maxRecDepth 20000 in
theorem ggJ0_indexOf_7cf53_J2_indexOf_4cfef : GoodIn wsJ0_indexOf_7cf53 wsJ2_indexOf_4cfef := goodIn_r _ [37, 38, 22, 23, 24, 39, 26, 27, 40, 41, 42, 36, 43, 44, 45, 46, 47, 48, 49, 50, 51, 5, 52, 53, 54, 55, 56, 57, 58, 59, 60, 61, 62, 63, 64, 65, 66, 67, 68, 69, 70, 71, 72, 73, 74, 75, 76, 77, 78, 79, 80, 81] (by decide +kernel) (by decide +kernel)
set_option maxRecDepth 20000 in
theorem gJ0_indexOf_7cf53_J2_indexOf_4cfef : GoodIn wsJ0_indexOf_7cf53 (va_wsS RJ0 640 yJ2_indexOf_4cfef wsJ2_indexOf_4cfef) := goodIn_app (goodIn_of _ (by decide +kernel)) ggJ0_indexOf_7cf53_J2_indexOf_4cfef
theorem dJ0_indexOf_7cf53_0 : decode cJ0_indexOf_7cf53 0 = .ok (.aload_n 0, 1) := by decide +kernel
theorem dJ0_indexOf_7cf53_1 : decode cJ0_indexOf_7cf53 1 = .ok (.invokevirtual 492, 3) := by decide +kernel
theorem dJ0_indexOf_7cf53_4 : decode cJ0_indexOf_7cf53 4 = .ok (.ifCond .eq 19, 3) := by decide +kernel
theorem dJ0_indexOf_7cf53_7 : decode cJ0_indexOf_7cf53 7 = .ok (.aload_n 0, 1) := by decide +kernel
theorem dJ0_indexOf_7cf53_8 : decode cJ0_indexOf_7cf53 8 = .ok (.getfield 9, 3) := by decide +kernel
theorem dJ0_indexOf_7cf53_11 : decode cJ0_indexOf_7cf53 11 = .ok (.iload_n 1, 1) := by decide +kernel
theorem dJ0_indexOf_7cf53_12 : decode cJ0_indexOf_7cf53 12 = .ok (.iload_n 2, 1) := by decide +kernel
theorem dJ0_indexOf_7cf53_13 : decode cJ0_indexOf_7cf53 13 = .ok (.aload_n 0, 1) := by decide +kernel
theorem dJ0_indexOf_7cf53_14 : decode cJ0_indexOf_7cf53 14 = .ok (.invokevirtual 505, 3) := by decide +kernel
theorem dJ0_indexOf_7cf53_17 : decode cJ0_indexOf_7cf53 17 = .ok (.invokestatic 637, 3) := by decide +kernel
theorem dJ0_indexOf_7cf53_20 : decode cJ0_indexOf_7cf53 20 = .ok (.goto 16, 3) := by decide +kernel
theorem dJ0_indexOf_7cf53_23 : decode cJ0_indexOf_7cf53 23 = .ok (.aload_n 0, 1) := by decide +kernel
theorem dJ0_indexOf_7cf53_24 : decode cJ0_indexOf_7cf53 24 = .ok (.getfield 9, 3) := by decide +kernel
theorem dJ0_indexOf_7cf53_27 : decode cJ0_indexOf_7cf53 27 = .ok (.iload_n 1, 1) := by decide +kernel
theorem dJ0_indexOf_7cf53_28 : decode cJ0_indexOf_7cf53 28 = .ok (.iload_n 2, 1) := by decide +kernel
theorem dJ0_indexOf_7cf53_29 : decode cJ0_indexOf_7cf53 29 = .ok (.aload_n 0, 1) := by decide +kernel
theorem dJ0_indexOf_7cf53_30 : decode cJ0_indexOf_7cf53 30 = .ok (.invokevirtual 505, 3) := by decide +kernel
theorem dJ0_indexOf_7cf53_33 : decode cJ0_indexOf_7cf53 33 = .ok (.invokestatic 640, 3) := by decide +kernel
theorem dJ0_indexOf_7cf53_36 : decode cJ0_indexOf_7cf53 36 = .ok (.ireturn, 1) := by decide +kernel
theorem dJ0_coder_7d493_0 : decode cJ0_coder_7d493 0 = .ok (.getstatic 38, 3) := by decide +kernel
theorem dJ0_coder_7d493_3 : decode cJ0_coder_7d493 3 = .ok (.ifCond .eq 10, 3) := by decide +kernel
theorem dJ0_coder_7d493_6 : decode cJ0_coder_7d493 6 = .ok (.aload_n 0, 1) := by decide +kernel
theorem dJ0_coder_7d493_7 : decode cJ0_coder_7d493 7 = .ok (.getfield 15, 3) := by decide +kernel
theorem dJ0_coder_7d493_10 : decode cJ0_coder_7d493 10 = .ok (.goto 4, 3) := by decide +kernel
theorem dJ0_coder_7d493_13 : decode cJ0_coder_7d493 13 = .ok (.iconst 1, 1) := by decide +kernel
theorem dJ0_coder_7d493_14 : decode cJ0_coder_7d493 14 = .ok (.ireturn, 1) := by decide +kernel
theorem dJ0_isLatin1_aae02_0 : decode cJ0_isLatin1_aae02 0 = .ok (.getstatic 38, 3) := by decide +kernel
theorem dJ0_isLatin1_aae02_3 : decode cJ0_isLatin1_aae02 3 = .ok (.ifCond .eq 14, 3) := by decide +kernel
theorem dJ0_isLatin1_aae02_6 : decode cJ0_isLatin1_aae02 6 = .ok (.aload_n 0, 1) := by decide +kernel
theorem dJ0_isLatin1_aae02_7 : decode cJ0_isLatin1_aae02 7 = .ok (.getfield 15, 3) := by decide +kernel
theorem dJ0_isLatin1_aae02_10 : decode cJ0_isLatin1_aae02 10 = .ok (.ifCond .ne 7, 3) := by decide +kernel
theorem dJ0_isLatin1_aae02_13 : decode cJ0_isLatin1_aae02 13 = .ok (.iconst 1, 1) := by decide +kernel
theorem dJ0_isLatin1_aae02_14 : decode cJ0_isLatin1_aae02 14 = .ok (.goto 4, 3) := by decide +kernel
theorem dJ0_isLatin1_aae02_17 : decode cJ0_isLatin1_aae02 17 = .ok (.iconst 0, 1) := by decide +kernel
theorem dJ0_isLatin1_aae02_18 : decode cJ0_isLatin1_aae02 18 = .ok (.ireturn, 1) := by decide +kernel
set_option maxRecDepth 20000 in
theorem ggJ0_checkBoundsBeginEnd_23922_J3_checkFromToIndex_8c36e : GoodIn wsJ0_checkBoundsBeginEnd_23922 wsJ3_checkFromToIndex_8c36e := goodIn_r _ [5] (by decide +kernel) (by decide +kernel)
set_option maxRecDepth 20000 in
theorem gJ0_checkBoundsBeginEnd_23922_J3_checkFromToIndex_8c36e : GoodIn wsJ0_checkBoundsBeginEnd_23922 (va_wsS RJ0 1062 yJ3_checkFromToIndex_8c36e wsJ3_checkFromToIndex_8c36e) := goodIn_app (goodIn_of _ (by decide +kernel)) ggJ0_checkBoundsBeginEnd_23922_J3_checkFromToIndex_8c36e
theorem dJ0_checkBoundsBeginEnd_23922_0 : decode cJ0_checkBoundsBeginEnd_23922 0 = .ok (.iload_n 0, 1) := by decide +kernel
theorem dJ0_checkBoundsBeginEnd_23922_1 : decode cJ0_checkBoundsBeginEnd_23922 1 = .ok (.iload_n 1, 1) := by decide +kernel
theorem dJ0_checkBoundsBeginEnd_23922_2 : decode cJ0_checkBoundsBeginEnd_23922 2 = .ok (.iload_n 2, 1) := by decide +kernel
theorem dJ0_checkBoundsBeginEnd_23922_3 : decode cJ0_checkBoundsBeginEnd_23922 3 = .ok (.getstatic 1053, 3) := by decide +kernel
theorem dJ0_checkBoundsBeginEnd_23922_6 : decode cJ0_checkBoundsBeginEnd_23922 6 = .ok (.invokestatic 1062, 3) := by decide +kernel
theorem dJ0_checkBoundsBeginEnd_23922_9 : decode cJ0_checkBoundsBeginEnd_23922 9 = .ok (.pop, 1) := by decide +kernel
theorem dJ0_checkBoundsBeginEnd_23922_10 : decode cJ0_checkBoundsBeginEnd_23922 10 = .ok (.return_, 1) := by decide +kernel
theorem dJ1_canEncode_9a6ad_0 : decode cJ1_canEncode_9a6ad 0 = .ok (.iload_n 0, 1) := by decide +kernel
theorem dJ1_canEncode_9a6ad_1 : decode cJ1_canEncode_9a6ad 1 = .ok (.ifCond .lt 14, 3) := by decide +kernel
theorem dJ1_canEncode_9a6ad_4 : decode cJ1_canEncode_9a6ad 4 = .ok (.iload_n 0, 1) := by decide +kernel
theorem dJ1_canEncode_9a6ad_5 : decode cJ1_canEncode_9a6ad 5 = .ok (.sipush 255, 3) := by decide +kernel
theorem dJ1_canEncode_9a6ad_8 : decode cJ1_canEncode_9a6ad 8 = .ok (.if_icmp .gt 7, 3) := by decide +kernel
theorem dJ1_canEncode_9a6ad_11 : decode cJ1_canEncode_9a6ad 11 = .ok (.iconst 1, 1) := by decide +kernel
theorem dJ1_canEncode_9a6ad_12 : decode cJ1_canEncode_9a6ad 12 = .ok (.goto 4, 3) := by decide +kernel
theorem dJ1_canEncode_9a6ad_15 : decode cJ1_canEncode_9a6ad 15 = .ok (.iconst 0, 1) := by decide +kernel
theorem dJ1_canEncode_9a6ad_16 : decode cJ1_canEncode_9a6ad 16 = .ok (.ireturn, 1) := by decide +kernel
set_option maxRecDepth 20000 in
theorem ggJ1_indexOf_4cfef_J1_canEncode_9a6ad : GoodIn wsJ1_indexOf_4cfef wsJ1_canEncode_9a6ad := goodIn_r _ [11] (by decide +kernel) (by decide +kernel)
set_option maxRecDepth 20000 in
theorem gJ1_indexOf_4cfef_J1_canEncode_9a6ad : GoodIn wsJ1_indexOf_4cfef (va_wsS RJ1 88 yJ1_canEncode_9a6ad wsJ1_canEncode_9a6ad) := goodIn_app (goodIn_of _ (by decide +kernel)) ggJ1_indexOf_4cfef_J1_canEncode_9a6ad
set_option maxRecDepth 20000 in
theorem ggJ1_indexOf_4cfef_J1_indexOfChar_4cfef : GoodIn wsJ1_indexOf_4cfef wsJ1_indexOfChar_4cfef := goodIn_r _ [14] (by decide +kernel) (by decide +kernel)
set_option maxRecDepth 20000 in
theorem gJ1_indexOf_4cfef_J1_indexOfChar_4cfef : GoodIn wsJ1_indexOf_4cfef (va_wsS RJ1 95 yJ1_indexOfChar_4cfef wsJ1_indexOfChar_4cfef) := goodIn_app (goodIn_of _ (by decide +kernel)) ggJ1_indexOf_4cfef_J1_indexOfChar_4cfef
theorem dJ1_indexOf_4cfef_0 : decode cJ1_indexOf_4cfef 0 = .ok (.iload_n 1, 1) := by decide +kernel
theorem dJ1_indexOf_4cfef_1 : decode cJ1_indexOf_4cfef 1 = .ok (.invokestatic 88, 3) := by decide +kernel
theorem dJ1_indexOf_4cfef_4 : decode cJ1_indexOf_4cfef 4 = .ok (.ifCond .ne 5, 3) := by decide +kernel
theorem dJ1_indexOf_4cfef_7 : decode cJ1_indexOf_4cfef 7 = .ok (.iconst (-1), 1) := by decide +kernel
theorem dJ1_indexOf_4cfef_8 : decode cJ1_indexOf_4cfef 8 = .ok (.ireturn, 1) := by decide +kernel
theorem dJ1_indexOf_4cfef_9 : decode cJ1_indexOf_4cfef 9 = .ok (.iload_n 2, 1) := by decide +kernel
theorem dJ1_indexOf_4cfef_10 : decode cJ1_indexOf_4cfef 10 = .ok (.iconst 0, 1) := by decide +kernel
theorem dJ1_indexOf_4cfef_11 : decode cJ1_indexOf_4cfef 11 = .ok (.invokestatic 92, 3) := by decide +kernel
theorem dJ1_indexOf_4cfef_14 : decode cJ1_indexOf_4cfef 14 = .ok (.istore_n 2, 1) := by decide +kernel
theorem dJ1_indexOf_4cfef_15 : decode cJ1_indexOf_4cfef 15 = .ok (.iload_n 3, 1) := by decide +kernel
theorem dJ1_indexOf_4cfef_16 : decode cJ1_indexOf_4cfef 16 = .ok (.aload_n 0, 1) := by decide +kernel
theorem dJ1_indexOf_4cfef_17 : decode cJ1_indexOf_4cfef 17 = .ok (.arraylength, 1) := by decide +kernel
theorem dJ1_indexOf_4cfef_18 : decode cJ1_indexOf_4cfef 18 = .ok (.invokestatic 38, 3) := by decide +kernel
theorem dJ1_indexOf_4cfef_21 : decode cJ1_indexOf_4cfef 21 = .ok (.istore_n 3, 1) := by decide +kernel
theorem dJ1_indexOf_4cfef_22 : decode cJ1_indexOf_4cfef 22 = .ok (.iload_n 2, 1) := by decide +kernel
theorem dJ1_indexOf_4cfef_23 : decode cJ1_indexOf_4cfef 23 = .ok (.iload_n 3, 1) := by decide +kernel
theorem dJ1_indexOf_4cfef_24 : decode cJ1_indexOf_4cfef 24 = .ok (.if_icmp .lt 5, 3) := by decide +kernel
theorem dJ1_indexOf_4cfef_27 : decode cJ1_indexOf_4cfef 27 = .ok (.iconst (-1), 1) := by decide +kernel
theorem dJ1_indexOf_4cfef_28 : decode cJ1_indexOf_4cfef 28 = .ok (.ireturn, 1) := by decide +kernel
theorem dJ1_indexOf_4cfef_29 : decode cJ1_indexOf_4cfef 29 = .ok (.aload_n 0, 1) := by decide +kernel
theorem dJ1_indexOf_4cfef_30 : decode cJ1_indexOf_4cfef 30 = .ok (.iload_n 1, 1) := by decide +kernel
theorem dJ1_indexOf_4cfef_31 : decode cJ1_indexOf_4cfef 31 = .ok (.iload_n 2, 1) := by decide +kernel
theorem dJ1_indexOf_4cfef_32 : decode cJ1_indexOf_4cfef 32 = .ok (.iload_n 3, 1) := by decide +kernel
theorem dJ1_indexOf_4cfef_33 : decode cJ1_indexOf_4cfef 33 = .ok (.invokestatic 95, 3) := by decide +kernel
theorem dJ1_indexOf_4cfef_36 : decode cJ1_indexOf_4cfef 36 = .ok (.ireturn, 1) := by decide +kernel
theorem dJ1_indexOfChar_4cfef_0 : decode cJ1_indexOfChar_4cfef 0 = .ok (.iload_n 1, 1) := by decide +kernel
theorem dJ1_indexOfChar_4cfef_1 : decode cJ1_indexOfChar_4cfef 1 = .ok (.i2b, 1) := by decide +kernel
theorem dJ1_indexOfChar_4cfef_2 : decode cJ1_indexOfChar_4cfef 2 = .ok (.istore 4, 2) := by decide +kernel
theorem dJ1_indexOfChar_4cfef_4 : decode cJ1_indexOfChar_4cfef 4 = .ok (.iload_n 2, 1) := by decide +kernel
theorem dJ1_indexOfChar_4cfef_5 : decode cJ1_indexOfChar_4cfef 5 = .ok (.istore 5, 2) := by decide +kernel
theorem dJ1_indexOfChar_4cfef_7 : decode cJ1_indexOfChar_4cfef 7 = .ok (.iload 5, 2) := by decide +kernel
theorem dJ1_indexOfChar_4cfef_9 : decode cJ1_indexOfChar_4cfef 9 = .ok (.iload_n 3, 1) := by decide +kernel
theorem dJ1_indexOfChar_4cfef_10 : decode cJ1_indexOfChar_4cfef 10 = .ok (.if_icmp .ge 21, 3) := by decide +kernel
theorem dJ1_indexOfChar_4cfef_13 : decode cJ1_indexOfChar_4cfef 13 = .ok (.aload_n 0, 1) := by decide +kernel
theorem dJ1_indexOfChar_4cfef_14 : decode cJ1_indexOfChar_4cfef 14 = .ok (.iload 5, 2) := by decide +kernel
theorem dJ1_indexOfChar_4cfef_16 : decode cJ1_indexOfChar_4cfef 16 = .ok (.baload, 1) := by decide +kernel
theorem dJ1_indexOfChar_4cfef_17 : decode cJ1_indexOfChar_4cfef 17 = .ok (.iload 4, 2) := by decide +kernel
theorem dJ1_indexOfChar_4cfef_19 : decode cJ1_indexOfChar_4cfef 19 = .ok (.if_icmp .ne 6, 3) := by decide +kernel
theorem dJ1_indexOfChar_4cfef_22 : decode cJ1_indexOfChar_4cfef 22 = .ok (.iload 5, 2) := by decide +kernel
theorem dJ1_indexOfChar_4cfef_24 : decode cJ1_indexOfChar_4cfef 24 = .ok (.ireturn, 1) := by decide +kernel
theorem dJ1_indexOfChar_4cfef_25 : decode cJ1_indexOfChar_4cfef 25 = .ok (.iinc 5 1, 3) := by decide +kernel
theorem dJ1_indexOfChar_4cfef_28 : decode cJ1_indexOfChar_4cfef 28 = .ok (.goto (-21), 3) := by decide +kernel
theorem dJ1_indexOfChar_4cfef_31 : decode cJ1_indexOfChar_4cfef 31 = .ok (.iconst (-1), 1) := by decide +kernel
theorem dJ1_indexOfChar_4cfef_32 : decode cJ1_indexOfChar_4cfef 32 = .ok (.ireturn, 1) := by decide +kernel
set_option maxRecDepth 20000 in
theorem ggJ2_getChar_3b067_J2_length_9d52b : GoodIn wsJ2_getChar_3b067 wsJ2_length_9d52b := goodIn_r _ [7] (by decide +kernel) (by decide +kernel)
set_option maxRecDepth 20000 in
theorem gJ2_getChar_3b067_J2_length_9d52b : GoodIn wsJ2_getChar_3b067 (va_wsS RJ2 48 yJ2_length_9d52b wsJ2_length_9d52b) := goodIn_app (goodIn_of _ (by decide +kernel)) ggJ2_getChar_3b067_J2_length_9d52b
theorem dJ2_getChar_3b067_0 : decode cJ2_getChar_3b067 0 = .ok (.getstatic 44, 3) := by decide +kernel
theorem dJ2_getChar_3b067_3 : decode cJ2_getChar_3b067 3 = .ok (.ifCond .ne 25, 3) := by decide +kernel
theorem dJ2_getChar_3b067_6 : decode cJ2_getChar_3b067 6 = .ok (.iload_n 1, 1) := by decide +kernel
theorem dJ2_getChar_3b067_7 : decode cJ2_getChar_3b067 7 = .ok (.ifCond .lt 11, 3) := by decide +kernel
theorem dJ2_getChar_3b067_10 : decode cJ2_getChar_3b067 10 = .ok (.iload_n 1, 1) := by decide +kernel
theorem dJ2_getChar_3b067_11 : decode cJ2_getChar_3b067 11 = .ok (.aload_n 0, 1) := by decide +kernel
theorem dJ2_getChar_3b067_12 : decode cJ2_getChar_3b067 12 = .ok (.invokestatic 48, 3) := by decide +kernel
theorem dJ2_getChar_3b067_15 : decode cJ2_getChar_3b067 15 = .ok (.if_icmp .lt 13, 3) := by decide +kernel
theorem dJ2_getChar_3b067_18 : decode cJ2_getChar_3b067 18 = .ok (.new 52, 3) := by decide +kernel
theorem dJ2_getChar_3b067_21 : decode cJ2_getChar_3b067 21 = .ok (.dup, 1) := by decide +kernel
theorem dJ2_getChar_3b067_22 : decode cJ2_getChar_3b067 22 = .ok (.ldc 54, 2) := by decide +kernel
theorem dJ2_getChar_3b067_24 : decode cJ2_getChar_3b067 24 = .ok (.invokespecial 56, 3) := by decide +kernel
theorem dJ2_getChar_3b067_27 : decode cJ2_getChar_3b067 27 = .ok (.athrow, 1) := by decide +kernel
theorem dJ2_getChar_3b067_28 : decode cJ2_getChar_3b067 28 = .ok (.iload_n 1, 1) := by decide +kernel
theorem dJ2_getChar_3b067_29 : decode cJ2_getChar_3b067 29 = .ok (.iconst 1, 1) := by decide +kernel
theorem dJ2_getChar_3b067_30 : decode cJ2_getChar_3b067 30 = .ok (.ishl, 1) := by decide +kernel
theorem dJ2_getChar_3b067_31 : decode cJ2_getChar_3b067 31 = .ok (.istore_n 1, 1) := by decide +kernel
theorem dJ2_getChar_3b067_32 : decode cJ2_getChar_3b067 32 = .ok (.aload_n 0, 1) := by decide +kernel
theorem dJ2_getChar_3b067_33 : decode cJ2_getChar_3b067 33 = .ok (.iload_n 1, 1) := by decide +kernel
theorem dJ2_getChar_3b067_34 : decode cJ2_getChar_3b067 34 = .ok (.iinc 1 1, 3) := by decide +kernel
theorem dJ2_getChar_3b067_37 : decode cJ2_getChar_3b067 37 = .ok (.baload, 1) := by decide +kernel
theorem dJ2_getChar_3b067_38 : decode cJ2_getChar_3b067 38 = .ok (.sipush 255, 3) := by decide +kernel
theorem dJ2_getChar_3b067_41 : decode cJ2_getChar_3b067 41 = .ok (.iand, 1) := by decide +kernel
theorem dJ2_getChar_3b067_42 : decode cJ2_getChar_3b067 42 = .ok (.getstatic 59, 3) := by decide +kernel
theorem dJ2_getChar_3b067_45 : decode cJ2_getChar_3b067 45 = .ok (.ishl, 1) := by decide +kernel
theorem dJ2_getChar_3b067_46 : decode cJ2_getChar_3b067 46 = .ok (.aload_n 0, 1) := by decide +kernel
theorem dJ2_getChar_3b067_47 : decode cJ2_getChar_3b067 47 = .ok (.iload_n 1, 1) := by decide +kernel
theorem dJ2_getChar_3b067_48 : decode cJ2_getChar_3b067 48 = .ok (.baload, 1) := by decide +kernel
theorem dJ2_getChar_3b067_49 : decode cJ2_getChar_3b067 49 = .ok (.sipush 255, 3) := by decide +kernel
theorem dJ2_getChar_3b067_52 : decode cJ2_getChar_3b067 52 = .ok (.iand, 1) := by decide +kernel
