theorem dX8_restore_0 : decode cX8_restore 0 = .ok (.aload_n 0, 1) := by decide +kernel
theorem dX8_restore_1 : decode cX8_restore 1 = .ok (.getfield 318, 3) := by decide +kernel
theorem dX8_restore_4 : decode cX8_restore 4 = .ok (.ifCond .ne 9, 3) := by decide +kernel
theorem dX8_restore_7 : decode cX8_restore 7 = .ok (.aload_n 0, 1) := by decide +kernel
theorem dX8_restore_8 : decode cX8_restore 8 = .ok (.iconst 2, 1) := by decide +kernel
theorem dX8_restore_9 : decode cX8_restore 9 = .ok (.invokevirtual 64, 3) := by decide +kernel
theorem dX8_restore_12 : decode cX8_restore 12 = .ok (.ireturn, 1) := by decide +kernel
theorem dX8_restore_13 : decode cX8_restore 13 = .ok (.aload_n 0, 1) := by decide +kernel
theorem dX8_restore_14 : decode cX8_restore 14 = .ok (.getfield 10, 3) := by decide +kernel
theorem dX8_restore_17 : decode cX8_restore 17 = .ok (.aload_n 0, 1) := by decide +kernel
theorem dX8_restore_18 : decode cX8_restore 18 = .ok (.getfield 19, 3) := by decide +kernel
theorem dX8_restore_21 : decode cX8_restore 21 = .ok (.invokevirtual 210, 3) := by decide +kernel
theorem dX8_restore_24 : decode cX8_restore 24 = .ok (.aload_n 0, 1) := by decide +kernel
theorem dX8_restore_25 : decode cX8_restore 25 = .ok (.getfield 10, 3) := by decide +kernel
theorem dX8_restore_28 : decode cX8_restore 28 = .ok (.getfield 130, 3) := by decide +kernel
theorem dX8_restore_31 : decode cX8_restore 31 = .ok (.ireturn, 1) := by decide +kernel
set_option maxRecDepth 20000 in
theorem ggX8_tell_X8_error : GoodIn wsX8_tell wsX8_error := goodIn_r _ [8, 9, 10, 11, 12, 7, 13, 21, 22, 23, 24, 25, 26, 27, 28, 29, 30, 31] (by decide +kernel) (by decide +kernel)
set_option maxRecDepth 20000 in
theorem gX8_tell_X8_error : GoodIn wsX8_tell (wsV RX8 64 RX8 yX8_error wsX8_error) := goodIn_app (goodIn_of _ (by decide +kernel)) ggX8_tell_X8_error
set_option maxRecDepth 20000 in
theorem ggX8_tell_X4_add : GoodIn wsX8_tell wsX4_add := goodIn_r _ [18, 19, 20, 51, 52] (by decide +kernel) (by decide +kernel)
set_option maxRecDepth 20000 in
theorem gX8_tell_X4_add : GoodIn wsX8_tell (wsV RX8 163 RX4 yX4_add wsX4_add) := goodIn_app (goodIn_of _ (by decide +kernel)) ggX8_tell_X4_add
theorem dX8_tell_0 : decode cX8_tell 0 = .ok (.aload_n 0, 1) := by decide +kernel
theorem dX8_tell_1 : decode cX8_tell 1 = .ok (.getfield 10, 3) := by decide +kernel
theorem dX8_tell_4 : decode cX8_tell 4 = .ok (.getfield 321, 3) := by decide +kernel
theorem dX8_tell_7 : decode cX8_tell 7 = .ok (.getfield 156, 3) := by decide +kernel
theorem dX8_tell_10 : decode cX8_tell 10 = .ok (.bipush 20, 2) := by decide +kernel
theorem dX8_tell_12 : decode cX8_tell 12 = .ok (.if_icmp .lt 9, 3) := by decide +kernel
theorem dX8_tell_15 : decode cX8_tell 15 = .ok (.aload_n 0, 1) := by decide +kernel
theorem dX8_tell_16 : decode cX8_tell 16 = .ok (.iconst 4, 1) := by decide +kernel
theorem dX8_tell_17 : decode cX8_tell 17 = .ok (.invokevirtual 64, 3) := by decide +kernel
theorem dX8_tell_20 : decode cX8_tell 20 = .ok (.ireturn, 1) := by decide +kernel
theorem dX8_tell_21 : decode cX8_tell 21 = .ok (.aload_n 0, 1) := by decide +kernel
theorem dX8_tell_22 : decode cX8_tell 22 = .ok (.getfield 10, 3) := by decide +kernel
theorem dX8_tell_25 : decode cX8_tell 25 = .ok (.getfield 321, 3) := by decide +kernel
theorem dX8_tell_28 : decode cX8_tell 28 = .ok (.iload_n 1, 1) := by decide +kernel
theorem dX8_tell_29 : decode cX8_tell 29 = .ok (.invokevirtual 163, 3) := by decide +kernel
theorem dX8_tell_32 : decode cX8_tell 32 = .ok (.aload_n 0, 1) := by decide +kernel
theorem dX8_tell_33 : decode cX8_tell 33 = .ok (.getfield 10, 3) := by decide +kernel
theorem dX8_tell_36 : decode cX8_tell 36 = .ok (.getfield 321, 3) := by decide +kernel
theorem dX8_tell_39 : decode cX8_tell 39 = .ok (.getfield 156, 3) := by decide +kernel
theorem dX8_tell_42 : decode cX8_tell 42 = .ok (.ireturn, 1) := by decide +kernel
set_option maxRecDepth 20000 in
theorem ggX8_check_X0_takeOver : GoodIn wsX8_check wsX0_takeOver := goodIn_r _ [9, 10, 11, 12, 13, 14, 15, 16, 17, 18, 19, 20, 21, 22, 23, 24, 25, 26, 27, 28, 29, 30, 31, 32, 33, 34, 35, 36, 37, 38, 39, 40, 41, 42, 43, 44, 45, 46, 47, 48, 49, 50, 152, 153, 154, 155, 156, 157, 158, 159, 160, 161, 162, 163, 164, 165, 166, 167, 168, 169, 170, 171, 172] (by decide +kernel) (by decide +kernel)
set_option maxRecDepth 20000 in
theorem gX8_check_X0_takeOver : GoodIn wsX8_check (wsV RX8 210 RX0 yX0_takeOver wsX0_takeOver) := goodIn_app (goodIn_of _ (by decide +kernel)) ggX8_check_X0_takeOver
set_option maxRecDepth 20000 in
theorem ggX8_check_X0_passHour : GoodIn wsX8_check wsX0_passHour := goodIn_r _ [54, 22, 25, 11, 20, 55, 56, 57, 58, 21, 59, 60, 61, 62, 8, 63, 64, 23, 24, 19, 17, 10, 16, 65, 66, 67, 68, 69, 70, 71, 72, 73, 74, 75, 76, 77, 78, 79, 80, 27, 81, 82, 83, 84, 85, 86, 87, 88, 89, 90, 91, 92, 93, 94, 95, 96, 97, 98, 99, 100, 101, 102, 103, 104, 105, 106, 107, 108, 109, 110, 111, 112, 113, 114, 115, 116, 117, 118, 119, 120, 121, 122, 123, 28, 124, 125, 126, 127, 128, 129, 130, 26, 152, 153, 154, 155, 156, 157, 158, 159, 160, 161, 162, 163, 164, 165, 166, 167, 168, 169, 170, 173, 174] (by decide +kernel) (by decide +kernel)
set_option maxRecDepth 20000 in
theorem gX8_check_X0_passHour : GoodIn wsX8_check (wsV RX8 194 RX0 yX0_passHour wsX0_passHour) := goodIn_app (goodIn_of _ (by decide +kernel)) ggX8_check_X0_passHour
set_option maxRecDepth 20000 in
theorem ggX8_check_X0_together : GoodIn wsX8_check wsX0_together := goodIn_r _ [134, 10, 135, 136, 137, 8, 138, 11, 101, 92, 102, 152, 153, 154, 155, 156, 157, 158, 159, 160, 161, 162, 163, 164, 165, 166, 167, 168, 169, 170] (by decide +kernel) (by decide +kernel)
set_option maxRecDepth 20000 in
theorem gX8_check_X0_together : GoodIn wsX8_check (wsV RX8 197 RX0 yX0_together wsX0_together) := goodIn_app (goodIn_of _ (by decide +kernel)) ggX8_check_X0_together
set_option maxRecDepth 20000 in
theorem ggX8_check_X4_get : GoodIn wsX8_check wsX4_get := goodIn_r _ [45, 37, 46, 171, 172] (by decide +kernel) (by decide +kernel)
set_option maxRecDepth 20000 in
theorem gX8_check_X4_get : GoodIn wsX8_check (wsV RX8 295 RX4 yX4_get wsX4_get) := goodIn_app (goodIn_of _ (by decide +kernel)) ggX8_check_X4_get
set_option maxRecDepth 20000 in
theorem ggX8_check_X4_clear : GoodIn wsX8_check wsX4_clear := goodIn_r _ [41, 37, 171, 172] (by decide +kernel) (by decide +kernel)
set_option maxRecDepth 20000 in
theorem gX8_check_X4_clear : GoodIn wsX8_check (wsV RX8 174 RX4 yX4_clear wsX4_clear) := goodIn_app (goodIn_of _ (by decide +kernel)) ggX8_check_X4_clear
theorem dX8_check_0 : decode cX8_check 0 = .ok (.iconst 0, 1) := by decide +kernel
theorem dX8_check_1 : decode cX8_check 1 = .ok (.istore_n 1, 1) := by decide +kernel
theorem dX8_check_2 : decode cX8_check 2 = .ok (.aload_n 0, 1) := by decide +kernel
theorem dX8_check_3 : decode cX8_check 3 = .ok (.getfield 16, 3) := by decide +kernel
theorem dX8_check_6 : decode cX8_check 6 = .ok (.aload_n 0, 1) := by decide +kernel
theorem dX8_check_7 : decode cX8_check 7 = .ok (.getfield 10, 3) := by decide +kernel
theorem dX8_check_10 : decode cX8_check 10 = .ok (.invokevirtual 210, 3) := by decide +kernel
theorem dX8_check_13 : decode cX8_check 13 = .ok (.iconst 0, 1) := by decide +kernel
theorem dX8_check_14 : decode cX8_check 14 = .ok (.istore_n 2, 1) := by decide +kernel
theorem dX8_check_15 : decode cX8_check 15 = .ok (.iload_n 2, 1) := by decide +kernel
theorem dX8_check_16 : decode cX8_check 16 = .ok (.aload_n 0, 1) := by decide +kernel
theorem dX8_check_17 : decode cX8_check 17 = .ok (.getfield 10, 3) := by decide +kernel
theorem dX8_check_20 : decode cX8_check 20 = .ok (.getfield 321, 3) := by decide +kernel
theorem dX8_check_23 : decode cX8_check 23 = .ok (.getfield 156, 3) := by decide +kernel
theorem dX8_check_26 : decode cX8_check 26 = .ok (.if_icmp .ge 45, 3) := by decide +kernel
theorem dX8_check_29 : decode cX8_check 29 = .ok (.iload_n 1, 1) := by decide +kernel
theorem dX8_check_30 : decode cX8_check 30 = .ok (.ifCond .ne 41, 3) := by decide +kernel
theorem dX8_check_33 : decode cX8_check 33 = .ok (.aload_n 0, 1) := by decide +kernel
theorem dX8_check_34 : decode cX8_check 34 = .ok (.getfield 16, 3) := by decide +kernel
theorem dX8_check_37 : decode cX8_check 37 = .ok (.invokevirtual 194, 3) := by decide +kernel
theorem dX8_check_40 : decode cX8_check 40 = .ok (.aload_n 0, 1) := by decide +kernel
theorem dX8_check_41 : decode cX8_check 41 = .ok (.getfield 16, 3) := by decide +kernel
theorem dX8_check_44 : decode cX8_check 44 = .ok (.invokevirtual 197, 3) := by decide +kernel
theorem dX8_check_47 : decode cX8_check 47 = .ok (.aload_n 0, 1) := by decide +kernel
theorem dX8_check_48 : decode cX8_check 48 = .ok (.getfield 10, 3) := by decide +kernel
theorem dX8_check_51 : decode cX8_check 51 = .ok (.getfield 321, 3) := by decide +kernel
theorem dX8_check_54 : decode cX8_check 54 = .ok (.iload_n 2, 1) := by decide +kernel
theorem dX8_check_55 : decode cX8_check 55 = .ok (.invokevirtual 295, 3) := by decide +kernel
theorem dX8_check_58 : decode cX8_check 58 = .ok (.if_icmp .eq 7, 3) := by decide +kernel
theorem dX8_check_61 : decode cX8_check 61 = .ok (.iconst 1, 1) := by decide +kernel
theorem dX8_check_62 : decode cX8_check 62 = .ok (.iload_n 2, 1) := by decide +kernel
theorem dX8_check_63 : decode cX8_check 63 = .ok (.iadd, 1) := by decide +kernel
theorem dX8_check_64 : decode cX8_check 64 = .ok (.istore_n 1, 1) := by decide +kernel
theorem dX8_check_65 : decode cX8_check 65 = .ok (.iinc 2 1, 3) := by decide +kernel
theorem dX8_check_68 : decode cX8_check 68 = .ok (.goto (-53), 3) := by decide +kernel
theorem dX8_check_71 : decode cX8_check 71 = .ok (.aload_n 0, 1) := by decide +kernel
theorem dX8_check_72 : decode cX8_check 72 = .ok (.getfield 10, 3) := by decide +kernel
theorem dX8_check_75 : decode cX8_check 75 = .ok (.getfield 321, 3) := by decide +kernel
theorem dX8_check_78 : decode cX8_check 78 = .ok (.invokevirtual 174, 3) := by decide +kernel
theorem dX8_check_81 : decode cX8_check 81 = .ok (.iload_n 1, 1) := by decide +kernel
theorem dX8_check_82 : decode cX8_check 82 = .ok (.ireturn, 1) := by decide +kernel
set_option maxRecDepth 20000 in
theorem ggX8_count_X0_together : GoodIn wsX8_count wsX0_together := goodIn_r _ [19, 20, 21, 22, 23, 18, 24, 25, 26, 27, 28, 49, 50, 51, 52, 53, 54, 55, 56, 57, 58, 59, 60, 61, 62, 63, 64, 65, 66, 67] (by decide +kernel) (by decide +kernel)
set_option maxRecDepth 20000 in
theorem gX8_count_X0_together : GoodIn wsX8_count (wsV RX8 197 RX0 yX0_together wsX0_together) := goodIn_app (goodIn_of _ (by decide +kernel)) ggX8_count_X0_together
set_option maxRecDepth 20000 in
theorem ggX8_count_X8_error : GoodIn wsX8_count wsX8_error := goodIn_r _ [32, 33, 34, 35, 36, 27, 37, 38, 39, 40, 41, 42, 43, 44, 45, 46, 47, 48] (by decide +kernel) (by decide +kernel)
set_option maxRecDepth 20000 in
theorem gX8_count_X8_error : GoodIn wsX8_count (wsV RX8 64 RX8 yX8_error wsX8_error) := goodIn_app (goodIn_of _ (by decide +kernel)) ggX8_count_X8_error
theorem dX8_count_0 : decode cX8_count 0 = .ok (.iload_n 1, 1) := by decide +kernel
theorem dX8_count_1 : decode cX8_count 1 = .ok (.tableswitch 168 0 11 #[63, 71, 79, 87, 95, 103, 111, 119, 127, 138, 149, 160], 63) := by decide +kernel
theorem dX8_count_64 : decode cX8_count 64 = .ok (.aload_n 0, 1) := by decide +kernel
theorem dX8_count_65 : decode cX8_count 65 = .ok (.getfield 10, 3) := by decide +kernel
theorem dX8_count_68 : decode cX8_count 68 = .ok (.getfield 72, 3) := by decide +kernel
theorem dX8_count_71 : decode cX8_count 71 = .ok (.ireturn, 1) := by decide +kernel
theorem dX8_count_72 : decode cX8_count 72 = .ok (.aload_n 0, 1) := by decide +kernel
theorem dX8_count_73 : decode cX8_count 73 = .ok (.getfield 10, 3) := by decide +kernel
theorem dX8_count_76 : decode cX8_count 76 = .ok (.getfield 68, 3) := by decide +kernel
theorem dX8_count_79 : decode cX8_count 79 = .ok (.ireturn, 1) := by decide +kernel
theorem dX8_count_80 : decode cX8_count 80 = .ok (.aload_n 0, 1) := by decide +kernel
theorem dX8_count_81 : decode cX8_count 81 = .ok (.getfield 10, 3) := by decide +kernel
theorem dX8_count_84 : decode cX8_count 84 = .ok (.getfield 130, 3) := by decide +kernel
theorem dX8_count_87 : decode cX8_count 87 = .ok (.ireturn, 1) := by decide +kernel
theorem dX8_count_88 : decode cX8_count 88 = .ok (.aload_n 0, 1) := by decide +kernel
theorem dX8_count_89 : decode cX8_count 89 = .ok (.getfield 10, 3) := by decide +kernel
theorem dX8_count_92 : decode cX8_count 92 = .ok (.getfield 99, 3) := by decide +kernel
theorem dX8_count_95 : decode cX8_count 95 = .ok (.ireturn, 1) := by decide +kernel
theorem dX8_count_96 : decode cX8_count 96 = .ok (.aload_n 0, 1) := by decide +kernel
theorem dX8_count_97 : decode cX8_count 97 = .ok (.getfield 10, 3) := by decide +kernel
theorem dX8_count_100 : decode cX8_count 100 = .ok (.getfield 102, 3) := by decide +kernel
theorem dX8_count_103 : decode cX8_count 103 = .ok (.ireturn, 1) := by decide +kernel
theorem dX8_count_104 : decode cX8_count 104 = .ok (.aload_n 0, 1) := by decide +kernel
theorem dX8_count_105 : decode cX8_count 105 = .ok (.getfield 10, 3) := by decide +kernel
theorem dX8_count_108 : decode cX8_count 108 = .ok (.getfield 105, 3) := by decide +kernel
theorem dX8_count_111 : decode cX8_count 111 = .ok (.ireturn, 1) := by decide +kernel
theorem dX8_count_112 : decode cX8_count 112 = .ok (.aload_n 0, 1) := by decide +kernel
theorem dX8_count_113 : decode cX8_count 113 = .ok (.getfield 10, 3) := by decide +kernel
theorem dX8_count_116 : decode cX8_count 116 = .ok (.getfield 214, 3) := by decide +kernel
theorem dX8_count_119 : decode cX8_count 119 = .ok (.ireturn, 1) := by decide +kernel
theorem dX8_count_120 : decode cX8_count 120 = .ok (.aload_n 0, 1) := by decide +kernel
theorem dX8_count_121 : decode cX8_count 121 = .ok (.getfield 10, 3) := by decide +kernel
theorem dX8_count_124 : decode cX8_count 124 = .ok (.invokevirtual 197, 3) := by decide +kernel
theorem dX8_count_127 : decode cX8_count 127 = .ok (.ireturn, 1) := by decide +kernel
theorem dX8_count_128 : decode cX8_count 128 = .ok (.aload_n 0, 1) := by decide +kernel
theorem dX8_count_129 : decode cX8_count 129 = .ok (.getfield 10, 3) := by decide +kernel
theorem dX8_count_132 : decode cX8_count 132 = .ok (.getfield 152, 3) := by decide +kernel
theorem dX8_count_135 : decode cX8_count 135 = .ok (.getfield 156, 3) := by decide +kernel
theorem dX8_count_138 : decode cX8_count 138 = .ok (.ireturn, 1) := by decide +kernel
theorem dX8_count_139 : decode cX8_count 139 = .ok (.aload_n 0, 1) := by decide +kernel
theorem dX8_count_140 : decode cX8_count 140 = .ok (.getfield 10, 3) := by decide +kernel
theorem dX8_count_143 : decode cX8_count 143 = .ok (.getfield 321, 3) := by decide +kernel
theorem dX8_count_146 : decode cX8_count 146 = .ok (.getfield 156, 3) := by decide +kernel
theorem dX8_count_149 : decode cX8_count 149 = .ok (.ireturn, 1) := by decide +kernel
theorem dX8_count_150 : decode cX8_count 150 = .ok (.aload_n 0, 1) := by decide +kernel
theorem dX8_count_151 : decode cX8_count 151 = .ok (.getfield 39, 3) := by decide +kernel
theorem dX8_count_154 : decode cX8_count 154 = .ok (.getfield 292, 3) := by decide +kernel
theorem dX8_count_157 : decode cX8_count 157 = .ok (.getfield 156, 3) := by decide +kernel
theorem dX8_count_160 : decode cX8_count 160 = .ok (.ireturn, 1) := by decide +kernel
theorem dX8_count_161 : decode cX8_count 161 = .ok (.aload_n 0, 1) := by decide +kernel
theorem dX8_count_162 : decode cX8_count 162 = .ok (.getfield 10, 3) := by decide +kernel
theorem dX8_count_165 : decode cX8_count 165 = .ok (.getfield 282, 3) := by decide +kernel
theorem dX8_count_168 : decode cX8_count 168 = .ok (.ireturn, 1) := by decide +kernel
theorem dX8_count_169 : decode cX8_count 169 = .ok (.aload_n 0, 1) := by decide +kernel
theorem dX8_count_170 : decode cX8_count 170 = .ok (.iconst 1, 1) := by decide +kernel
theorem dX8_count_171 : decode cX8_count 171 = .ok (.invokevirtual 64, 3) := by decide +kernel
theorem dX8_count_174 : decode cX8_count 174 = .ok (.ireturn, 1) := by decide +kernel
set_option maxRecDepth 20000 in
theorem ggX8_told_X8_within : GoodIn wsX8_told wsX8_within := goodIn_r _ [5] (by decide +kernel) (by decide +kernel)
set_option maxRecDepth 20000 in
theorem gX8_told_X8_within : GoodIn wsX8_told (va_wsS RX8 60 yX8_within wsX8_within) := goodIn_app (goodIn_of _ (by decide +kernel)) ggX8_told_X8_within
set_option maxRecDepth 20000 in
theorem ggX8_told_X8_error : GoodIn wsX8_told wsX8_error := goodIn_r _ [9, 1, 10, 2, 3, 4, 5, 11, 12, 13, 14, 15, 16, 17, 18, 19, 20, 21] (by decide +kernel) (by decide +kernel)
set_option maxRecDepth 20000 in
theorem gX8_told_X8_error : GoodIn wsX8_told (wsV RX8 64 RX8 yX8_error wsX8_error) := goodIn_app (goodIn_of _ (by decide +kernel)) ggX8_told_X8_error
theorem dX8_told_0 : decode cX8_told 0 = .ok (.iload_n 1, 1) := by decide +kernel
theorem dX8_told_1 : decode cX8_told 1 = .ok (.iconst 1, 1) := by decide +kernel
theorem dX8_told_2 : decode cX8_told 2 = .ok (.iconst 5, 1) := by decide +kernel
theorem dX8_told_3 : decode cX8_told 3 = .ok (.invokestatic 60, 3) := by decide +kernel
theorem dX8_told_6 : decode cX8_told 6 = .ok (.ifCond .ne 9, 3) := by decide +kernel
theorem dX8_told_9 : decode cX8_told 9 = .ok (.aload_n 0, 1) := by decide +kernel
theorem dX8_told_10 : decode cX8_told 10 = .ok (.iconst 1, 1) := by decide +kernel
theorem dX8_told_11 : decode cX8_told 11 = .ok (.invokevirtual 64, 3) := by decide +kernel
theorem dX8_told_14 : decode cX8_told 14 = .ok (.ireturn, 1) := by decide +kernel
theorem dX8_told_15 : decode cX8_told 15 = .ok (.aload_n 0, 1) := by decide +kernel
theorem dX8_told_16 : decode cX8_told 16 = .ok (.getfield 57, 3) := by decide +kernel
theorem dX8_told_19 : decode cX8_told 19 = .ok (.iload_n 1, 1) := by decide +kernel
theorem dX8_told_20 : decode cX8_told 20 = .ok (.iaload, 1) := by decide +kernel
theorem dX8_told_21 : decode cX8_told 21 = .ok (.ireturn, 1) := by decide +kernel
set_option maxRecDepth 20000 in
theorem ggX8_error_X8_within : GoodIn wsX8_error wsX8_within := goodIn_r _ [6] (by decide +kernel) (by decide +kernel)
set_option maxRecDepth 20000 in
theorem gX8_error_X8_within : GoodIn wsX8_error (va_wsS RX8 60 yX8_within wsX8_within) := goodIn_app (goodIn_of _ (by decide +kernel)) ggX8_error_X8_within
theorem dX8_error_0 : decode cX8_error 0 = .ok (.iload_n 1, 1) := by decide +kernel
theorem dX8_error_1 : decode cX8_error 1 = .ok (.iconst 1, 1) := by decide +kernel
theorem dX8_error_2 : decode cX8_error 2 = .ok (.iconst 5, 1) := by decide +kernel
theorem dX8_error_3 : decode cX8_error 3 = .ok (.invokestatic 60, 3) := by decide +kernel
theorem dX8_error_6 : decode cX8_error 6 = .ok (.ifCond .eq 13, 3) := by decide +kernel
theorem dX8_error_9 : decode cX8_error 9 = .ok (.aload_n 0, 1) := by decide +kernel
theorem dX8_error_10 : decode cX8_error 10 = .ok (.getfield 57, 3) := by decide +kernel
theorem dX8_error_13 : decode cX8_error 13 = .ok (.iload_n 1, 1) := by decide +kernel
theorem dX8_error_14 : decode cX8_error 14 = .ok (.dup2, 1) := by decide +kernel
theorem dX8_error_15 : decode cX8_error 15 = .ok (.iaload, 1) := by decide +kernel
theorem dX8_error_16 : decode cX8_error 16 = .ok (.iconst 1, 1) := by decide +kernel
theorem dX8_error_17 : decode cX8_error 17 = .ok (.iadd, 1) := by decide +kernel
theorem dX8_error_18 : decode cX8_error 18 = .ok (.iastore, 1) := by decide +kernel
theorem dX8_error_19 : decode cX8_error 19 = .ok (.ldc_w 324, 3) := by decide +kernel
theorem dX8_error_22 : decode cX8_error 22 = .ok (.iload_n 1, 1) := by decide +kernel
theorem dX8_error_23 : decode cX8_error 23 = .ok (.isub, 1) := by decide +kernel
theorem dX8_error_24 : decode cX8_error 24 = .ok (.ireturn, 1) := by decide +kernel
theorem dX8_within_0 : decode cX8_within 0 = .ok (.iload_n 0, 1) := by decide +kernel
theorem dX8_within_1 : decode cX8_within 1 = .ok (.iload_n 1, 1) := by decide +kernel
theorem dX8_within_2 : decode cX8_within 2 = .ok (.if_icmp .lt 12, 3) := by decide +kernel
theorem dX8_within_5 : decode cX8_within 5 = .ok (.iload_n 0, 1) := by decide +kernel
theorem dX8_within_6 : decode cX8_within 6 = .ok (.iload_n 2, 1) := by decide +kernel
theorem dX8_within_7 : decode cX8_within 7 = .ok (.if_icmp .gt 7, 3) := by decide +kernel
theorem dX8_within_10 : decode cX8_within 10 = .ok (.iconst 1, 1) := by decide +kernel
theorem dX8_within_11 : decode cX8_within 11 = .ok (.goto 4, 3) := by decide +kernel
theorem dX8_within_14 : decode cX8_within 14 = .ok (.iconst 0, 1) := by decide +kernel
theorem dX8_within_15 : decode cX8_within 15 = .ok (.ireturn, 1) := by decide +kernel
theorem dX8_held_0 : decode cX8_held 0 = .ok (.iload_n 0, 1) := by decide +kernel
theorem dX8_held_1 : decode cX8_held 1 = .ok (.ifCond .ge 5, 3) := by decide +kernel
theorem dX8_held_4 : decode cX8_held 4 = .ok (.iconst 0, 1) := by decide +kernel
theorem dX8_held_5 : decode cX8_held 5 = .ok (.ireturn, 1) := by decide +kernel
theorem dX8_held_6 : decode cX8_held 6 = .ok (.iload_n 0, 1) := by decide +kernel
theorem dX8_held_7 : decode cX8_held 7 = .ok (.iload_n 1, 1) := by decide +kernel
theorem dX8_held_8 : decode cX8_held 8 = .ok (.if_icmp .le 7, 3) := by decide +kernel
theorem dX8_held_11 : decode cX8_held 11 = .ok (.iload_n 1, 1) := by decide +kernel
theorem dX8_held_12 : decode cX8_held 12 = .ok (.goto 4, 3) := by decide +kernel
theorem dX8_held_15 : decode cX8_held 15 = .ok (.iload_n 0, 1) := by decide +kernel
theorem dX8_held_16 : decode cX8_held 16 = .ok (.ireturn, 1) := by decide +kernel
theorem dX8_has_0 : decode cX8_has 0 = .ok (.iload_n 0, 1) := by decide +kernel
theorem dX8_has_1 : decode cX8_has 1 = .ok (.iload_n 1, 1) := by decide +kernel
theorem dX8_has_2 : decode cX8_has 2 = .ok (.ishr, 1) := by decide +kernel
theorem dX8_has_3 : decode cX8_has 3 = .ok (.iconst 1, 1) := by decide +kernel
theorem dX8_has_4 : decode cX8_has 4 = .ok (.iand, 1) := by decide +kernel
theorem dX8_has_5 : decode cX8_has 5 = .ok (.ifCond .eq 7, 3) := by decide +kernel
theorem dX8_has_8 : decode cX8_has 8 = .ok (.iconst 1, 1) := by decide +kernel
theorem dX8_has_9 : decode cX8_has 9 = .ok (.goto 4, 3) := by decide +kernel
theorem dX8_has_12 : decode cX8_has 12 = .ok (.iconst 0, 1) := by decide +kernel
theorem dX8_has_13 : decode cX8_has 13 = .ok (.ireturn, 1) := by decide +kernel
set_option maxRecDepth 20000 in
theorem ggX8_isCell_X8_within : GoodIn wsX8_isCell wsX8_within := goodIn_r _ [6] (by decide +kernel) (by decide +kernel)
set_option maxRecDepth 20000 in
theorem gX8_isCell_X8_within : GoodIn wsX8_isCell (va_wsS RX8 60 yX8_within wsX8_within) := goodIn_app (goodIn_of _ (by decide +kernel)) ggX8_isCell_X8_within
theorem dX8_isCell_0 : decode cX8_isCell 0 = .ok (.iload_n 1, 1) := by decide +kernel
theorem dX8_isCell_1 : decode cX8_isCell 1 = .ok (.iconst 0, 1) := by decide +kernel
theorem dX8_isCell_2 : decode cX8_isCell 2 = .ok (.aload_n 0, 1) := by decide +kernel
theorem dX8_isCell_3 : decode cX8_isCell 3 = .ok (.getfield 10, 3) := by decide +kernel
theorem dX8_isCell_6 : decode cX8_isCell 6 = .ok (.getfield 72, 3) := by decide +kernel
theorem dX8_isCell_9 : decode cX8_isCell 9 = .ok (.iconst 1, 1) := by decide +kernel
theorem dX8_isCell_10 : decode cX8_isCell 10 = .ok (.isub, 1) := by decide +kernel
theorem dX8_isCell_11 : decode cX8_isCell 11 = .ok (.invokestatic 60, 3) := by decide +kernel
theorem dX8_isCell_14 : decode cX8_isCell 14 = .ok (.ireturn, 1) := by decide +kernel
set_option maxRecDepth 20000 in
theorem ggX8_isPerson_X8_within : GoodIn wsX8_isPerson wsX8_within := goodIn_r _ [6] (by decide +kernel) (by decide +kernel)
set_option maxRecDepth 20000 in
theorem gX8_isPerson_X8_within : GoodIn wsX8_isPerson (va_wsS RX8 60 yX8_within wsX8_within) := goodIn_app (goodIn_of _ (by decide +kernel)) ggX8_isPerson_X8_within
theorem dX8_isPerson_0 : decode cX8_isPerson 0 = .ok (.iload_n 1, 1) := by decide +kernel
theorem dX8_isPerson_1 : decode cX8_isPerson 1 = .ok (.iconst 0, 1) := by decide +kernel
theorem dX8_isPerson_2 : decode cX8_isPerson 2 = .ok (.aload_n 0, 1) := by decide +kernel
theorem dX8_isPerson_3 : decode cX8_isPerson 3 = .ok (.getfield 10, 3) := by decide +kernel
theorem dX8_isPerson_6 : decode cX8_isPerson 6 = .ok (.getfield 68, 3) := by decide +kernel
theorem dX8_isPerson_9 : decode cX8_isPerson 9 = .ok (.iconst 1, 1) := by decide +kernel
theorem dX8_isPerson_10 : decode cX8_isPerson 10 = .ok (.isub, 1) := by decide +kernel
theorem dX8_isPerson_11 : decode cX8_isPerson 11 = .ok (.invokestatic 60, 3) := by decide +kernel
theorem dX8_isPerson_14 : decode cX8_isPerson 14 = .ok (.ireturn, 1) := by decide +kernel
set_option maxRecDepth 20000 in
theorem ggX8_isKindAndNumber_X8_within : GoodIn wsX8_isKindAndNumber wsX8_within := goodIn_r _ [4] (by decide +kernel) (by decide +kernel)
set_option maxRecDepth 20000 in
theorem gX8_isKindAndNumber_X8_within : GoodIn wsX8_isKindAndNumber (va_wsS RX8 60 yX8_within wsX8_within) := goodIn_app (goodIn_of _ (by decide +kernel)) ggX8_isKindAndNumber_X8_within
theorem dX8_isKindAndNumber_0 : decode cX8_isKindAndNumber 0 = .ok (.iload_n 0, 1) := by decide +kernel
theorem dX8_isKindAndNumber_1 : decode cX8_isKindAndNumber 1 = .ok (.iconst 0, 1) := by decide +kernel
theorem dX8_isKindAndNumber_2 : decode cX8_isKindAndNumber 2 = .ok (.bipush 69, 2) := by decide +kernel
theorem dX8_isKindAndNumber_4 : decode cX8_isKindAndNumber 4 = .ok (.invokestatic 60, 3) := by decide +kernel
theorem dX8_isKindAndNumber_7 : decode cX8_isKindAndNumber 7 = .ok (.ireturn, 1) := by decide +kernel
set_option maxRecDepth 20000 in
theorem ggX8_isSheet_X8_within : GoodIn wsX8_isSheet wsX8_within := goodIn_r _ [4] (by decide +kernel) (by decide +kernel)
set_option maxRecDepth 20000 in
theorem gX8_isSheet_X8_within : GoodIn wsX8_isSheet (va_wsS RX8 60 yX8_within wsX8_within) := goodIn_app (goodIn_of _ (by decide +kernel)) ggX8_isSheet_X8_within
theorem dX8_isSheet_0 : decode cX8_isSheet 0 = .ok (.iload_n 0, 1) := by decide +kernel
theorem dX8_isSheet_1 : decode cX8_isSheet 1 = .ok (.iconst 0, 1) := by decide +kernel
theorem dX8_isSheet_2 : decode cX8_isSheet 2 = .ok (.iconst 3, 1) := by decide +kernel
theorem dX8_isSheet_3 : decode cX8_isSheet 3 = .ok (.invokestatic 60, 3) := by decide +kernel
theorem dX8_isSheet_6 : decode cX8_isSheet 6 = .ok (.ireturn, 1) := by decide +kernel
theorem dX9_init_0 : decode cX9_init 0 = .ok (.aload_n 0, 1) := by decide +kernel
theorem dX9_init_1 : decode cX9_init 1 = .ok (.invokespecial 1, 3) := by decide +kernel
theorem dX9_init_4 : decode cX9_init 4 = .ok (.aload_n 0, 1) := by decide +kernel
theorem dX9_init_5 : decode cX9_init 5 = .ok (.sipush 234, 3) := by decide +kernel
theorem dX9_init_8 : decode cX9_init 8 = .ok (.newarray .int, 2) := by decide +kernel
theorem dX9_init_10 : decode cX9_init 10 = .ok (.putfield 7, 3) := by decide +kernel
theorem dX9_init_13 : decode cX9_init 13 = .ok (.aload_n 0, 1) := by decide +kernel
theorem dX9_init_14 : decode cX9_init 14 = .ok (.sipush 234, 3) := by decide +kernel
theorem dX9_init_17 : decode cX9_init 17 = .ok (.newarray .int, 2) := by decide +kernel
theorem dX9_init_19 : decode cX9_init 19 = .ok (.putfield 13, 3) := by decide +kernel
theorem dX9_init_22 : decode cX9_init 22 = .ok (.aload_n 0, 1) := by decide +kernel
theorem dX9_init_23 : decode cX9_init 23 = .ok (.sipush 234, 3) := by decide +kernel
theorem dX9_init_26 : decode cX9_init 26 = .ok (.newarray .int, 2) := by decide +kernel
theorem dX9_init_28 : decode cX9_init 28 = .ok (.putfield 16, 3) := by decide +kernel
theorem dX9_init_31 : decode cX9_init 31 = .ok (.aload_n 0, 1) := by decide +kernel
theorem dX9_init_32 : decode cX9_init 32 = .ok (.sipush 234, 3) := by decide +kernel
theorem dX9_init_35 : decode cX9_init 35 = .ok (.newarray .int, 2) := by decide +kernel
theorem dX9_init_37 : decode cX9_init 37 = .ok (.putfield 19, 3) := by decide +kernel
theorem dX9_init_40 : decode cX9_init 40 = .ok (.aload_n 0, 1) := by decide +kernel
theorem dX9_init_41 : decode cX9_init 41 = .ok (.bipush 6, 2) := by decide +kernel
theorem dX9_init_43 : decode cX9_init 43 = .ok (.newarray .int, 2) := by decide +kernel
theorem dX9_init_45 : decode cX9_init 45 = .ok (.putfield 22, 3) := by decide +kernel
theorem dX9_init_48 : decode cX9_init 48 = .ok (.aload_n 0, 1) := by decide +kernel
theorem dX9_init_49 : decode cX9_init 49 = .ok (.iconst (-1), 1) := by decide +kernel
theorem dX9_init_50 : decode cX9_init 50 = .ok (.putfield 25, 3) := by decide +kernel
theorem dX9_init_53 : decode cX9_init 53 = .ok (.aload_n 0, 1) := by decide +kernel
theorem dX9_init_54 : decode cX9_init 54 = .ok (.bipush 10, 2) := by decide +kernel
theorem dX9_init_56 : decode cX9_init 56 = .ok (.newarray .int, 2) := by decide +kernel
theorem dX9_init_58 : decode cX9_init 58 = .ok (.putfield 29, 3) := by decide +kernel
theorem dX9_init_61 : decode cX9_init 61 = .ok (.aload_n 0, 1) := by decide +kernel
theorem dX9_init_62 : decode cX9_init 62 = .ok (.iconst 4, 1) := by decide +kernel
theorem dX9_init_63 : decode cX9_init 63 = .ok (.newarray .int, 2) := by decide +kernel
theorem dX9_init_65 : decode cX9_init 65 = .ok (.putfield 32, 3) := by decide +kernel
theorem dX9_init_68 : decode cX9_init 68 = .ok (.aload_n 0, 1) := by decide +kernel
theorem dX9_init_69 : decode cX9_init 69 = .ok (.iconst 4, 1) := by decide +kernel
theorem dX9_init_70 : decode cX9_init 70 = .ok (.newarray .int, 2) := by decide +kernel
theorem dX9_init_72 : decode cX9_init 72 = .ok (.putfield 35, 3) := by decide +kernel
theorem dX9_init_75 : decode cX9_init 75 = .ok (.aload_n 0, 1) := by decide +kernel
theorem dX9_init_76 : decode cX9_init 76 = .ok (.iconst 4, 1) := by decide +kernel
theorem dX9_init_77 : decode cX9_init 77 = .ok (.newarray .int, 2) := by decide +kernel
theorem dX9_init_79 : decode cX9_init 79 = .ok (.putfield 38, 3) := by decide +kernel
theorem dX9_init_82 : decode cX9_init 82 = .ok (.aload_n 0, 1) := by decide +kernel
theorem dX9_init_83 : decode cX9_init 83 = .ok (.sipush 160, 3) := by decide +kernel
theorem dX9_init_86 : decode cX9_init 86 = .ok (.newarray .int, 2) := by decide +kernel
theorem dX9_init_88 : decode cX9_init 88 = .ok (.putfield 41, 3) := by decide +kernel
theorem dX9_init_91 : decode cX9_init 91 = .ok (.aload_n 0, 1) := by decide +kernel
theorem dX9_init_92 : decode cX9_init 92 = .ok (.bipush 40, 2) := by decide +kernel
theorem dX9_init_94 : decode cX9_init 94 = .ok (.newarray .int, 2) := by decide +kernel
theorem dX9_init_96 : decode cX9_init 96 = .ok (.putfield 44, 3) := by decide +kernel
theorem dX9_init_99 : decode cX9_init 99 = .ok (.aload_n 0, 1) := by decide +kernel
theorem dX9_init_100 : decode cX9_init 100 = .ok (.bipush 8, 2) := by decide +kernel
theorem dX9_init_102 : decode cX9_init 102 = .ok (.newarray .int, 2) := by decide +kernel
theorem dX9_init_104 : decode cX9_init 104 = .ok (.putfield 47, 3) := by decide +kernel
theorem dX9_init_107 : decode cX9_init 107 = .ok (.aload_n 0, 1) := by decide +kernel
theorem dX9_init_108 : decode cX9_init 108 = .ok (.bipush 40, 2) := by decide +kernel
theorem dX9_init_110 : decode cX9_init 110 = .ok (.newarray .int, 2) := by decide +kernel
theorem dX9_init_112 : decode cX9_init 112 = .ok (.putfield 50, 3) := by decide +kernel
theorem dX9_init_115 : decode cX9_init 115 = .ok (.aload_n 0, 1) := by decide +kernel
theorem dX9_init_116 : decode cX9_init 116 = .ok (.getfield 7, 3) := by decide +kernel
theorem dX9_init_119 : decode cX9_init 119 = .ok (.iconst 2, 1) := by decide +kernel
theorem dX9_init_120 : decode cX9_init 120 = .ok (.iconst 1, 1) := by decide +kernel
theorem dX9_init_121 : decode cX9_init 121 = .ok (.iastore, 1) := by decide +kernel
theorem dX9_init_122 : decode cX9_init 122 = .ok (.aload_n 0, 1) := by decide +kernel
theorem dX9_init_123 : decode cX9_init 123 = .ok (.getfield 7, 3) := by decide +kernel
theorem dX9_init_126 : decode cX9_init 126 = .ok (.iconst 3, 1) := by decide +kernel
theorem dX9_init_127 : decode cX9_init 127 = .ok (.bipush 6, 2) := by decide +kernel
theorem dX9_init_129 : decode cX9_init 129 = .ok (.iastore, 1) := by decide +kernel
theorem dX9_init_130 : decode cX9_init 130 = .ok (.aload_n 0, 1) := by decide +kernel
theorem dX9_init_131 : decode cX9_init 131 = .ok (.getfield 7, 3) := by decide +kernel
theorem dX9_init_134 : decode cX9_init 134 = .ok (.bipush 6, 2) := by decide +kernel
theorem dX9_init_136 : decode cX9_init 136 = .ok (.iconst (-1), 1) := by decide +kernel
theorem dX9_init_137 : decode cX9_init 137 = .ok (.iastore, 1) := by decide +kernel
theorem dX9_init_138 : decode cX9_init 138 = .ok (.aload_n 0, 1) := by decide +kernel
theorem dX9_init_139 : decode cX9_init 139 = .ok (.getfield 7, 3) := by decide +kernel
theorem dX9_init_142 : decode cX9_init 142 = .ok (.bipush 7, 2) := by decide +kernel
theorem dX9_init_144 : decode cX9_init 144 = .ok (.iconst (-1), 1) := by decide +kernel
theorem dX9_init_145 : decode cX9_init 145 = .ok (.iastore, 1) := by decide +kernel
theorem dX9_init_146 : decode cX9_init 146 = .ok (.return_, 1) := by decide +kernel
theorem dX9_in_0 : decode cX9_in 0 = .ok (.iload_n 0, 1) := by decide +kernel
theorem dX9_in_1 : decode cX9_in 1 = .ok (.iload_n 1, 1) := by decide +kernel
theorem dX9_in_2 : decode cX9_in 2 = .ok (.if_icmp .lt 12, 3) := by decide +kernel
theorem dX9_in_5 : decode cX9_in 5 = .ok (.iload_n 0, 1) := by decide +kernel
theorem dX9_in_6 : decode cX9_in 6 = .ok (.iload_n 2, 1) := by decide +kernel
theorem dX9_in_7 : decode cX9_in 7 = .ok (.if_icmp .gt 7, 3) := by decide +kernel
theorem dX9_in_10 : decode cX9_in 10 = .ok (.iconst 1, 1) := by decide +kernel
theorem dX9_in_11 : decode cX9_in 11 = .ok (.goto 4, 3) := by decide +kernel
theorem dX9_in_14 : decode cX9_in 14 = .ok (.iconst 0, 1) := by decide +kernel
theorem dX9_in_15 : decode cX9_in 15 = .ok (.ireturn, 1) := by decide +kernel
theorem dX9_errs_0 : decode cX9_errs 0 = .ok (.aload_n 0, 1) := by decide +kernel
theorem dX9_errs_1 : decode cX9_errs 1 = .ok (.getfield 22, 3) := by decide +kernel
theorem dX9_errs_4 : decode cX9_errs 4 = .ok (.ldc 53, 2) := by decide +kernel
theorem dX9_errs_6 : decode cX9_errs 6 = .ok (.iload_n 1, 1) := by decide +kernel
theorem dX9_errs_7 : decode cX9_errs 7 = .ok (.isub, 1) := by decide +kernel
theorem dX9_errs_8 : decode cX9_errs 8 = .ok (.dup2, 1) := by decide +kernel
theorem dX9_errs_9 : decode cX9_errs 9 = .ok (.iaload, 1) := by decide +kernel
theorem dX9_errs_10 : decode cX9_errs 10 = .ok (.iconst 1, 1) := by decide +kernel
theorem dX9_errs_11 : decode cX9_errs 11 = .ok (.iadd, 1) := by decide +kernel
theorem dX9_errs_12 : decode cX9_errs 12 = .ok (.iastore, 1) := by decide +kernel
theorem dX9_errs_13 : decode cX9_errs 13 = .ok (.iload_n 1, 1) := by decide +kernel
theorem dX9_errs_14 : decode cX9_errs 14 = .ok (.ireturn, 1) := by decide +kernel
theorem dX9_held_0 : decode cX9_held 0 = .ok (.iload_n 0, 1) := by decide +kernel
theorem dX9_held_1 : decode cX9_held 1 = .ok (.iload_n 1, 1) := by decide +kernel
theorem dX9_held_2 : decode cX9_held 2 = .ok (.if_icmp .ge 7, 3) := by decide +kernel
theorem dX9_held_5 : decode cX9_held 5 = .ok (.iload_n 1, 1) := by decide +kernel
theorem dX9_held_6 : decode cX9_held 6 = .ok (.goto 13, 3) := by decide +kernel
theorem dX9_held_9 : decode cX9_held 9 = .ok (.iload_n 0, 1) := by decide +kernel
theorem dX9_held_10 : decode cX9_held 10 = .ok (.iload_n 2, 1) := by decide +kernel
theorem dX9_held_11 : decode cX9_held 11 = .ok (.if_icmp .le 7, 3) := by decide +kernel
theorem dX9_held_14 : decode cX9_held 14 = .ok (.iload_n 2, 1) := by decide +kernel
theorem dX9_held_15 : decode cX9_held 15 = .ok (.goto 4, 3) := by decide +kernel
theorem dX9_held_18 : decode cX9_held 18 = .ok (.iload_n 0, 1) := by decide +kernel
theorem dX9_held_19 : decode cX9_held 19 = .ok (.ireturn, 1) := by decide +kernel
theorem dX9_moveAll_0 : decode cX9_moveAll 0 = .ok (.iconst 0, 1) := by decide +kernel
theorem dX9_moveAll_1 : decode cX9_moveAll 1 = .ok (.istore_n 3, 1) := by decide +kernel
theorem dX9_moveAll_2 : decode cX9_moveAll 2 = .ok (.iload_n 3, 1) := by decide +kernel
theorem dX9_moveAll_3 : decode cX9_moveAll 3 = .ok (.sipush 234, 3) := by decide +kernel
theorem dX9_moveAll_6 : decode cX9_moveAll 6 = .ok (.if_icmp .ge 15, 3) := by decide +kernel
theorem dX9_moveAll_9 : decode cX9_moveAll 9 = .ok (.aload_n 2, 1) := by decide +kernel
theorem dX9_moveAll_10 : decode cX9_moveAll 10 = .ok (.iload_n 3, 1) := by decide +kernel
theorem dX9_moveAll_11 : decode cX9_moveAll 11 = .ok (.aload_n 1, 1) := by decide +kernel
theorem dX9_moveAll_12 : decode cX9_moveAll 12 = .ok (.iload_n 3, 1) := by decide +kernel
theorem dX9_moveAll_13 : decode cX9_moveAll 13 = .ok (.iaload, 1) := by decide +kernel
theorem dX9_moveAll_14 : decode cX9_moveAll 14 = .ok (.iastore, 1) := by decide +kernel
theorem dX9_moveAll_15 : decode cX9_moveAll 15 = .ok (.iinc 3 1, 3) := by decide +kernel
theorem dX9_moveAll_18 : decode cX9_moveAll 18 = .ok (.goto (-16), 3) := by decide +kernel
theorem dX9_moveAll_21 : decode cX9_moveAll 21 = .ok (.return_, 1) := by decide +kernel
theorem dX9_bits_0 : decode cX9_bits 0 = .ok (.iconst 0, 1) := by decide +kernel
theorem dX9_bits_1 : decode cX9_bits 1 = .ok (.istore_n 1, 1) := by decide +kernel
theorem dX9_bits_2 : decode cX9_bits 2 = .ok (.iload_n 0, 1) := by decide +kernel
theorem dX9_bits_3 : decode cX9_bits 3 = .ok (.istore_n 2, 1) := by decide +kernel
theorem dX9_bits_4 : decode cX9_bits 4 = .ok (.iload_n 2, 1) := by decide +kernel
theorem dX9_bits_5 : decode cX9_bits 5 = .ok (.ifCond .eq 15, 3) := by decide +kernel
theorem dX9_bits_8 : decode cX9_bits 8 = .ok (.iinc 1 1, 3) := by decide +kernel
theorem dX9_bits_11 : decode cX9_bits 11 = .ok (.iload_n 2, 1) := by decide +kernel
theorem dX9_bits_12 : decode cX9_bits 12 = .ok (.iload_n 2, 1) := by decide +kernel
theorem dX9_bits_13 : decode cX9_bits 13 = .ok (.iconst 1, 1) := by decide +kernel
theorem dX9_bits_14 : decode cX9_bits 14 = .ok (.isub, 1) := by decide +kernel
theorem dX9_bits_15 : decode cX9_bits 15 = .ok (.iand, 1) := by decide +kernel
theorem dX9_bits_16 : decode cX9_bits 16 = .ok (.istore_n 2, 1) := by decide +kernel
theorem dX9_bits_17 : decode cX9_bits 17 = .ok (.goto (-13), 3) := by decide +kernel
theorem dX9_bits_20 : decode cX9_bits 20 = .ok (.iload_n 1, 1) := by decide +kernel
theorem dX9_bits_21 : decode cX9_bits 21 = .ok (.ireturn, 1) := by decide +kernel
theorem dX9_has_0 : decode cX9_has 0 = .ok (.iload_n 0, 1) := by decide +kernel
theorem dX9_has_1 : decode cX9_has 1 = .ok (.iload_n 1, 1) := by decide +kernel
theorem dX9_has_2 : decode cX9_has 2 = .ok (.ishr, 1) := by decide +kernel
theorem dX9_has_3 : decode cX9_has 3 = .ok (.iconst 1, 1) := by decide +kernel
theorem dX9_has_4 : decode cX9_has 4 = .ok (.iand, 1) := by decide +kernel
theorem dX9_has_5 : decode cX9_has 5 = .ok (.iconst 1, 1) := by decide +kernel
theorem dX9_has_6 : decode cX9_has 6 = .ok (.if_icmp .ne 7, 3) := by decide +kernel
theorem dX9_has_9 : decode cX9_has 9 = .ok (.iconst 1, 1) := by decide +kernel
theorem dX9_has_10 : decode cX9_has 10 = .ok (.goto 4, 3) := by decide +kernel
theorem dX9_has_13 : decode cX9_has 13 = .ok (.iconst 0, 1) := by decide +kernel
theorem dX9_has_14 : decode cX9_has 14 = .ok (.ireturn, 1) := by decide +kernel
theorem dX9_its_0 : decode cX9_its 0 = .ok (.aload_n 0, 1) := by decide +kernel
theorem dX9_its_1 : decode cX9_its 1 = .ok (.getfield 7, 3) := by decide +kernel
theorem dX9_its_4 : decode cX9_its 4 = .ok (.bipush 32, 2) := by decide +kernel
theorem dX9_its_6 : decode cX9_its 6 = .ok (.iconst 4, 1) := by decide +kernel
theorem dX9_its_7 : decode cX9_its 7 = .ok (.iload_n 1, 1) := by decide +kernel
theorem dX9_its_8 : decode cX9_its 8 = .ok (.imul, 1) := by decide +kernel
theorem dX9_its_9 : decode cX9_its 9 = .ok (.iadd, 1) := by decide +kernel
theorem dX9_its_10 : decode cX9_its 10 = .ok (.iload_n 2, 1) := by decide +kernel
theorem dX9_its_11 : decode cX9_its 11 = .ok (.iadd, 1) := by decide +kernel
theorem dX9_its_12 : decode cX9_its 12 = .ok (.iaload, 1) := by decide +kernel
theorem dX9_its_13 : decode cX9_its 13 = .ok (.ireturn, 1) := by decide +kernel
theorem dX9_gets_0 : decode cX9_gets 0 = .ok (.aload_n 0, 1) := by decide +kernel
theorem dX9_gets_1 : decode cX9_gets 1 = .ok (.getfield 7, 3) := by decide +kernel
theorem dX9_gets_4 : decode cX9_gets 4 = .ok (.bipush 32, 2) := by decide +kernel
theorem dX9_gets_6 : decode cX9_gets 6 = .ok (.iconst 4, 1) := by decide +kernel
theorem dX9_gets_7 : decode cX9_gets 7 = .ok (.iload_n 1, 1) := by decide +kernel
theorem dX9_gets_8 : decode cX9_gets 8 = .ok (.imul, 1) := by decide +kernel
theorem dX9_gets_9 : decode cX9_gets 9 = .ok (.iadd, 1) := by decide +kernel
theorem dX9_gets_10 : decode cX9_gets 10 = .ok (.iload_n 2, 1) := by decide +kernel
theorem dX9_gets_11 : decode cX9_gets 11 = .ok (.iadd, 1) := by decide +kernel
theorem dX9_gets_12 : decode cX9_gets 12 = .ok (.iload_n 3, 1) := by decide +kernel
theorem dX9_gets_13 : decode cX9_gets 13 = .ok (.iastore, 1) := by decide +kernel
theorem dX9_gets_14 : decode cX9_gets 14 = .ok (.return_, 1) := by decide +kernel
set_option maxRecDepth 20000 in
theorem ggX9_isCell_X9_in : GoodIn wsX9_isCell wsX9_in := goodIn_r _ [5] (by decide +kernel) (by decide +kernel)
set_option maxRecDepth 20000 in
theorem gX9_isCell_X9_in : GoodIn wsX9_isCell (va_wsS RX9 54 yX9_in wsX9_in) := goodIn_app (goodIn_of _ (by decide +kernel)) ggX9_isCell_X9_in
theorem dX9_isCell_0 : decode cX9_isCell 0 = .ok (.iload_n 1, 1) := by decide +kernel
theorem dX9_isCell_1 : decode cX9_isCell 1 = .ok (.iconst 0, 1) := by decide +kernel
theorem dX9_isCell_2 : decode cX9_isCell 2 = .ok (.aload_n 0, 1) := by decide +kernel
theorem dX9_isCell_3 : decode cX9_isCell 3 = .ok (.getfield 7, 3) := by decide +kernel
theorem dX9_isCell_6 : decode cX9_isCell 6 = .ok (.iconst 3, 1) := by decide +kernel
theorem dX9_isCell_7 : decode cX9_isCell 7 = .ok (.iaload, 1) := by decide +kernel
theorem dX9_isCell_8 : decode cX9_isCell 8 = .ok (.iconst 1, 1) := by decide +kernel
theorem dX9_isCell_9 : decode cX9_isCell 9 = .ok (.isub, 1) := by decide +kernel
theorem dX9_isCell_10 : decode cX9_isCell 10 = .ok (.invokestatic 54, 3) := by decide +kernel
theorem dX9_isCell_13 : decode cX9_isCell 13 = .ok (.ireturn, 1) := by decide +kernel
set_option maxRecDepth 20000 in
theorem ggX9_isPerson_X9_in : GoodIn wsX9_isPerson wsX9_in := goodIn_r _ [5] (by decide +kernel) (by decide +kernel)
set_option maxRecDepth 20000 in
theorem gX9_isPerson_X9_in : GoodIn wsX9_isPerson (va_wsS RX9 54 yX9_in wsX9_in) := goodIn_app (goodIn_of _ (by decide +kernel)) ggX9_isPerson_X9_in
theorem dX9_isPerson_0 : decode cX9_isPerson 0 = .ok (.iload_n 1, 1) := by decide +kernel
theorem dX9_isPerson_1 : decode cX9_isPerson 1 = .ok (.iconst 0, 1) := by decide +kernel
theorem dX9_isPerson_2 : decode cX9_isPerson 2 = .ok (.aload_n 0, 1) := by decide +kernel
theorem dX9_isPerson_3 : decode cX9_isPerson 3 = .ok (.getfield 7, 3) := by decide +kernel
theorem dX9_isPerson_6 : decode cX9_isPerson 6 = .ok (.bipush 8, 2) := by decide +kernel
theorem dX9_isPerson_8 : decode cX9_isPerson 8 = .ok (.iaload, 1) := by decide +kernel
theorem dX9_isPerson_9 : decode cX9_isPerson 9 = .ok (.iconst 1, 1) := by decide +kernel
theorem dX9_isPerson_10 : decode cX9_isPerson 10 = .ok (.isub, 1) := by decide +kernel
theorem dX9_isPerson_11 : decode cX9_isPerson 11 = .ok (.invokestatic 54, 3) := by decide +kernel
theorem dX9_isPerson_14 : decode cX9_isPerson 14 = .ok (.ireturn, 1) := by decide +kernel
theorem dX9_becomes_0 : decode cX9_becomes 0 = .ok (.aload_n 0, 1) := by decide +kernel
theorem dX9_becomes_1 : decode cX9_becomes 1 = .ok (.getfield 7, 3) := by decide +kernel
theorem dX9_becomes_4 : decode cX9_becomes 4 = .ok (.iload_n 1, 1) := by decide +kernel
theorem dX9_becomes_5 : decode cX9_becomes 5 = .ok (.iaload, 1) := by decide +kernel
theorem dX9_becomes_6 : decode cX9_becomes 6 = .ok (.istore_n 3, 1) := by decide +kernel
theorem dX9_becomes_7 : decode cX9_becomes 7 = .ok (.aload_n 0, 1) := by decide +kernel
theorem dX9_becomes_8 : decode cX9_becomes 8 = .ok (.getfield 7, 3) := by decide +kernel
theorem dX9_becomes_11 : decode cX9_becomes 11 = .ok (.iload_n 1, 1) := by decide +kernel
theorem dX9_becomes_12 : decode cX9_becomes 12 = .ok (.iload_n 2, 1) := by decide +kernel
theorem dX9_becomes_13 : decode cX9_becomes 13 = .ok (.iastore, 1) := by decide +kernel
theorem dX9_becomes_14 : decode cX9_becomes 14 = .ok (.iload_n 3, 1) := by decide +kernel
theorem dX9_becomes_15 : decode cX9_becomes 15 = .ok (.ireturn, 1) := by decide +kernel
set_option maxRecDepth 20000 in
theorem ggX9_field_X9_in : GoodIn wsX9_field wsX9_in := goodIn_r _ [7] (by decide +kernel) (by decide +kernel)
set_option maxRecDepth 20000 in
theorem gX9_field_X9_in : GoodIn wsX9_field (va_wsS RX9 54 yX9_in wsX9_in) := goodIn_app (goodIn_of _ (by decide +kernel)) ggX9_field_X9_in
set_option maxRecDepth 20000 in
theorem ggX9_field_X9_errs : GoodIn wsX9_field wsX9_errs := goodIn_r _ [11, 12, 13, 18, 19, 20, 21, 22, 23, 24, 25, 26, 27, 28, 29, 30, 31, 32, 33, 34, 35, 36, 37, 38, 39, 40, 41, 42, 43, 44, 45] (by decide +kernel) (by decide +kernel)
set_option maxRecDepth 20000 in
theorem gX9_field_X9_errs : GoodIn wsX9_field (wsV RX9 59 RX9 yX9_errs wsX9_errs) := goodIn_app (goodIn_of _ (by decide +kernel)) ggX9_field_X9_errs
set_option maxRecDepth 20000 in
theorem ggX9_field_X9_becomes : GoodIn wsX9_field wsX9_becomes := goodIn_r _ [17, 2, 18, 19, 20, 21, 22, 23, 24, 25, 26, 27, 28, 29, 30, 31, 32, 33, 34, 35, 36, 37, 38, 39, 40, 41, 42, 43, 44, 45] (by decide +kernel) (by decide +kernel)
set_option maxRecDepth 20000 in
theorem gX9_field_X9_becomes : GoodIn wsX9_field (wsV RX9 64 RX9 yX9_becomes wsX9_becomes) := goodIn_app (goodIn_of _ (by decide +kernel)) ggX9_field_X9_becomes
theorem dX9_field_0 : decode cX9_field 0 = .ok (.iload_n 1, 1) := by decide +kernel
theorem dX9_field_1 : decode cX9_field 1 = .ok (.iconst 3, 1) := by decide +kernel
theorem dX9_field_2 : decode cX9_field 2 = .ok (.bipush 10, 2) := by decide +kernel
theorem dX9_field_4 : decode cX9_field 4 = .ok (.invokestatic 54, 3) := by decide +kernel
theorem dX9_field_7 : decode cX9_field 7 = .ok (.ifCond .ne 10, 3) := by decide +kernel
theorem dX9_field_10 : decode cX9_field 10 = .ok (.aload_n 0, 1) := by decide +kernel
theorem dX9_field_11 : decode cX9_field 11 = .ok (.ldc 58, 2) := by decide +kernel
theorem dX9_field_13 : decode cX9_field 13 = .ok (.invokevirtual 59, 3) := by decide +kernel
theorem dX9_field_16 : decode cX9_field 16 = .ok (.ireturn, 1) := by decide +kernel
theorem dX9_field_17 : decode cX9_field 17 = .ok (.aload_n 0, 1) := by decide +kernel
theorem dX9_field_18 : decode cX9_field 18 = .ok (.getfield 7, 3) := by decide +kernel
theorem dX9_field_21 : decode cX9_field 21 = .ok (.bipush 8, 2) := by decide +kernel
theorem dX9_field_23 : decode cX9_field 23 = .ok (.iaload, 1) := by decide +kernel
theorem dX9_field_24 : decode cX9_field 24 = .ok (.ifCond .le 10, 3) := by decide +kernel
theorem dX9_field_27 : decode cX9_field 27 = .ok (.aload_n 0, 1) := by decide +kernel
theorem dX9_field_28 : decode cX9_field 28 = .ok (.ldc 63, 2) := by decide +kernel
theorem dX9_field_30 : decode cX9_field 30 = .ok (.invokevirtual 59, 3) := by decide +kernel
theorem dX9_field_33 : decode cX9_field 33 = .ok (.ireturn, 1) := by decide +kernel
theorem dX9_field_34 : decode cX9_field 34 = .ok (.iconst 0, 1) := by decide +kernel
theorem dX9_field_35 : decode cX9_field 35 = .ok (.istore_n 2, 1) := by decide +kernel
theorem dX9_field_36 : decode cX9_field 36 = .ok (.iload_n 2, 1) := by decide +kernel
theorem dX9_field_37 : decode cX9_field 37 = .ok (.bipush 10, 2) := by decide +kernel
theorem dX9_field_39 : decode cX9_field 39 = .ok (.if_icmp .ge 29, 3) := by decide +kernel
theorem dX9_field_42 : decode cX9_field 42 = .ok (.aload_n 0, 1) := by decide +kernel
theorem dX9_field_43 : decode cX9_field 43 = .ok (.getfield 7, 3) := by decide +kernel
theorem dX9_field_46 : decode cX9_field 46 = .ok (.bipush 12, 2) := by decide +kernel
theorem dX9_field_48 : decode cX9_field 48 = .ok (.iload_n 2, 1) := by decide +kernel
theorem dX9_field_49 : decode cX9_field 49 = .ok (.iadd, 1) := by decide +kernel
theorem dX9_field_50 : decode cX9_field 50 = .ok (.iconst 0, 1) := by decide +kernel
theorem dX9_field_51 : decode cX9_field 51 = .ok (.iastore, 1) := by decide +kernel
theorem dX9_field_52 : decode cX9_field 52 = .ok (.aload_n 0, 1) := by decide +kernel
theorem dX9_field_53 : decode cX9_field 53 = .ok (.getfield 7, 3) := by decide +kernel
theorem dX9_field_56 : decode cX9_field 56 = .ok (.bipush 22, 2) := by decide +kernel
theorem dX9_field_58 : decode cX9_field 58 = .ok (.iload_n 2, 1) := by decide +kernel
theorem dX9_field_59 : decode cX9_field 59 = .ok (.iadd, 1) := by decide +kernel
theorem dX9_field_60 : decode cX9_field 60 = .ok (.iconst 0, 1) := by decide +kernel
theorem dX9_field_61 : decode cX9_field 61 = .ok (.iastore, 1) := by decide +kernel
theorem dX9_field_62 : decode cX9_field 62 = .ok (.iinc 2 1, 3) := by decide +kernel
theorem dX9_field_65 : decode cX9_field 65 = .ok (.goto (-29), 3) := by decide +kernel
theorem dX9_field_68 : decode cX9_field 68 = .ok (.aload_n 0, 1) := by decide +kernel
theorem dX9_field_69 : decode cX9_field 69 = .ok (.getfield 7, 3) := by decide +kernel
theorem dX9_field_72 : decode cX9_field 72 = .ok (.bipush 9, 2) := by decide +kernel
theorem dX9_field_74 : decode cX9_field 74 = .ok (.iconst 0, 1) := by decide +kernel
theorem dX9_field_75 : decode cX9_field 75 = .ok (.iastore, 1) := by decide +kernel
theorem dX9_field_76 : decode cX9_field 76 = .ok (.aload_n 0, 1) := by decide +kernel
theorem dX9_field_77 : decode cX9_field 77 = .ok (.getfield 7, 3) := by decide +kernel
theorem dX9_field_80 : decode cX9_field 80 = .ok (.bipush 10, 2) := by decide +kernel
theorem dX9_field_82 : decode cX9_field 82 = .ok (.iconst 0, 1) := by decide +kernel
theorem dX9_field_83 : decode cX9_field 83 = .ok (.iastore, 1) := by decide +kernel
theorem dX9_field_84 : decode cX9_field 84 = .ok (.aload_n 0, 1) := by decide +kernel
theorem dX9_field_85 : decode cX9_field 85 = .ok (.iconst 3, 1) := by decide +kernel
theorem dX9_field_86 : decode cX9_field 86 = .ok (.iload_n 1, 1) := by decide +kernel
theorem dX9_field_87 : decode cX9_field 87 = .ok (.invokevirtual 64, 3) := by decide +kernel
theorem dX9_field_90 : decode cX9_field 90 = .ok (.ireturn, 1) := by decide +kernel
set_option maxRecDepth 20000 in
theorem ggX9_sow_X9_isCell : GoodIn wsX9_sow wsX9_isCell := goodIn_r _ [7, 8, 9, 10, 6, 11, 22, 23, 24, 25, 26, 27, 28, 29, 30, 31, 32, 33, 34, 35, 36, 37, 38, 39, 40, 41, 42, 43, 44, 45, 46, 47, 48, 49] (by decide +kernel) (by decide +kernel)
set_option maxRecDepth 20000 in
theorem gX9_sow_X9_isCell : GoodIn wsX9_sow (wsV RX9 68 RX9 yX9_isCell wsX9_isCell) := goodIn_app (goodIn_of _ (by decide +kernel)) ggX9_sow_X9_isCell
set_option maxRecDepth 20000 in
theorem ggX9_sow_X9_in : GoodIn wsX9_sow wsX9_in := goodIn_r _ [11] (by decide +kernel) (by decide +kernel)
set_option maxRecDepth 20000 in
theorem gX9_sow_X9_in : GoodIn wsX9_sow (va_wsS RX9 54 yX9_in wsX9_in) := goodIn_app (goodIn_of _ (by decide +kernel)) ggX9_sow_X9_in
set_option maxRecDepth 20000 in
theorem ggX9_sow_X9_errs : GoodIn wsX9_sow wsX9_errs := goodIn_r _ [15, 16, 17, 22, 23, 24, 25, 26, 27, 28, 29, 30, 31, 32, 33, 34, 35, 36, 37, 38, 39, 40, 41, 42, 43, 44, 45, 46, 47, 48, 49] (by decide +kernel) (by decide +kernel)
set_option maxRecDepth 20000 in
theorem gX9_sow_X9_errs : GoodIn wsX9_sow (wsV RX9 59 RX9 yX9_errs wsX9_errs) := goodIn_app (goodIn_of _ (by decide +kernel)) ggX9_sow_X9_errs
set_option maxRecDepth 20000 in
theorem ggX9_sow_X9_becomes : GoodIn wsX9_sow wsX9_becomes := goodIn_r _ [21, 8, 22, 23, 24, 25, 26, 27, 28, 29, 30, 31, 32, 33, 34, 35, 36, 37, 38, 39, 40, 41, 42, 43, 44, 45, 46, 47, 48, 49] (by decide +kernel) (by decide +kernel)
set_option maxRecDepth 20000 in
theorem gX9_sow_X9_becomes : GoodIn wsX9_sow (wsV RX9 64 RX9 yX9_becomes wsX9_becomes) := goodIn_app (goodIn_of _ (by decide +kernel)) ggX9_sow_X9_becomes
theorem dX9_sow_0 : decode cX9_sow 0 = .ok (.aload_n 0, 1) := by decide +kernel
theorem dX9_sow_1 : decode cX9_sow 1 = .ok (.iload_n 1, 1) := by decide +kernel
theorem dX9_sow_2 : decode cX9_sow 2 = .ok (.invokevirtual 68, 3) := by decide +kernel
theorem dX9_sow_5 : decode cX9_sow 5 = .ok (.ifCond .eq 31, 3) := by decide +kernel
theorem dX9_sow_8 : decode cX9_sow 8 = .ok (.iload_n 2, 1) := by decide +kernel
theorem dX9_sow_9 : decode cX9_sow 9 = .ok (.iconst 0, 1) := by decide +kernel
theorem dX9_sow_10 : decode cX9_sow 10 = .ok (.iconst 1, 1) := by decide +kernel
theorem dX9_sow_11 : decode cX9_sow 11 = .ok (.invokestatic 54, 3) := by decide +kernel
theorem dX9_sow_14 : decode cX9_sow 14 = .ok (.ifCond .eq 22, 3) := by decide +kernel
theorem dX9_sow_17 : decode cX9_sow 17 = .ok (.iload_n 3, 1) := by decide +kernel
theorem dX9_sow_18 : decode cX9_sow 18 = .ok (.iconst 0, 1) := by decide +kernel
theorem dX9_sow_19 : decode cX9_sow 19 = .ok (.iload_n 2, 1) := by decide +kernel
theorem dX9_sow_20 : decode cX9_sow 20 = .ok (.ifCond .ne 8, 3) := by decide +kernel
theorem dX9_sow_23 : decode cX9_sow 23 = .ok (.ldc 72, 2) := by decide +kernel
theorem dX9_sow_25 : decode cX9_sow 25 = .ok (.goto 5, 3) := by decide +kernel
theorem dX9_sow_28 : decode cX9_sow 28 = .ok (.bipush 99, 2) := by decide +kernel
theorem dX9_sow_30 : decode cX9_sow 30 = .ok (.invokestatic 54, 3) := by decide +kernel
theorem dX9_sow_33 : decode cX9_sow 33 = .ok (.ifCond .ne 10, 3) := by decide +kernel
theorem dX9_sow_36 : decode cX9_sow 36 = .ok (.aload_n 0, 1) := by decide +kernel
theorem dX9_sow_37 : decode cX9_sow 37 = .ok (.ldc 58, 2) := by decide +kernel
theorem dX9_sow_39 : decode cX9_sow 39 = .ok (.invokevirtual 59, 3) := by decide +kernel
theorem dX9_sow_42 : decode cX9_sow 42 = .ok (.ireturn, 1) := by decide +kernel
theorem dX9_sow_43 : decode cX9_sow 43 = .ok (.aload_n 0, 1) := by decide +kernel
theorem dX9_sow_44 : decode cX9_sow 44 = .ok (.iload_n 2, 1) := by decide +kernel
theorem dX9_sow_45 : decode cX9_sow 45 = .ok (.ifCond .ne 10, 3) := by decide +kernel
theorem dX9_sow_48 : decode cX9_sow 48 = .ok (.bipush 12, 2) := by decide +kernel
theorem dX9_sow_50 : decode cX9_sow 50 = .ok (.iload_n 1, 1) := by decide +kernel
theorem dX9_sow_51 : decode cX9_sow 51 = .ok (.iadd, 1) := by decide +kernel
theorem dX9_sow_52 : decode cX9_sow 52 = .ok (.goto 7, 3) := by decide +kernel
theorem dX9_sow_55 : decode cX9_sow 55 = .ok (.bipush 22, 2) := by decide +kernel
theorem dX9_sow_57 : decode cX9_sow 57 = .ok (.iload_n 1, 1) := by decide +kernel
theorem dX9_sow_58 : decode cX9_sow 58 = .ok (.iadd, 1) := by decide +kernel
theorem dX9_sow_59 : decode cX9_sow 59 = .ok (.iload_n 3, 1) := by decide +kernel
theorem dX9_sow_60 : decode cX9_sow 60 = .ok (.invokevirtual 64, 3) := by decide +kernel
theorem dX9_sow_63 : decode cX9_sow 63 = .ok (.ireturn, 1) := by decide +kernel
set_option maxRecDepth 20000 in
theorem ggX9_whoSees_X9_seesOf : GoodIn wsX9_whoSees wsX9_seesOf := goodIn_r _ [6, 1, 7, 8, 9, 5, 10, 11, 12, 13, 14, 15, 16, 17, 18, 19, 20, 21, 22, 23, 24, 25, 26, 27, 28, 29, 30, 31, 32, 33, 34, 35, 36, 37, 38, 39, 40, 41, 42, 43, 44, 45, 46, 47, 48, 49, 50, 51, 52, 53, 54, 55, 56, 57, 58, 59, 60, 61, 62, 63, 64, 65, 66, 67, 68, 69, 70, 71, 72, 73, 74, 75, 76, 77, 78, 79, 80, 81, 82, 83, 84, 85, 86, 87, 88, 89, 90, 91, 92, 93, 94, 95, 96, 97, 98, 99, 100, 101, 102, 103, 104, 105, 106, 107, 108, 109, 110] (by decide +kernel) (by decide +kernel)
set_option maxRecDepth 20000 in
theorem gX9_whoSees_X9_seesOf : GoodIn wsX9_whoSees (wsV RX9 73 RX9 yX9_seesOf wsX9_seesOf) := goodIn_app (goodIn_of _ (by decide +kernel)) ggX9_whoSees_X9_seesOf
set_option maxRecDepth 20000 in
theorem ggX9_whoSees_X9_has : GoodIn wsX9_whoSees wsX9_has := goodIn_r _ [82] (by decide +kernel) (by decide +kernel)
set_option maxRecDepth 20000 in
theorem gX9_whoSees_X9_has : GoodIn wsX9_whoSees (va_wsS RX9 76 yX9_has wsX9_has) := goodIn_app (goodIn_of _ (by decide +kernel)) ggX9_whoSees_X9_has
theorem dX9_whoSees_0 : decode cX9_whoSees 0 = .ok (.iconst 0, 1) := by decide +kernel
theorem dX9_whoSees_1 : decode cX9_whoSees 1 = .ok (.istore_n 2, 1) := by decide +kernel
theorem dX9_whoSees_2 : decode cX9_whoSees 2 = .ok (.iconst 0, 1) := by decide +kernel
theorem dX9_whoSees_3 : decode cX9_whoSees 3 = .ok (.istore_n 3, 1) := by decide +kernel
theorem dX9_whoSees_4 : decode cX9_whoSees 4 = .ok (.iload_n 3, 1) := by decide +kernel
theorem dX9_whoSees_5 : decode cX9_whoSees 5 = .ok (.aload_n 0, 1) := by decide +kernel
theorem dX9_whoSees_6 : decode cX9_whoSees 6 = .ok (.getfield 7, 3) := by decide +kernel
theorem dX9_whoSees_9 : decode cX9_whoSees 9 = .ok (.bipush 8, 2) := by decide +kernel
theorem dX9_whoSees_11 : decode cX9_whoSees 11 = .ok (.iaload, 1) := by decide +kernel
theorem dX9_whoSees_12 : decode cX9_whoSees 12 = .ok (.if_icmp .ge 31, 3) := by decide +kernel
theorem dX9_whoSees_15 : decode cX9_whoSees 15 = .ok (.iload_n 2, 1) := by decide +kernel
theorem dX9_whoSees_16 : decode cX9_whoSees 16 = .ok (.aload_n 0, 1) := by decide +kernel
theorem dX9_whoSees_17 : decode cX9_whoSees 17 = .ok (.iload_n 3, 1) := by decide +kernel
theorem dX9_whoSees_18 : decode cX9_whoSees 18 = .ok (.invokevirtual 73, 3) := by decide +kernel
theorem dX9_whoSees_21 : decode cX9_whoSees 21 = .ok (.iload_n 1, 1) := by decide +kernel
theorem dX9_whoSees_22 : decode cX9_whoSees 22 = .ok (.invokestatic 76, 3) := by decide +kernel
theorem dX9_whoSees_25 : decode cX9_whoSees 25 = .ok (.ifCond .eq 9, 3) := by decide +kernel
theorem dX9_whoSees_28 : decode cX9_whoSees 28 = .ok (.iconst 1, 1) := by decide +kernel
theorem dX9_whoSees_29 : decode cX9_whoSees 29 = .ok (.iload_n 3, 1) := by decide +kernel
theorem dX9_whoSees_30 : decode cX9_whoSees 30 = .ok (.ishl, 1) := by decide +kernel
theorem dX9_whoSees_31 : decode cX9_whoSees 31 = .ok (.goto 4, 3) := by decide +kernel
theorem dX9_whoSees_34 : decode cX9_whoSees 34 = .ok (.iconst 0, 1) := by decide +kernel
theorem dX9_whoSees_35 : decode cX9_whoSees 35 = .ok (.ior, 1) := by decide +kernel
theorem dX9_whoSees_36 : decode cX9_whoSees 36 = .ok (.istore_n 2, 1) := by decide +kernel
theorem dX9_whoSees_37 : decode cX9_whoSees 37 = .ok (.iinc 3 1, 3) := by decide +kernel
theorem dX9_whoSees_40 : decode cX9_whoSees 40 = .ok (.goto (-36), 3) := by decide +kernel
theorem dX9_whoSees_43 : decode cX9_whoSees 43 = .ok (.iload_n 2, 1) := by decide +kernel
theorem dX9_whoSees_44 : decode cX9_whoSees 44 = .ok (.ireturn, 1) := by decide +kernel
set_option maxRecDepth 20000 in
theorem ggX9_whoIsAt_X9_its : GoodIn wsX9_whoIsAt wsX9_its := goodIn_r _ [6, 1, 7, 8, 9, 10, 11, 12, 13, 14, 15, 16, 17, 18, 19, 20, 21, 22, 23, 24, 25, 26, 27, 28, 29, 30, 31, 32, 33, 34] (by decide +kernel) (by decide +kernel)
set_option maxRecDepth 20000 in
theorem gX9_whoIsAt_X9_its : GoodIn wsX9_whoIsAt (wsV RX9 80 RX9 yX9_its wsX9_its) := goodIn_app (goodIn_of _ (by decide +kernel)) ggX9_whoIsAt_X9_its
theorem dX9_whoIsAt_0 : decode cX9_whoIsAt 0 = .ok (.iconst 0, 1) := by decide +kernel
theorem dX9_whoIsAt_1 : decode cX9_whoIsAt 1 = .ok (.istore_n 2, 1) := by decide +kernel
theorem dX9_whoIsAt_2 : decode cX9_whoIsAt 2 = .ok (.iconst 0, 1) := by decide +kernel
theorem dX9_whoIsAt_3 : decode cX9_whoIsAt 3 = .ok (.istore_n 3, 1) := by decide +kernel
theorem dX9_whoIsAt_4 : decode cX9_whoIsAt 4 = .ok (.iload_n 3, 1) := by decide +kernel
theorem dX9_whoIsAt_5 : decode cX9_whoIsAt 5 = .ok (.aload_n 0, 1) := by decide +kernel
theorem dX9_whoIsAt_6 : decode cX9_whoIsAt 6 = .ok (.getfield 7, 3) := by decide +kernel
theorem dX9_whoIsAt_9 : decode cX9_whoIsAt 9 = .ok (.bipush 8, 2) := by decide +kernel
theorem dX9_whoIsAt_11 : decode cX9_whoIsAt 11 = .ok (.iaload, 1) := by decide +kernel
theorem dX9_whoIsAt_12 : decode cX9_whoIsAt 12 = .ok (.if_icmp .ge 29, 3) := by decide +kernel
theorem dX9_whoIsAt_15 : decode cX9_whoIsAt 15 = .ok (.iload_n 2, 1) := by decide +kernel
theorem dX9_whoIsAt_16 : decode cX9_whoIsAt 16 = .ok (.aload_n 0, 1) := by decide +kernel
theorem dX9_whoIsAt_17 : decode cX9_whoIsAt 17 = .ok (.iload_n 3, 1) := by decide +kernel
theorem dX9_whoIsAt_18 : decode cX9_whoIsAt 18 = .ok (.iconst 2, 1) := by decide +kernel
theorem dX9_whoIsAt_19 : decode cX9_whoIsAt 19 = .ok (.invokevirtual 80, 3) := by decide +kernel
theorem dX9_whoIsAt_22 : decode cX9_whoIsAt 22 = .ok (.iload_n 1, 1) := by decide +kernel
theorem dX9_whoIsAt_23 : decode cX9_whoIsAt 23 = .ok (.if_icmp .ne 9, 3) := by decide +kernel
theorem dX9_whoIsAt_26 : decode cX9_whoIsAt 26 = .ok (.iconst 1, 1) := by decide +kernel
theorem dX9_whoIsAt_27 : decode cX9_whoIsAt 27 = .ok (.iload_n 3, 1) := by decide +kernel
theorem dX9_whoIsAt_28 : decode cX9_whoIsAt 28 = .ok (.ishl, 1) := by decide +kernel
theorem dX9_whoIsAt_29 : decode cX9_whoIsAt 29 = .ok (.goto 4, 3) := by decide +kernel
theorem dX9_whoIsAt_32 : decode cX9_whoIsAt 32 = .ok (.iconst 0, 1) := by decide +kernel
theorem dX9_whoIsAt_33 : decode cX9_whoIsAt 33 = .ok (.ior, 1) := by decide +kernel
theorem dX9_whoIsAt_34 : decode cX9_whoIsAt 34 = .ok (.istore_n 2, 1) := by decide +kernel
theorem dX9_whoIsAt_35 : decode cX9_whoIsAt 35 = .ok (.iinc 3 1, 3) := by decide +kernel
theorem dX9_whoIsAt_38 : decode cX9_whoIsAt 38 = .ok (.goto (-34), 3) := by decide +kernel
theorem dX9_whoIsAt_41 : decode cX9_whoIsAt 41 = .ok (.iload_n 2, 1) := by decide +kernel
theorem dX9_whoIsAt_42 : decode cX9_whoIsAt 42 = .ok (.ireturn, 1) := by decide +kernel
set_option maxRecDepth 20000 in
theorem ggX9_ofCell_X9_isCell : GoodIn wsX9_ofCell wsX9_isCell := goodIn_r _ [7, 2, 8, 9, 6, 10, 102, 103, 104, 105, 106, 107, 108, 109, 110, 111, 112, 113, 114, 115, 116, 117, 118, 119, 120, 121, 122, 123, 124, 125, 126, 127, 128, 129] (by decide +kernel) (by decide +kernel)
set_option maxRecDepth 20000 in
theorem gX9_ofCell_X9_isCell : GoodIn wsX9_ofCell (wsV RX9 68 RX9 yX9_isCell wsX9_isCell) := goodIn_app (goodIn_of _ (by decide +kernel)) ggX9_ofCell_X9_isCell
set_option maxRecDepth 20000 in
theorem ggX9_ofCell_X9_in : GoodIn wsX9_ofCell wsX9_in := goodIn_r _ [10] (by decide +kernel) (by decide +kernel)
set_option maxRecDepth 20000 in
theorem gX9_ofCell_X9_in : GoodIn wsX9_ofCell (va_wsS RX9 54 yX9_in wsX9_in) := goodIn_app (goodIn_of _ (by decide +kernel)) ggX9_ofCell_X9_in
set_option maxRecDepth 20000 in
theorem ggX9_ofCell_X9_errs : GoodIn wsX9_ofCell wsX9_errs := goodIn_r _ [14, 15, 16, 102, 103, 104, 105, 106, 107, 108, 109, 110, 111, 112, 113, 114, 115, 116, 117, 118, 119, 120, 121, 122, 123, 124, 125, 126, 127, 128, 129] (by decide +kernel) (by decide +kernel)
set_option maxRecDepth 20000 in
theorem gX9_ofCell_X9_errs : GoodIn wsX9_ofCell (wsV RX9 59 RX9 yX9_errs wsX9_errs) := goodIn_app (goodIn_of _ (by decide +kernel)) ggX9_ofCell_X9_errs
set_option maxRecDepth 20000 in
theorem ggX9_ofCell_X9_whoSees : GoodIn wsX9_ofCell wsX9_whoSees := goodIn_r _ [20, 2, 21, 22, 23, 6, 24, 25, 26, 27, 28, 29, 30, 31, 32, 33, 34, 35, 36, 37, 38, 39, 40, 41, 42, 43, 44, 45, 46, 47, 48, 49, 50, 51, 52, 53, 54, 55, 56, 57, 58, 59, 60, 61, 62, 63, 64, 65, 66, 67, 68, 69, 70, 71, 8, 9, 10, 72, 73, 74, 75, 76, 77, 78, 79, 80, 81, 82, 83, 84, 85, 86, 87, 88, 89, 90, 91, 92, 93, 94, 95, 96, 97, 102, 103, 104, 105, 106, 107, 108, 109, 110, 111, 112, 113, 114, 115, 116, 117, 118, 119, 120, 121, 122, 123, 124, 125, 126, 127, 128, 129] (by decide +kernel) (by decide +kernel)
set_option maxRecDepth 20000 in
theorem gX9_ofCell_X9_whoSees : GoodIn wsX9_ofCell (wsV RX9 83 RX9 yX9_whoSees wsX9_whoSees) := goodIn_app (goodIn_of _ (by decide +kernel)) ggX9_ofCell_X9_whoSees
set_option maxRecDepth 20000 in
theorem ggX9_ofCell_X9_whoIsAt : GoodIn wsX9_ofCell wsX9_whoIsAt := goodIn_r _ [101, 2, 25, 26, 27, 6, 28, 102, 103, 104, 105, 106, 107, 108, 109, 110, 111, 112, 113, 114, 115, 116, 117, 118, 119, 120, 121, 122, 123, 124, 125, 126, 127, 128, 129] (by decide +kernel) (by decide +kernel)
set_option maxRecDepth 20000 in
theorem gX9_ofCell_X9_whoIsAt : GoodIn wsX9_ofCell (wsV RX9 86 RX9 yX9_whoIsAt wsX9_whoIsAt) := goodIn_app (goodIn_of _ (by decide +kernel)) ggX9_ofCell_X9_whoIsAt
theorem dX9_ofCell_0 : decode cX9_ofCell 0 = .ok (.aload_n 0, 1) := by decide +kernel
theorem dX9_ofCell_1 : decode cX9_ofCell 1 = .ok (.iload_n 1, 1) := by decide +kernel
theorem dX9_ofCell_2 : decode cX9_ofCell 2 = .ok (.invokevirtual 68, 3) := by decide +kernel
theorem dX9_ofCell_5 : decode cX9_ofCell 5 = .ok (.ifCond .eq 12, 3) := by decide +kernel
theorem dX9_ofCell_8 : decode cX9_ofCell 8 = .ok (.iload_n 2, 1) := by decide +kernel
theorem dX9_ofCell_9 : decode cX9_ofCell 9 = .ok (.iconst 0, 1) := by decide +kernel
theorem dX9_ofCell_10 : decode cX9_ofCell 10 = .ok (.iconst 3, 1) := by decide +kernel
theorem dX9_ofCell_11 : decode cX9_ofCell 11 = .ok (.invokestatic 54, 3) := by decide +kernel
theorem dX9_ofCell_14 : decode cX9_ofCell 14 = .ok (.ifCond .ne 10, 3) := by decide +kernel
theorem dX9_ofCell_17 : decode cX9_ofCell 17 = .ok (.aload_n 0, 1) := by decide +kernel
theorem dX9_ofCell_18 : decode cX9_ofCell 18 = .ok (.ldc 58, 2) := by decide +kernel
theorem dX9_ofCell_20 : decode cX9_ofCell 20 = .ok (.invokevirtual 59, 3) := by decide +kernel
theorem dX9_ofCell_23 : decode cX9_ofCell 23 = .ok (.ireturn, 1) := by decide +kernel
theorem dX9_ofCell_24 : decode cX9_ofCell 24 = .ok (.iload_n 2, 1) := by decide +kernel
theorem dX9_ofCell_25 : decode cX9_ofCell 25 = .ok (.ifCond .ne 15, 3) := by decide +kernel
theorem dX9_ofCell_28 : decode cX9_ofCell 28 = .ok (.aload_n 0, 1) := by decide +kernel
theorem dX9_ofCell_29 : decode cX9_ofCell 29 = .ok (.getfield 7, 3) := by decide +kernel
theorem dX9_ofCell_32 : decode cX9_ofCell 32 = .ok (.bipush 12, 2) := by decide +kernel
theorem dX9_ofCell_34 : decode cX9_ofCell 34 = .ok (.iload_n 1, 1) := by decide +kernel
theorem dX9_ofCell_35 : decode cX9_ofCell 35 = .ok (.iadd, 1) := by decide +kernel
theorem dX9_ofCell_36 : decode cX9_ofCell 36 = .ok (.iaload, 1) := by decide +kernel
theorem dX9_ofCell_37 : decode cX9_ofCell 37 = .ok (.goto 38, 3) := by decide +kernel
theorem dX9_ofCell_40 : decode cX9_ofCell 40 = .ok (.iload_n 2, 1) := by decide +kernel
theorem dX9_ofCell_41 : decode cX9_ofCell 41 = .ok (.iconst 1, 1) := by decide +kernel
theorem dX9_ofCell_42 : decode cX9_ofCell 42 = .ok (.if_icmp .ne 15, 3) := by decide +kernel
theorem dX9_ofCell_45 : decode cX9_ofCell 45 = .ok (.aload_n 0, 1) := by decide +kernel
theorem dX9_ofCell_46 : decode cX9_ofCell 46 = .ok (.getfield 7, 3) := by decide +kernel
theorem dX9_ofCell_49 : decode cX9_ofCell 49 = .ok (.bipush 22, 2) := by decide +kernel
theorem dX9_ofCell_51 : decode cX9_ofCell 51 = .ok (.iload_n 1, 1) := by decide +kernel
theorem dX9_ofCell_52 : decode cX9_ofCell 52 = .ok (.iadd, 1) := by decide +kernel
theorem dX9_ofCell_53 : decode cX9_ofCell 53 = .ok (.iaload, 1) := by decide +kernel
theorem dX9_ofCell_54 : decode cX9_ofCell 54 = .ok (.goto 21, 3) := by decide +kernel
theorem dX9_ofCell_57 : decode cX9_ofCell 57 = .ok (.iload_n 2, 1) := by decide +kernel
theorem dX9_ofCell_58 : decode cX9_ofCell 58 = .ok (.iconst 2, 1) := by decide +kernel
theorem dX9_ofCell_59 : decode cX9_ofCell 59 = .ok (.if_icmp .ne 11, 3) := by decide +kernel
theorem dX9_ofCell_62 : decode cX9_ofCell 62 = .ok (.aload_n 0, 1) := by decide +kernel
theorem dX9_ofCell_63 : decode cX9_ofCell 63 = .ok (.iload_n 1, 1) := by decide +kernel
theorem dX9_ofCell_64 : decode cX9_ofCell 64 = .ok (.invokevirtual 83, 3) := by decide +kernel
theorem dX9_ofCell_67 : decode cX9_ofCell 67 = .ok (.goto 8, 3) := by decide +kernel
theorem dX9_ofCell_70 : decode cX9_ofCell 70 = .ok (.aload_n 0, 1) := by decide +kernel
theorem dX9_ofCell_71 : decode cX9_ofCell 71 = .ok (.iload_n 1, 1) := by decide +kernel
theorem dX9_ofCell_72 : decode cX9_ofCell 72 = .ok (.invokevirtual 86, 3) := by decide +kernel
theorem dX9_ofCell_75 : decode cX9_ofCell 75 = .ok (.ireturn, 1) := by decide +kernel
set_option maxRecDepth 20000 in
theorem ggX9_lay_X9_in : GoodIn wsX9_lay wsX9_in := goodIn_r _ [6] (by decide +kernel) (by decide +kernel)
set_option maxRecDepth 20000 in
theorem gX9_lay_X9_in : GoodIn wsX9_lay (va_wsS RX9 54 yX9_in wsX9_in) := goodIn_app (goodIn_of _ (by decide +kernel)) ggX9_lay_X9_in
set_option maxRecDepth 20000 in
theorem ggX9_lay_X9_becomes : GoodIn wsX9_lay wsX9_becomes := goodIn_r _ [10, 1, 17, 18, 19, 20, 21, 22, 23, 24, 25, 26, 27, 28, 29, 30, 31, 32, 33, 34, 35, 36, 37, 38, 39, 40, 41, 42, 43, 44] (by decide +kernel) (by decide +kernel)
set_option maxRecDepth 20000 in
theorem gX9_lay_X9_becomes : GoodIn wsX9_lay (wsV RX9 64 RX9 yX9_becomes wsX9_becomes) := goodIn_app (goodIn_of _ (by decide +kernel)) ggX9_lay_X9_becomes
set_option maxRecDepth 20000 in
theorem ggX9_lay_X9_errs : GoodIn wsX9_lay wsX9_errs := goodIn_r _ [14, 15, 16, 17, 18, 19, 20, 21, 22, 23, 24, 25, 26, 27, 28, 29, 30, 31, 32, 33, 34, 35, 36, 37, 38, 39, 40, 41, 42, 43, 44] (by decide +kernel) (by decide +kernel)
set_option maxRecDepth 20000 in
theorem gX9_lay_X9_errs : GoodIn wsX9_lay (wsV RX9 59 RX9 yX9_errs wsX9_errs) := goodIn_app (goodIn_of _ (by decide +kernel)) ggX9_lay_X9_errs
theorem dX9_lay_0 : decode cX9_lay 0 = .ok (.iload_n 1, 1) := by decide +kernel
theorem dX9_lay_1 : decode cX9_lay 1 = .ok (.tableswitch 125 0 2 #[27, 64, 99], 27) := by decide +kernel
theorem dX9_lay_28 : decode cX9_lay 28 = .ok (.iload_n 2, 1) := by decide +kernel
theorem dX9_lay_29 : decode cX9_lay 29 = .ok (.iconst 0, 1) := by decide +kernel
theorem dX9_lay_30 : decode cX9_lay 30 = .ok (.iconst 1, 1) := by decide +kernel
theorem dX9_lay_31 : decode cX9_lay 31 = .ok (.aload_n 0, 1) := by decide +kernel
theorem dX9_lay_32 : decode cX9_lay 32 = .ok (.getfield 7, 3) := by decide +kernel
theorem dX9_lay_35 : decode cX9_lay 35 = .ok (.iconst 3, 1) := by decide +kernel
theorem dX9_lay_36 : decode cX9_lay 36 = .ok (.iaload, 1) := by decide +kernel
theorem dX9_lay_37 : decode cX9_lay 37 = .ok (.iconst 1, 1) := by decide +kernel
theorem dX9_lay_38 : decode cX9_lay 38 = .ok (.isub, 1) := by decide +kernel
theorem dX9_lay_39 : decode cX9_lay 39 = .ok (.ishl, 1) := by decide +kernel
theorem dX9_lay_40 : decode cX9_lay 40 = .ok (.iconst 1, 1) := by decide +kernel
theorem dX9_lay_41 : decode cX9_lay 41 = .ok (.isub, 1) := by decide +kernel
theorem dX9_lay_42 : decode cX9_lay 42 = .ok (.invokestatic 54, 3) := by decide +kernel
theorem dX9_lay_45 : decode cX9_lay 45 = .ok (.ifCond .eq 13, 3) := by decide +kernel
theorem dX9_lay_48 : decode cX9_lay 48 = .ok (.aload_n 0, 1) := by decide +kernel
theorem dX9_lay_49 : decode cX9_lay 49 = .ok (.bipush 9, 2) := by decide +kernel
theorem dX9_lay_51 : decode cX9_lay 51 = .ok (.iload_n 2, 1) := by decide +kernel
theorem dX9_lay_52 : decode cX9_lay 52 = .ok (.invokevirtual 64, 3) := by decide +kernel
theorem dX9_lay_55 : decode cX9_lay 55 = .ok (.goto 9, 3) := by decide +kernel
theorem dX9_lay_58 : decode cX9_lay 58 = .ok (.aload_n 0, 1) := by decide +kernel
theorem dX9_lay_59 : decode cX9_lay 59 = .ok (.ldc 58, 2) := by decide +kernel
theorem dX9_lay_61 : decode cX9_lay 61 = .ok (.invokevirtual 59, 3) := by decide +kernel
theorem dX9_lay_64 : decode cX9_lay 64 = .ok (.ireturn, 1) := by decide +kernel
theorem dX9_lay_65 : decode cX9_lay 65 = .ok (.iload_n 2, 1) := by decide +kernel
theorem dX9_lay_66 : decode cX9_lay 66 = .ok (.iconst 0, 1) := by decide +kernel
theorem dX9_lay_67 : decode cX9_lay 67 = .ok (.iconst 1, 1) := by decide +kernel
theorem dX9_lay_68 : decode cX9_lay 68 = .ok (.aload_n 0, 1) := by decide +kernel
theorem dX9_lay_69 : decode cX9_lay 69 = .ok (.getfield 7, 3) := by decide +kernel
theorem dX9_lay_72 : decode cX9_lay 72 = .ok (.iconst 3, 1) := by decide +kernel
theorem dX9_lay_73 : decode cX9_lay 73 = .ok (.iaload, 1) := by decide +kernel
theorem dX9_lay_74 : decode cX9_lay 74 = .ok (.ishl, 1) := by decide +kernel
theorem dX9_lay_75 : decode cX9_lay 75 = .ok (.iconst 1, 1) := by decide +kernel
theorem dX9_lay_76 : decode cX9_lay 76 = .ok (.isub, 1) := by decide +kernel
theorem dX9_lay_77 : decode cX9_lay 77 = .ok (.invokestatic 54, 3) := by decide +kernel
theorem dX9_lay_80 : decode cX9_lay 80 = .ok (.ifCond .eq 13, 3) := by decide +kernel
theorem dX9_lay_83 : decode cX9_lay 83 = .ok (.aload_n 0, 1) := by decide +kernel
theorem dX9_lay_84 : decode cX9_lay 84 = .ok (.bipush 10, 2) := by decide +kernel
theorem dX9_lay_86 : decode cX9_lay 86 = .ok (.iload_n 2, 1) := by decide +kernel
theorem dX9_lay_87 : decode cX9_lay 87 = .ok (.invokevirtual 64, 3) := by decide +kernel
theorem dX9_lay_90 : decode cX9_lay 90 = .ok (.goto 9, 3) := by decide +kernel
theorem dX9_lay_93 : decode cX9_lay 93 = .ok (.aload_n 0, 1) := by decide +kernel
theorem dX9_lay_94 : decode cX9_lay 94 = .ok (.ldc 58, 2) := by decide +kernel
theorem dX9_lay_96 : decode cX9_lay 96 = .ok (.invokevirtual 59, 3) := by decide +kernel
theorem dX9_lay_99 : decode cX9_lay 99 = .ok (.ireturn, 1) := by decide +kernel
theorem dX9_lay_100 : decode cX9_lay 100 = .ok (.iload_n 2, 1) := by decide +kernel
theorem dX9_lay_101 : decode cX9_lay 101 = .ok (.iconst 0, 1) := by decide +kernel
theorem dX9_lay_102 : decode cX9_lay 102 = .ok (.bipush 9, 2) := by decide +kernel
theorem dX9_lay_104 : decode cX9_lay 104 = .ok (.invokestatic 54, 3) := by decide +kernel
theorem dX9_lay_107 : decode cX9_lay 107 = .ok (.ifCond .eq 12, 3) := by decide +kernel
theorem dX9_lay_110 : decode cX9_lay 110 = .ok (.aload_n 0, 1) := by decide +kernel
theorem dX9_lay_111 : decode cX9_lay 111 = .ok (.iconst 1, 1) := by decide +kernel
theorem dX9_lay_112 : decode cX9_lay 112 = .ok (.iload_n 2, 1) := by decide +kernel
theorem dX9_lay_113 : decode cX9_lay 113 = .ok (.invokevirtual 64, 3) := by decide +kernel
theorem dX9_lay_116 : decode cX9_lay 116 = .ok (.goto 9, 3) := by decide +kernel
theorem dX9_lay_119 : decode cX9_lay 119 = .ok (.aload_n 0, 1) := by decide +kernel
theorem dX9_lay_120 : decode cX9_lay 120 = .ok (.ldc 58, 2) := by decide +kernel
theorem dX9_lay_122 : decode cX9_lay 122 = .ok (.invokevirtual 59, 3) := by decide +kernel
theorem dX9_lay_125 : decode cX9_lay 125 = .ok (.ireturn, 1) := by decide +kernel
theorem dX9_lay_126 : decode cX9_lay 126 = .ok (.aload_n 0, 1) := by decide +kernel
theorem dX9_lay_127 : decode cX9_lay 127 = .ok (.ldc 58, 2) := by decide +kernel
theorem dX9_lay_129 : decode cX9_lay 129 = .ok (.invokevirtual 59, 3) := by decide +kernel
theorem dX9_lay_132 : decode cX9_lay 132 = .ok (.ireturn, 1) := by decide +kernel
set_option maxRecDepth 20000 in
theorem ggX9_person_X9_in : GoodIn wsX9_person wsX9_in := goodIn_r _ [7] (by decide +kernel) (by decide +kernel)
set_option maxRecDepth 20000 in
theorem gX9_person_X9_in : GoodIn wsX9_person (va_wsS RX9 54 yX9_in wsX9_in) := goodIn_app (goodIn_of _ (by decide +kernel)) ggX9_person_X9_in
set_option maxRecDepth 20000 in
theorem ggX9_person_X9_isCell : GoodIn wsX9_person wsX9_isCell := goodIn_r _ [11, 2, 4, 5, 6, 7, 22, 23, 24, 25, 26, 27, 28, 29, 30, 31, 32, 33, 34, 35, 36, 37, 38, 39, 40, 41, 42, 43, 44, 45, 46, 47, 48, 49] (by decide +kernel) (by decide +kernel)
set_option maxRecDepth 20000 in
theorem gX9_person_X9_isCell : GoodIn wsX9_person (wsV RX9 68 RX9 yX9_isCell wsX9_isCell) := goodIn_app (goodIn_of _ (by decide +kernel)) ggX9_person_X9_isCell
set_option maxRecDepth 20000 in
theorem ggX9_person_X9_errs : GoodIn wsX9_person wsX9_errs := goodIn_r _ [15, 16, 17, 22, 23, 24, 25, 26, 27, 28, 29, 30, 31, 32, 33, 34, 35, 36, 37, 38, 39, 40, 41, 42, 43, 44, 45, 46, 47, 48, 49] (by decide +kernel) (by decide +kernel)
set_option maxRecDepth 20000 in
theorem gX9_person_X9_errs : GoodIn wsX9_person (wsV RX9 59 RX9 yX9_errs wsX9_errs) := goodIn_app (goodIn_of _ (by decide +kernel)) ggX9_person_X9_errs
set_option maxRecDepth 20000 in
theorem ggX9_person_X9_gets : GoodIn wsX9_person wsX9_gets := goodIn_r _ [21, 2, 22, 23, 24, 25, 26, 27, 28, 29, 30, 31, 32, 33, 34, 35, 36, 37, 38, 39, 40, 41, 42, 43, 44, 45, 46, 47, 48, 49] (by decide +kernel) (by decide +kernel)
set_option maxRecDepth 20000 in
theorem gX9_person_X9_gets : GoodIn wsX9_person (wsV RX9 90 RX9 yX9_gets wsX9_gets) := goodIn_app (goodIn_of _ (by decide +kernel)) ggX9_person_X9_gets
theorem dX9_person_0 : decode cX9_person 0 = .ok (.iload_n 1, 1) := by decide +kernel
theorem dX9_person_1 : decode cX9_person 1 = .ok (.iconst 0, 1) := by decide +kernel
theorem dX9_person_2 : decode cX9_person 2 = .ok (.bipush 69, 2) := by decide +kernel
theorem dX9_person_4 : decode cX9_person 4 = .ok (.invokestatic 54, 3) := by decide +kernel
theorem dX9_person_7 : decode cX9_person 7 = .ok (.ifCond .eq 11, 3) := by decide +kernel
theorem dX9_person_10 : decode cX9_person 10 = .ok (.aload_n 0, 1) := by decide +kernel
theorem dX9_person_11 : decode cX9_person 11 = .ok (.iload_n 2, 1) := by decide +kernel
theorem dX9_person_12 : decode cX9_person 12 = .ok (.invokevirtual 68, 3) := by decide +kernel
theorem dX9_person_15 : decode cX9_person 15 = .ok (.ifCond .ne 10, 3) := by decide +kernel
theorem dX9_person_18 : decode cX9_person 18 = .ok (.aload_n 0, 1) := by decide +kernel
theorem dX9_person_19 : decode cX9_person 19 = .ok (.ldc 58, 2) := by decide +kernel
theorem dX9_person_21 : decode cX9_person 21 = .ok (.invokevirtual 59, 3) := by decide +kernel
theorem dX9_person_24 : decode cX9_person 24 = .ok (.ireturn, 1) := by decide +kernel
theorem dX9_person_25 : decode cX9_person 25 = .ok (.aload_n 0, 1) := by decide +kernel
theorem dX9_person_26 : decode cX9_person 26 = .ok (.getfield 7, 3) := by decide +kernel
theorem dX9_person_29 : decode cX9_person 29 = .ok (.bipush 8, 2) := by decide +kernel
theorem dX9_person_31 : decode cX9_person 31 = .ok (.iaload, 1) := by decide +kernel
theorem dX9_person_32 : decode cX9_person 32 = .ok (.bipush 8, 2) := by decide +kernel
theorem dX9_person_34 : decode cX9_person 34 = .ok (.if_icmp .ne 10, 3) := by decide +kernel
theorem dX9_person_37 : decode cX9_person 37 = .ok (.aload_n 0, 1) := by decide +kernel
theorem dX9_person_38 : decode cX9_person 38 = .ok (.ldc 89, 2) := by decide +kernel
theorem dX9_person_40 : decode cX9_person 40 = .ok (.invokevirtual 59, 3) := by decide +kernel
theorem dX9_person_43 : decode cX9_person 43 = .ok (.ireturn, 1) := by decide +kernel
theorem dX9_person_44 : decode cX9_person 44 = .ok (.aload_n 0, 1) := by decide +kernel
theorem dX9_person_45 : decode cX9_person 45 = .ok (.getfield 7, 3) := by decide +kernel
theorem dX9_person_48 : decode cX9_person 48 = .ok (.bipush 8, 2) := by decide +kernel
theorem dX9_person_50 : decode cX9_person 50 = .ok (.iaload, 1) := by decide +kernel
theorem dX9_person_51 : decode cX9_person 51 = .ok (.istore_n 3, 1) := by decide +kernel
theorem dX9_person_52 : decode cX9_person 52 = .ok (.aload_n 0, 1) := by decide +kernel
theorem dX9_person_53 : decode cX9_person 53 = .ok (.iload_n 3, 1) := by decide +kernel
theorem dX9_person_54 : decode cX9_person 54 = .ok (.iconst 0, 1) := by decide +kernel
theorem dX9_person_55 : decode cX9_person 55 = .ok (.iload_n 1, 1) := by decide +kernel
theorem dX9_person_56 : decode cX9_person 56 = .ok (.bipush 10, 2) := by decide +kernel
theorem dX9_person_58 : decode cX9_person 58 = .ok (.idiv, 1) := by decide +kernel
theorem dX9_person_59 : decode cX9_person 59 = .ok (.invokevirtual 90, 3) := by decide +kernel
theorem dX9_person_62 : decode cX9_person 62 = .ok (.aload_n 0, 1) := by decide +kernel
theorem dX9_person_63 : decode cX9_person 63 = .ok (.iload_n 3, 1) := by decide +kernel
theorem dX9_person_64 : decode cX9_person 64 = .ok (.iconst 1, 1) := by decide +kernel
theorem dX9_person_65 : decode cX9_person 65 = .ok (.iload_n 1, 1) := by decide +kernel
theorem dX9_person_66 : decode cX9_person 66 = .ok (.bipush 10, 2) := by decide +kernel
theorem dX9_person_68 : decode cX9_person 68 = .ok (.irem, 1) := by decide +kernel
theorem dX9_person_69 : decode cX9_person 69 = .ok (.invokevirtual 90, 3) := by decide +kernel
theorem dX9_person_72 : decode cX9_person 72 = .ok (.aload_n 0, 1) := by decide +kernel
theorem dX9_person_73 : decode cX9_person 73 = .ok (.iload_n 3, 1) := by decide +kernel
theorem dX9_person_74 : decode cX9_person 74 = .ok (.iconst 2, 1) := by decide +kernel
theorem dX9_person_75 : decode cX9_person 75 = .ok (.iload_n 2, 1) := by decide +kernel
theorem dX9_person_76 : decode cX9_person 76 = .ok (.invokevirtual 90, 3) := by decide +kernel
theorem dX9_person_79 : decode cX9_person 79 = .ok (.aload_n 0, 1) := by decide +kernel
theorem dX9_person_80 : decode cX9_person 80 = .ok (.iload_n 3, 1) := by decide +kernel
theorem dX9_person_81 : decode cX9_person 81 = .ok (.iconst 3, 1) := by decide +kernel
theorem dX9_person_82 : decode cX9_person 82 = .ok (.iconst 0, 1) := by decide +kernel
theorem dX9_person_83 : decode cX9_person 83 = .ok (.invokevirtual 90, 3) := by decide +kernel
theorem dX9_person_86 : decode cX9_person 86 = .ok (.aload_n 0, 1) := by decide +kernel
theorem dX9_person_87 : decode cX9_person 87 = .ok (.getfield 7, 3) := by decide +kernel
theorem dX9_person_90 : decode cX9_person 90 = .ok (.bipush 8, 2) := by decide +kernel
theorem dX9_person_92 : decode cX9_person 92 = .ok (.dup2, 1) := by decide +kernel
theorem dX9_person_93 : decode cX9_person 93 = .ok (.iaload, 1) := by decide +kernel
theorem dX9_person_94 : decode cX9_person 94 = .ok (.iconst 1, 1) := by decide +kernel
theorem dX9_person_95 : decode cX9_person 95 = .ok (.iadd, 1) := by decide +kernel
theorem dX9_person_96 : decode cX9_person 96 = .ok (.iastore, 1) := by decide +kernel
theorem dX9_person_97 : decode cX9_person 97 = .ok (.iload_n 3, 1) := by decide +kernel
theorem dX9_person_98 : decode cX9_person 98 = .ok (.ireturn, 1) := by decide +kernel
set_option maxRecDepth 20000 in
theorem ggX9_ofPerson_X9_isPerson : GoodIn wsX9_ofPerson wsX9_isPerson := goodIn_r _ [6, 7, 8, 9, 5, 10, 102, 103, 104, 105, 106, 107, 108, 109, 110, 111, 112, 113, 114, 115, 116, 117, 118, 119, 120, 121, 122, 123, 124, 125, 126, 127, 128, 129] (by decide +kernel) (by decide +kernel)
set_option maxRecDepth 20000 in
theorem gX9_ofPerson_X9_isPerson : GoodIn wsX9_ofPerson (wsV RX9 94 RX9 yX9_isPerson wsX9_isPerson) := goodIn_app (goodIn_of _ (by decide +kernel)) ggX9_ofPerson_X9_isPerson
set_option maxRecDepth 20000 in
theorem ggX9_ofPerson_X9_in : GoodIn wsX9_ofPerson wsX9_in := goodIn_r _ [10] (by decide +kernel) (by decide +kernel)
set_option maxRecDepth 20000 in
theorem gX9_ofPerson_X9_in : GoodIn wsX9_ofPerson (va_wsS RX9 54 yX9_in wsX9_in) := goodIn_app (goodIn_of _ (by decide +kernel)) ggX9_ofPerson_X9_in
set_option maxRecDepth 20000 in
theorem ggX9_ofPerson_X9_errs : GoodIn wsX9_ofPerson wsX9_errs := goodIn_r _ [14, 15, 16, 102, 103, 104, 105, 106, 107, 108, 109, 110, 111, 112, 113, 114, 115, 116, 117, 118, 119, 120, 121, 122, 123, 124, 125, 126, 127, 128, 129] (by decide +kernel) (by decide +kernel)
set_option maxRecDepth 20000 in
theorem gX9_ofPerson_X9_errs : GoodIn wsX9_ofPerson (wsV RX9 59 RX9 yX9_errs wsX9_errs) := goodIn_app (goodIn_of _ (by decide +kernel)) ggX9_ofPerson_X9_errs
set_option maxRecDepth 20000 in
theorem ggX9_ofPerson_X9_sight : GoodIn wsX9_ofPerson wsX9_sight := goodIn_r _ [20, 7, 21, 22, 23, 5, 24, 25, 26, 27, 28, 29, 30, 31, 32, 33, 34, 35, 36, 37, 38, 39, 40, 41, 42, 43, 44, 45, 46, 47, 48, 49, 50, 51, 52, 53, 54, 55, 56, 57, 58, 59, 60, 61, 62, 63, 8, 9, 10, 64, 65, 66, 67, 68, 69, 70, 71, 72, 73, 74, 75, 76, 77, 78, 79, 80, 81, 82, 83, 84, 85, 86, 102, 103, 104, 105, 106, 107, 108, 109, 110, 111, 112, 113, 114, 115, 116, 117, 118, 119, 120, 121, 122, 123, 124, 125, 126, 127, 128, 129] (by decide +kernel) (by decide +kernel)
set_option maxRecDepth 20000 in
theorem gX9_ofPerson_X9_sight : GoodIn wsX9_ofPerson (wsV RX9 97 RX9 yX9_sight wsX9_sight) := goodIn_app (goodIn_of _ (by decide +kernel)) ggX9_ofPerson_X9_sight
set_option maxRecDepth 20000 in
theorem ggX9_ofPerson_X9_counts : GoodIn wsX9_ofPerson wsX9_counts := goodIn_r _ [90, 21, 22, 23, 5, 24, 7, 102, 103, 104, 105, 106, 107, 108, 109, 110, 111, 112, 113, 114, 115, 116, 117, 118, 119, 120, 121, 122, 123, 124, 125, 126, 127, 128, 129] (by decide +kernel) (by decide +kernel)
set_option maxRecDepth 20000 in
theorem gX9_ofPerson_X9_counts : GoodIn wsX9_ofPerson (wsV RX9 100 RX9 yX9_counts wsX9_counts) := goodIn_app (goodIn_of _ (by decide +kernel)) ggX9_ofPerson_X9_counts
set_option maxRecDepth 20000 in
theorem ggX9_ofPerson_X9_takes : GoodIn wsX9_ofPerson wsX9_takes := goodIn_r _ [94, 7, 21, 22, 23, 5, 24, 25, 26, 27, 28, 29, 30, 31, 32, 33, 34, 35, 36, 37, 38, 39, 40, 41, 42, 43, 44, 45, 46, 47, 48, 49, 50, 51, 52, 53, 54, 55, 56, 57, 58, 59, 60, 61, 62, 63, 8, 9, 10, 64, 65, 66, 67, 68, 69, 70, 71, 72, 73, 74, 75, 76, 77, 78, 79, 80, 81, 82, 83, 84, 85, 86, 102, 103, 104, 105, 106, 107, 108, 109, 110, 111, 112, 113, 114, 115, 116, 117, 118, 119, 120, 121, 122, 123, 124, 125, 126, 127, 128, 129] (by decide +kernel) (by decide +kernel)
set_option maxRecDepth 20000 in
theorem gX9_ofPerson_X9_takes : GoodIn wsX9_ofPerson (wsV RX9 103 RX9 yX9_takes wsX9_takes) := goodIn_app (goodIn_of _ (by decide +kernel)) ggX9_ofPerson_X9_takes
set_option maxRecDepth 20000 in
theorem ggX9_ofPerson_X9_seesOf : GoodIn wsX9_ofPerson wsX9_seesOf := goodIn_r _ [98, 7, 21, 22, 23, 5, 24, 17, 18, 19, 20, 25, 26, 27, 28, 29, 30, 31, 32, 33, 34, 35, 36, 37, 38, 39, 40, 41, 42, 43, 44, 45, 46, 47, 48, 49, 50, 51, 52, 53, 54, 55, 56, 57, 58, 59, 60, 61, 62, 63, 8, 9, 10, 64, 65, 66, 67, 68, 69, 70, 71, 72, 73, 74, 75, 76, 77, 78, 79, 80, 81, 82, 83, 84, 85, 86, 99, 100, 101, 102, 103, 104, 105, 106, 107, 108, 109, 110, 111, 112, 113, 114, 115, 116, 117, 118, 119, 120, 121, 122, 123, 124, 125, 126, 127, 128, 129] (by decide +kernel) (by decide +kernel)
set_option maxRecDepth 20000 in
theorem gX9_ofPerson_X9_seesOf : GoodIn wsX9_ofPerson (wsV RX9 73 RX9 yX9_seesOf wsX9_seesOf) := goodIn_app (goodIn_of _ (by decide +kernel)) ggX9_ofPerson_X9_seesOf
set_option maxRecDepth 20000 in
theorem ggX9_ofPerson_X9_its : GoodIn wsX9_ofPerson wsX9_its := goodIn_r _ [24, 7, 102, 103, 104, 105, 106, 107, 108, 109, 110, 111, 112, 113, 114, 115, 116, 117, 118, 119, 120, 121, 122, 123, 124, 125, 126, 127, 128, 129] (by decide +kernel) (by decide +kernel)
set_option maxRecDepth 20000 in
theorem gX9_ofPerson_X9_its : GoodIn wsX9_ofPerson (wsV RX9 80 RX9 yX9_its wsX9_its) := goodIn_app (goodIn_of _ (by decide +kernel)) ggX9_ofPerson_X9_its
theorem dX9_ofPerson_0 : decode cX9_ofPerson 0 = .ok (.aload_n 0, 1) := by decide +kernel
theorem dX9_ofPerson_1 : decode cX9_ofPerson 1 = .ok (.iload_n 1, 1) := by decide +kernel
theorem dX9_ofPerson_2 : decode cX9_ofPerson 2 = .ok (.invokevirtual 94, 3) := by decide +kernel
theorem dX9_ofPerson_5 : decode cX9_ofPerson 5 = .ok (.ifCond .eq 13, 3) := by decide +kernel
theorem dX9_ofPerson_8 : decode cX9_ofPerson 8 = .ok (.iload_n 2, 1) := by decide +kernel
theorem dX9_ofPerson_9 : decode cX9_ofPerson 9 = .ok (.iconst 0, 1) := by decide +kernel
theorem dX9_ofPerson_10 : decode cX9_ofPerson 10 = .ok (.bipush 7, 2) := by decide +kernel
theorem dX9_ofPerson_12 : decode cX9_ofPerson 12 = .ok (.invokestatic 54, 3) := by decide +kernel
theorem dX9_ofPerson_15 : decode cX9_ofPerson 15 = .ok (.ifCond .ne 10, 3) := by decide +kernel
theorem dX9_ofPerson_18 : decode cX9_ofPerson 18 = .ok (.aload_n 0, 1) := by decide +kernel
theorem dX9_ofPerson_19 : decode cX9_ofPerson 19 = .ok (.ldc 58, 2) := by decide +kernel
theorem dX9_ofPerson_21 : decode cX9_ofPerson 21 = .ok (.invokevirtual 59, 3) := by decide +kernel
theorem dX9_ofPerson_24 : decode cX9_ofPerson 24 = .ok (.ireturn, 1) := by decide +kernel
theorem dX9_ofPerson_25 : decode cX9_ofPerson 25 = .ok (.iload_n 2, 1) := by decide +kernel
theorem dX9_ofPerson_26 : decode cX9_ofPerson 26 = .ok (.tableswitch 54 4 7 #[30, 36, 42, 48], 30) := by decide +kernel
theorem dX9_ofPerson_56 : decode cX9_ofPerson 56 = .ok (.aload_n 0, 1) := by decide +kernel
theorem dX9_ofPerson_57 : decode cX9_ofPerson 57 = .ok (.iload_n 1, 1) := by decide +kernel
theorem dX9_ofPerson_58 : decode cX9_ofPerson 58 = .ok (.invokevirtual 97, 3) := by decide +kernel
theorem dX9_ofPerson_61 : decode cX9_ofPerson 61 = .ok (.ireturn, 1) := by decide +kernel
theorem dX9_ofPerson_62 : decode cX9_ofPerson 62 = .ok (.aload_n 0, 1) := by decide +kernel
theorem dX9_ofPerson_63 : decode cX9_ofPerson 63 = .ok (.iload_n 1, 1) := by decide +kernel
theorem dX9_ofPerson_64 : decode cX9_ofPerson 64 = .ok (.invokevirtual 100, 3) := by decide +kernel
theorem dX9_ofPerson_67 : decode cX9_ofPerson 67 = .ok (.ireturn, 1) := by decide +kernel
theorem dX9_ofPerson_68 : decode cX9_ofPerson 68 = .ok (.aload_n 0, 1) := by decide +kernel
theorem dX9_ofPerson_69 : decode cX9_ofPerson 69 = .ok (.iload_n 1, 1) := by decide +kernel
theorem dX9_ofPerson_70 : decode cX9_ofPerson 70 = .ok (.invokevirtual 103, 3) := by decide +kernel
theorem dX9_ofPerson_73 : decode cX9_ofPerson 73 = .ok (.ireturn, 1) := by decide +kernel
theorem dX9_ofPerson_74 : decode cX9_ofPerson 74 = .ok (.aload_n 0, 1) := by decide +kernel
theorem dX9_ofPerson_75 : decode cX9_ofPerson 75 = .ok (.iload_n 1, 1) := by decide +kernel
theorem dX9_ofPerson_76 : decode cX9_ofPerson 76 = .ok (.invokevirtual 73, 3) := by decide +kernel
theorem dX9_ofPerson_79 : decode cX9_ofPerson 79 = .ok (.ireturn, 1) := by decide +kernel
theorem dX9_ofPerson_80 : decode cX9_ofPerson 80 = .ok (.aload_n 0, 1) := by decide +kernel
theorem dX9_ofPerson_81 : decode cX9_ofPerson 81 = .ok (.iload_n 1, 1) := by decide +kernel
theorem dX9_ofPerson_82 : decode cX9_ofPerson 82 = .ok (.iload_n 2, 1) := by decide +kernel
theorem dX9_ofPerson_83 : decode cX9_ofPerson 83 = .ok (.invokevirtual 80, 3) := by decide +kernel
theorem dX9_ofPerson_86 : decode cX9_ofPerson 86 = .ok (.ireturn, 1) := by decide +kernel
set_option maxRecDepth 20000 in
theorem ggX9_lead_X9_isCell : GoodIn wsX9_lead wsX9_isCell := goodIn_r _ [6, 7, 8, 9, 5, 10, 25, 26, 27, 28, 29, 30, 31, 32, 33, 34, 35, 36, 37, 38, 39, 40, 41, 42, 43, 44, 45, 46, 47, 48, 49, 50, 51, 52] (by decide +kernel) (by decide +kernel)
set_option maxRecDepth 20000 in
theorem gX9_lead_X9_isCell : GoodIn wsX9_lead (wsV RX9 68 RX9 yX9_isCell wsX9_isCell) := goodIn_app (goodIn_of _ (by decide +kernel)) ggX9_lead_X9_isCell
set_option maxRecDepth 20000 in
theorem ggX9_lead_X9_in : GoodIn wsX9_lead wsX9_in := goodIn_r _ [10] (by decide +kernel) (by decide +kernel)
set_option maxRecDepth 20000 in
theorem gX9_lead_X9_in : GoodIn wsX9_lead (va_wsS RX9 54 yX9_in wsX9_in) := goodIn_app (goodIn_of _ (by decide +kernel)) ggX9_lead_X9_in
set_option maxRecDepth 20000 in
theorem ggX9_lead_X9_isPerson : GoodIn wsX9_lead wsX9_isPerson := goodIn_r _ [14, 7, 8, 9, 5, 10, 25, 26, 27, 28, 29, 30, 31, 32, 33, 34, 35, 36, 37, 38, 39, 40, 41, 42, 43, 44, 45, 46, 47, 48, 49, 50, 51, 52] (by decide +kernel) (by decide +kernel)
set_option maxRecDepth 20000 in
theorem gX9_lead_X9_isPerson : GoodIn wsX9_lead (wsV RX9 94 RX9 yX9_isPerson wsX9_isPerson) := goodIn_app (goodIn_of _ (by decide +kernel)) ggX9_lead_X9_isPerson
set_option maxRecDepth 20000 in
theorem ggX9_lead_X9_becomes : GoodIn wsX9_lead wsX9_becomes := goodIn_r _ [18, 7, 25, 26, 27, 28, 29, 30, 31, 32, 33, 34, 35, 36, 37, 38, 39, 40, 41, 42, 43, 44, 45, 46, 47, 48, 49, 50, 51, 52] (by decide +kernel) (by decide +kernel)
set_option maxRecDepth 20000 in
theorem gX9_lead_X9_becomes : GoodIn wsX9_lead (wsV RX9 64 RX9 yX9_becomes wsX9_becomes) := goodIn_app (goodIn_of _ (by decide +kernel)) ggX9_lead_X9_becomes
set_option maxRecDepth 20000 in
theorem ggX9_lead_X9_errs : GoodIn wsX9_lead wsX9_errs := goodIn_r _ [22, 23, 24, 25, 26, 27, 28, 29, 30, 31, 32, 33, 34, 35, 36, 37, 38, 39, 40, 41, 42, 43, 44, 45, 46, 47, 48, 49, 50, 51, 52] (by decide +kernel) (by decide +kernel)
set_option maxRecDepth 20000 in
theorem gX9_lead_X9_errs : GoodIn wsX9_lead (wsV RX9 59 RX9 yX9_errs wsX9_errs) := goodIn_app (goodIn_of _ (by decide +kernel)) ggX9_lead_X9_errs
theorem dX9_lead_0 : decode cX9_lead 0 = .ok (.iload_n 2, 1) := by decide +kernel
theorem dX9_lead_1 : decode cX9_lead 1 = .ok (.ifCond .ne 11, 3) := by decide +kernel
theorem dX9_lead_4 : decode cX9_lead 4 = .ok (.aload_n 0, 1) := by decide +kernel
theorem dX9_lead_5 : decode cX9_lead 5 = .ok (.iload_n 3, 1) := by decide +kernel
theorem dX9_lead_6 : decode cX9_lead 6 = .ok (.invokevirtual 68, 3) := by decide +kernel
theorem dX9_lead_9 : decode cX9_lead 9 = .ok (.goto 22, 3) := by decide +kernel
theorem dX9_lead_12 : decode cX9_lead 12 = .ok (.iload_n 2, 1) := by decide +kernel
theorem dX9_lead_13 : decode cX9_lead 13 = .ok (.iconst 1, 1) := by decide +kernel
theorem dX9_lead_14 : decode cX9_lead 14 = .ok (.if_icmp .ne 16, 3) := by decide +kernel
theorem dX9_lead_17 : decode cX9_lead 17 = .ok (.iload_n 3, 1) := by decide +kernel
theorem dX9_lead_18 : decode cX9_lead 18 = .ok (.iconst (-1), 1) := by decide +kernel
theorem dX9_lead_19 : decode cX9_lead 19 = .ok (.iconst 1, 1) := by decide +kernel
theorem dX9_lead_20 : decode cX9_lead 20 = .ok (.invokestatic 54, 3) := by decide +kernel
theorem dX9_lead_23 : decode cX9_lead 23 = .ok (.ifCond .eq 7, 3) := by decide +kernel
theorem dX9_lead_26 : decode cX9_lead 26 = .ok (.iconst 1, 1) := by decide +kernel
theorem dX9_lead_27 : decode cX9_lead 27 = .ok (.goto 4, 3) := by decide +kernel
theorem dX9_lead_30 : decode cX9_lead 30 = .ok (.iconst 0, 1) := by decide +kernel
theorem dX9_lead_31 : decode cX9_lead 31 = .ok (.istore 4, 2) := by decide +kernel
theorem dX9_lead_33 : decode cX9_lead 33 = .ok (.aload_n 0, 1) := by decide +kernel
theorem dX9_lead_34 : decode cX9_lead 34 = .ok (.iload_n 1, 1) := by decide +kernel
theorem dX9_lead_35 : decode cX9_lead 35 = .ok (.invokevirtual 94, 3) := by decide +kernel
theorem dX9_lead_38 : decode cX9_lead 38 = .ok (.ifCond .eq 26, 3) := by decide +kernel
theorem dX9_lead_41 : decode cX9_lead 41 = .ok (.iload 4, 2) := by decide +kernel
theorem dX9_lead_43 : decode cX9_lead 43 = .ok (.ifCond .eq 21, 3) := by decide +kernel
theorem dX9_lead_46 : decode cX9_lead 46 = .ok (.aload_n 0, 1) := by decide +kernel
theorem dX9_lead_47 : decode cX9_lead 47 = .ok (.bipush 32, 2) := by decide +kernel
theorem dX9_lead_49 : decode cX9_lead 49 = .ok (.iconst 4, 1) := by decide +kernel
theorem dX9_lead_50 : decode cX9_lead 50 = .ok (.iload_n 1, 1) := by decide +kernel
theorem dX9_lead_51 : decode cX9_lead 51 = .ok (.imul, 1) := by decide +kernel
theorem dX9_lead_52 : decode cX9_lead 52 = .ok (.iadd, 1) := by decide +kernel
theorem dX9_lead_53 : decode cX9_lead 53 = .ok (.iconst 2, 1) := by decide +kernel
theorem dX9_lead_54 : decode cX9_lead 54 = .ok (.iadd, 1) := by decide +kernel
theorem dX9_lead_55 : decode cX9_lead 55 = .ok (.iload_n 2, 1) := by decide +kernel
theorem dX9_lead_56 : decode cX9_lead 56 = .ok (.iadd, 1) := by decide +kernel
theorem dX9_lead_57 : decode cX9_lead 57 = .ok (.iload_n 3, 1) := by decide +kernel
theorem dX9_lead_58 : decode cX9_lead 58 = .ok (.invokevirtual 64, 3) := by decide +kernel
theorem dX9_lead_61 : decode cX9_lead 61 = .ok (.goto 9, 3) := by decide +kernel
theorem dX9_lead_64 : decode cX9_lead 64 = .ok (.aload_n 0, 1) := by decide +kernel
theorem dX9_lead_65 : decode cX9_lead 65 = .ok (.ldc 58, 2) := by decide +kernel
theorem dX9_lead_67 : decode cX9_lead 67 = .ok (.invokevirtual 59, 3) := by decide +kernel
theorem dX9_lead_70 : decode cX9_lead 70 = .ok (.ireturn, 1) := by decide +kernel
set_option maxRecDepth 20000 in
theorem ggX9_become_X9_isPerson : GoodIn wsX9_become wsX9_isPerson := goodIn_r _ [6, 7, 8, 9, 5, 10, 25, 26, 27, 28, 29, 30, 31, 32, 33, 34, 35, 36, 37, 38, 39, 40, 41, 42, 43, 44, 45, 46, 47, 48, 49, 50, 51, 52] (by decide +kernel) (by decide +kernel)
set_option maxRecDepth 20000 in
theorem gX9_become_X9_isPerson : GoodIn wsX9_become (wsV RX9 94 RX9 yX9_isPerson wsX9_isPerson) := goodIn_app (goodIn_of _ (by decide +kernel)) ggX9_become_X9_isPerson
set_option maxRecDepth 20000 in
theorem ggX9_become_X9_in : GoodIn wsX9_become wsX9_in := goodIn_r _ [10] (by decide +kernel) (by decide +kernel)
set_option maxRecDepth 20000 in
theorem gX9_become_X9_in : GoodIn wsX9_become (va_wsS RX9 54 yX9_in wsX9_in) := goodIn_app (goodIn_of _ (by decide +kernel)) ggX9_become_X9_in
set_option maxRecDepth 20000 in
theorem ggX9_become_X9_errs : GoodIn wsX9_become wsX9_errs := goodIn_r _ [14, 15, 16, 25, 26, 27, 28, 29, 30, 31, 32, 33, 34, 35, 36, 37, 38, 39, 40, 41, 42, 43, 44, 45, 46, 47, 48, 49, 50, 51, 52] (by decide +kernel) (by decide +kernel)
set_option maxRecDepth 20000 in
theorem gX9_become_X9_errs : GoodIn wsX9_become (wsV RX9 59 RX9 yX9_errs wsX9_errs) := goodIn_app (goodIn_of _ (by decide +kernel)) ggX9_become_X9_errs
set_option maxRecDepth 20000 in
theorem ggX9_become_X9_gets : GoodIn wsX9_become wsX9_gets := goodIn_r _ [20, 7, 25, 26, 27, 28, 29, 30, 31, 32, 33, 34, 35, 36, 37, 38, 39, 40, 41, 42, 43, 44, 45, 46, 47, 48, 49, 50, 51, 52] (by decide +kernel) (by decide +kernel)
set_option maxRecDepth 20000 in
theorem gX9_become_X9_gets : GoodIn wsX9_become (wsV RX9 90 RX9 yX9_gets wsX9_gets) := goodIn_app (goodIn_of _ (by decide +kernel)) ggX9_become_X9_gets
set_option maxRecDepth 20000 in
theorem ggX9_become_X9_becomes : GoodIn wsX9_become wsX9_becomes := goodIn_r _ [24, 7, 25, 26, 27, 28, 29, 30, 31, 32, 33, 34, 35, 36, 37, 38, 39, 40, 41, 42, 43, 44, 45, 46, 47, 48, 49, 50, 51, 52] (by decide +kernel) (by decide +kernel)
set_option maxRecDepth 20000 in
theorem gX9_become_X9_becomes : GoodIn wsX9_become (wsV RX9 64 RX9 yX9_becomes wsX9_becomes) := goodIn_app (goodIn_of _ (by decide +kernel)) ggX9_become_X9_becomes
theorem dX9_become_0 : decode cX9_become 0 = .ok (.aload_n 0, 1) := by decide +kernel
theorem dX9_become_1 : decode cX9_become 1 = .ok (.iload_n 1, 1) := by decide +kernel
theorem dX9_become_2 : decode cX9_become 2 = .ok (.invokevirtual 94, 3) := by decide +kernel
theorem dX9_become_5 : decode cX9_become 5 = .ok (.ifCond .eq 13, 3) := by decide +kernel
theorem dX9_become_8 : decode cX9_become 8 = .ok (.iload_n 2, 1) := by decide +kernel
theorem dX9_become_9 : decode cX9_become 9 = .ok (.iconst 0, 1) := by decide +kernel
theorem dX9_become_10 : decode cX9_become 10 = .ok (.bipush 69, 2) := by decide +kernel
theorem dX9_become_12 : decode cX9_become 12 = .ok (.invokestatic 54, 3) := by decide +kernel
theorem dX9_become_15 : decode cX9_become 15 = .ok (.ifCond .ne 10, 3) := by decide +kernel
theorem dX9_become_18 : decode cX9_become 18 = .ok (.aload_n 0, 1) := by decide +kernel
theorem dX9_become_19 : decode cX9_become 19 = .ok (.ldc 58, 2) := by decide +kernel
theorem dX9_become_21 : decode cX9_become 21 = .ok (.invokevirtual 59, 3) := by decide +kernel
theorem dX9_become_24 : decode cX9_become 24 = .ok (.ireturn, 1) := by decide +kernel
theorem dX9_become_25 : decode cX9_become 25 = .ok (.aload_n 0, 1) := by decide +kernel
theorem dX9_become_26 : decode cX9_become 26 = .ok (.iload_n 1, 1) := by decide +kernel
theorem dX9_become_27 : decode cX9_become 27 = .ok (.iconst 1, 1) := by decide +kernel
theorem dX9_become_28 : decode cX9_become 28 = .ok (.iload_n 2, 1) := by decide +kernel
theorem dX9_become_29 : decode cX9_become 29 = .ok (.bipush 10, 2) := by decide +kernel
theorem dX9_become_31 : decode cX9_become 31 = .ok (.irem, 1) := by decide +kernel
theorem dX9_become_32 : decode cX9_become 32 = .ok (.invokevirtual 90, 3) := by decide +kernel
theorem dX9_become_35 : decode cX9_become 35 = .ok (.aload_n 0, 1) := by decide +kernel
theorem dX9_become_36 : decode cX9_become 36 = .ok (.bipush 32, 2) := by decide +kernel
theorem dX9_become_38 : decode cX9_become 38 = .ok (.iconst 4, 1) := by decide +kernel
theorem dX9_become_39 : decode cX9_become 39 = .ok (.iload_n 1, 1) := by decide +kernel
theorem dX9_become_40 : decode cX9_become 40 = .ok (.imul, 1) := by decide +kernel
theorem dX9_become_41 : decode cX9_become 41 = .ok (.iadd, 1) := by decide +kernel
theorem dX9_become_42 : decode cX9_become 42 = .ok (.iload_n 2, 1) := by decide +kernel
theorem dX9_become_43 : decode cX9_become 43 = .ok (.bipush 10, 2) := by decide +kernel
theorem dX9_become_45 : decode cX9_become 45 = .ok (.idiv, 1) := by decide +kernel
theorem dX9_become_46 : decode cX9_become 46 = .ok (.invokevirtual 64, 3) := by decide +kernel
theorem dX9_become_49 : decode cX9_become 49 = .ok (.ireturn, 1) := by decide +kernel
theorem dX9_above_0 : decode cX9_above 0 = .ok (.iload_n 0, 1) := by decide +kernel
theorem dX9_above_1 : decode cX9_above 1 = .ok (.ifCond .ne 7, 3) := by decide +kernel
theorem dX9_above_4 : decode cX9_above 4 = .ok (.iconst (-1), 1) := by decide +kernel
theorem dX9_above_5 : decode cX9_above 5 = .ok (.goto 15, 3) := by decide +kernel
theorem dX9_above_8 : decode cX9_above 8 = .ok (.iload_n 0, 1) := by decide +kernel
theorem dX9_above_9 : decode cX9_above 9 = .ok (.iconst 3, 1) := by decide +kernel
theorem dX9_above_10 : decode cX9_above 10 = .ok (.if_icmp .le 9, 3) := by decide +kernel
theorem dX9_above_13 : decode cX9_above 13 = .ok (.iload_n 0, 1) := by decide +kernel
theorem dX9_above_14 : decode cX9_above 14 = .ok (.iconst 3, 1) := by decide +kernel
theorem dX9_above_15 : decode cX9_above 15 = .ok (.isub, 1) := by decide +kernel
theorem dX9_above_16 : decode cX9_above 16 = .ok (.goto 4, 3) := by decide +kernel
theorem dX9_above_19 : decode cX9_above 19 = .ok (.iconst 0, 1) := by decide +kernel
theorem dX9_above_20 : decode cX9_above 20 = .ok (.ireturn, 1) := by decide +kernel
set_option maxRecDepth 20000 in
theorem ggX9_as_X9_isPerson : GoodIn wsX9_as wsX9_isPerson := goodIn_r _ [7, 8, 9, 10, 6, 11, 25, 26, 27, 28, 29, 30, 31, 32, 33, 34, 35, 36, 37, 38, 39, 40, 41, 42, 43, 44, 45, 46, 47, 48, 49, 50, 51, 52] (by decide +kernel) (by decide +kernel)
set_option maxRecDepth 20000 in
theorem gX9_as_X9_isPerson : GoodIn wsX9_as (wsV RX9 94 RX9 yX9_isPerson wsX9_isPerson) := goodIn_app (goodIn_of _ (by decide +kernel)) ggX9_as_X9_isPerson
set_option maxRecDepth 20000 in
theorem ggX9_as_X9_in : GoodIn wsX9_as wsX9_in := goodIn_r _ [11] (by decide +kernel) (by decide +kernel)
set_option maxRecDepth 20000 in
theorem gX9_as_X9_in : GoodIn wsX9_as (va_wsS RX9 54 yX9_in wsX9_in) := goodIn_app (goodIn_of _ (by decide +kernel)) ggX9_as_X9_in
set_option maxRecDepth 20000 in
theorem ggX9_as_X9_errs : GoodIn wsX9_as wsX9_errs := goodIn_r _ [15, 16, 17, 25, 26, 27, 28, 29, 30, 31, 32, 33, 34, 35, 36, 37, 38, 39, 40, 41, 42, 43, 44, 45, 46, 47, 48, 49, 50, 51, 52] (by decide +kernel) (by decide +kernel)
set_option maxRecDepth 20000 in
theorem gX9_as_X9_errs : GoodIn wsX9_as (wsV RX9 59 RX9 yX9_errs wsX9_errs) := goodIn_app (goodIn_of _ (by decide +kernel)) ggX9_as_X9_errs
set_option maxRecDepth 20000 in
theorem ggX9_as_X9_its : GoodIn wsX9_as wsX9_its := goodIn_r _ [21, 8, 25, 26, 27, 28, 29, 30, 31, 32, 33, 34, 35, 36, 37, 38, 39, 40, 41, 42, 43, 44, 45, 46, 47, 48, 49, 50, 51, 52] (by decide +kernel) (by decide +kernel)
set_option maxRecDepth 20000 in
theorem gX9_as_X9_its : GoodIn wsX9_as (wsV RX9 80 RX9 yX9_its wsX9_its) := goodIn_app (goodIn_of _ (by decide +kernel)) ggX9_as_X9_its
set_option maxRecDepth 20000 in
theorem ggX9_as_X9_above : GoodIn wsX9_as wsX9_above := goodIn_r _ [24] (by decide +kernel) (by decide +kernel)
set_option maxRecDepth 20000 in
theorem gX9_as_X9_above : GoodIn wsX9_as (va_wsS RX9 106 yX9_above wsX9_above) := goodIn_app (goodIn_of _ (by decide +kernel)) ggX9_as_X9_above
theorem dX9_as_0 : decode cX9_as 0 = .ok (.aload_n 0, 1) := by decide +kernel
theorem dX9_as_1 : decode cX9_as 1 = .ok (.iload_n 1, 1) := by decide +kernel
theorem dX9_as_2 : decode cX9_as 2 = .ok (.invokevirtual 94, 3) := by decide +kernel
theorem dX9_as_5 : decode cX9_as 5 = .ok (.ifCond .eq 13, 3) := by decide +kernel
theorem dX9_as_8 : decode cX9_as 8 = .ok (.iload_n 2, 1) := by decide +kernel
theorem dX9_as_9 : decode cX9_as 9 = .ok (.iconst 0, 1) := by decide +kernel
theorem dX9_as_10 : decode cX9_as 10 = .ok (.bipush 6, 2) := by decide +kernel
theorem dX9_as_12 : decode cX9_as 12 = .ok (.invokestatic 54, 3) := by decide +kernel
theorem dX9_as_15 : decode cX9_as 15 = .ok (.ifCond .ne 10, 3) := by decide +kernel
theorem dX9_as_18 : decode cX9_as 18 = .ok (.aload_n 0, 1) := by decide +kernel
theorem dX9_as_19 : decode cX9_as 19 = .ok (.ldc 58, 2) := by decide +kernel
theorem dX9_as_21 : decode cX9_as 21 = .ok (.invokevirtual 59, 3) := by decide +kernel
theorem dX9_as_24 : decode cX9_as 24 = .ok (.ireturn, 1) := by decide +kernel
theorem dX9_as_25 : decode cX9_as 25 = .ok (.aload_n 0, 1) := by decide +kernel
theorem dX9_as_26 : decode cX9_as 26 = .ok (.iload_n 1, 1) := by decide +kernel
theorem dX9_as_27 : decode cX9_as 27 = .ok (.iconst 0, 1) := by decide +kernel
theorem dX9_as_28 : decode cX9_as 28 = .ok (.invokevirtual 80, 3) := by decide +kernel
theorem dX9_as_31 : decode cX9_as 31 = .ok (.istore_n 3, 1) := by decide +kernel
theorem dX9_as_32 : decode cX9_as 32 = .ok (.iload_n 3, 1) := by decide +kernel
theorem dX9_as_33 : decode cX9_as 33 = .ok (.ifCond .lt 16, 3) := by decide +kernel
theorem dX9_as_36 : decode cX9_as 36 = .ok (.iload_n 3, 1) := by decide +kernel
theorem dX9_as_37 : decode cX9_as 37 = .ok (.iload_n 2, 1) := by decide +kernel
theorem dX9_as_38 : decode cX9_as 38 = .ok (.if_icmp .eq 11, 3) := by decide +kernel
theorem dX9_as_41 : decode cX9_as 41 = .ok (.iload_n 3, 1) := by decide +kernel
theorem dX9_as_42 : decode cX9_as 42 = .ok (.invokestatic 106, 3) := by decide +kernel
theorem dX9_as_45 : decode cX9_as 45 = .ok (.istore_n 3, 1) := by decide +kernel
theorem dX9_as_46 : decode cX9_as 46 = .ok (.goto (-14), 3) := by decide +kernel
theorem dX9_as_49 : decode cX9_as 49 = .ok (.iload_n 3, 1) := by decide +kernel
theorem dX9_as_50 : decode cX9_as 50 = .ok (.ifCond .ge 12, 3) := by decide +kernel
theorem dX9_as_53 : decode cX9_as 53 = .ok (.aload_n 0, 1) := by decide +kernel
theorem dX9_as_54 : decode cX9_as 54 = .ok (.ldc 109, 2) := by decide +kernel
theorem dX9_as_56 : decode cX9_as 56 = .ok (.invokevirtual 59, 3) := by decide +kernel
theorem dX9_as_59 : decode cX9_as 59 = .ok (.goto 9, 3) := by decide +kernel
theorem dX9_as_62 : decode cX9_as 62 = .ok (.aload_n 0, 1) := by decide +kernel
theorem dX9_as_63 : decode cX9_as 63 = .ok (.iload_n 1, 1) := by decide +kernel
theorem dX9_as_64 : decode cX9_as 64 = .ok (.iconst 1, 1) := by decide +kernel
theorem dX9_as_65 : decode cX9_as 65 = .ok (.invokevirtual 80, 3) := by decide +kernel
theorem dX9_as_68 : decode cX9_as 68 = .ok (.ireturn, 1) := by decide +kernel
theorem dX9_byteAt_0 : decode cX9_byteAt 0 = .ok (.iload_n 1, 1) := by decide +kernel
theorem dX9_byteAt_1 : decode cX9_byteAt 1 = .ok (.aload_n 0, 1) := by decide +kernel
theorem dX9_byteAt_2 : decode cX9_byteAt 2 = .ok (.getfield 110, 3) := by decide +kernel
theorem dX9_byteAt_5 : decode cX9_byteAt 5 = .ok (.if_icmp .ge 24, 3) := by decide +kernel
theorem dX9_byteAt_8 : decode cX9_byteAt 8 = .ok (.aload_n 0, 1) := by decide +kernel
theorem dX9_byteAt_9 : decode cX9_byteAt 9 = .ok (.getfield 7, 3) := by decide +kernel
theorem dX9_byteAt_12 : decode cX9_byteAt 12 = .ok (.sipush 134, 3) := by decide +kernel
theorem dX9_byteAt_15 : decode cX9_byteAt 15 = .ok (.bipush 50, 2) := by decide +kernel
theorem dX9_byteAt_17 : decode cX9_byteAt 17 = .ok (.aload_n 0, 1) := by decide +kernel
theorem dX9_byteAt_18 : decode cX9_byteAt 18 = .ok (.getfield 113, 3) := by decide +kernel
theorem dX9_byteAt_21 : decode cX9_byteAt 21 = .ok (.imul, 1) := by decide +kernel
theorem dX9_byteAt_22 : decode cX9_byteAt 22 = .ok (.iadd, 1) := by decide +kernel
theorem dX9_byteAt_23 : decode cX9_byteAt 23 = .ok (.iload_n 1, 1) := by decide +kernel
theorem dX9_byteAt_24 : decode cX9_byteAt 24 = .ok (.iadd, 1) := by decide +kernel
theorem dX9_byteAt_25 : decode cX9_byteAt 25 = .ok (.iaload, 1) := by decide +kernel
theorem dX9_byteAt_26 : decode cX9_byteAt 26 = .ok (.goto 4, 3) := by decide +kernel
theorem dX9_byteAt_29 : decode cX9_byteAt 29 = .ok (.iconst (-1), 1) := by decide +kernel
theorem dX9_byteAt_30 : decode cX9_byteAt 30 = .ok (.ireturn, 1) := by decide +kernel
set_option maxRecDepth 20000 in
theorem ggX9_isDigit_X9_in : GoodIn wsX9_isDigit wsX9_in := goodIn_r _ [4] (by decide +kernel) (by decide +kernel)
set_option maxRecDepth 20000 in
theorem gX9_isDigit_X9_in : GoodIn wsX9_isDigit (va_wsS RX9 54 yX9_in wsX9_in) := goodIn_app (goodIn_of _ (by decide +kernel)) ggX9_isDigit_X9_in
theorem dX9_isDigit_0 : decode cX9_isDigit 0 = .ok (.iload_n 0, 1) := by decide +kernel
theorem dX9_isDigit_1 : decode cX9_isDigit 1 = .ok (.bipush 48, 2) := by decide +kernel
theorem dX9_isDigit_3 : decode cX9_isDigit 3 = .ok (.bipush 57, 2) := by decide +kernel
theorem dX9_isDigit_5 : decode cX9_isDigit 5 = .ok (.invokestatic 54, 3) := by decide +kernel
theorem dX9_isDigit_8 : decode cX9_isDigit 8 = .ok (.ireturn, 1) := by decide +kernel
theorem dX9_fails_0 : decode cX9_fails 0 = .ok (.aload_n 0, 1) := by decide +kernel
theorem dX9_fails_1 : decode cX9_fails 1 = .ok (.iconst 0, 1) := by decide +kernel
theorem dX9_fails_2 : decode cX9_fails 2 = .ok (.putfield 116, 3) := by decide +kernel
theorem dX9_fails_5 : decode cX9_fails 5 = .ok (.iconst 0, 1) := by decide +kernel
theorem dX9_fails_6 : decode cX9_fails 6 = .ok (.ireturn, 1) := by decide +kernel
set_option maxRecDepth 20000 in
theorem ggX9_number_X9_byteAt : GoodIn wsX9_number wsX9_byteAt := goodIn_r _ [6, 7, 8, 9, 16, 17, 18, 19, 20, 21, 22, 23, 24, 25, 26, 27, 28, 29, 30, 31, 32, 33, 34, 35, 36, 37, 38, 39, 40, 41, 42, 43] (by decide +kernel) (by decide +kernel)
set_option maxRecDepth 20000 in
theorem gX9_number_X9_byteAt : GoodIn wsX9_number (wsV RX9 123 RX9 yX9_byteAt wsX9_byteAt) := goodIn_app (goodIn_of _ (by decide +kernel)) ggX9_number_X9_byteAt
set_option maxRecDepth 20000 in
theorem ggX9_number_X9_isDigit : GoodIn wsX9_number wsX9_isDigit := goodIn_r _ [12, 13, 14, 5, 15] (by decide +kernel) (by decide +kernel)
set_option maxRecDepth 20000 in
theorem gX9_number_X9_isDigit : GoodIn wsX9_number (va_wsS RX9 126 yX9_isDigit wsX9_isDigit) := goodIn_app (goodIn_of _ (by decide +kernel)) ggX9_number_X9_isDigit
theorem dX9_number_0 : decode cX9_number 0 = .ok (.iconst 0, 1) := by decide +kernel
theorem dX9_number_1 : decode cX9_number 1 = .ok (.istore_n 1, 1) := by decide +kernel
theorem dX9_number_2 : decode cX9_number 2 = .ok (.iconst 0, 1) := by decide +kernel
theorem dX9_number_3 : decode cX9_number 3 = .ok (.istore_n 2, 1) := by decide +kernel
theorem dX9_number_4 : decode cX9_number 4 = .ok (.iload_n 2, 1) := by decide +kernel
theorem dX9_number_5 : decode cX9_number 5 = .ok (.iconst 4, 1) := by decide +kernel
theorem dX9_number_6 : decode cX9_number 6 = .ok (.if_icmp .ge 50, 3) := by decide +kernel
theorem dX9_number_9 : decode cX9_number 9 = .ok (.aload_n 0, 1) := by decide +kernel
theorem dX9_number_10 : decode cX9_number 10 = .ok (.aload_n 0, 1) := by decide +kernel
theorem dX9_number_11 : decode cX9_number 11 = .ok (.getfield 120, 3) := by decide +kernel
theorem dX9_number_14 : decode cX9_number 14 = .ok (.invokevirtual 123, 3) := by decide +kernel
theorem dX9_number_17 : decode cX9_number 17 = .ok (.invokestatic 126, 3) := by decide +kernel
theorem dX9_number_20 : decode cX9_number 20 = .ok (.ifCond .eq 36, 3) := by decide +kernel
theorem dX9_number_23 : decode cX9_number 23 = .ok (.bipush 10, 2) := by decide +kernel
theorem dX9_number_25 : decode cX9_number 25 = .ok (.iload_n 1, 1) := by decide +kernel
theorem dX9_number_26 : decode cX9_number 26 = .ok (.imul, 1) := by decide +kernel
theorem dX9_number_27 : decode cX9_number 27 = .ok (.aload_n 0, 1) := by decide +kernel
theorem dX9_number_28 : decode cX9_number 28 = .ok (.aload_n 0, 1) := by decide +kernel
theorem dX9_number_29 : decode cX9_number 29 = .ok (.getfield 120, 3) := by decide +kernel
theorem dX9_number_32 : decode cX9_number 32 = .ok (.invokevirtual 123, 3) := by decide +kernel
theorem dX9_number_35 : decode cX9_number 35 = .ok (.iadd, 1) := by decide +kernel
theorem dX9_number_36 : decode cX9_number 36 = .ok (.bipush 48, 2) := by decide +kernel
theorem dX9_number_38 : decode cX9_number 38 = .ok (.isub, 1) := by decide +kernel
theorem dX9_number_39 : decode cX9_number 39 = .ok (.istore_n 1, 1) := by decide +kernel
theorem dX9_number_40 : decode cX9_number 40 = .ok (.aload_n 0, 1) := by decide +kernel
theorem dX9_number_41 : decode cX9_number 41 = .ok (.dup, 1) := by decide +kernel
theorem dX9_number_42 : decode cX9_number 42 = .ok (.getfield 120, 3) := by decide +kernel
theorem dX9_number_45 : decode cX9_number 45 = .ok (.iconst 1, 1) := by decide +kernel
theorem dX9_number_46 : decode cX9_number 46 = .ok (.iadd, 1) := by decide +kernel
theorem dX9_number_47 : decode cX9_number 47 = .ok (.putfield 120, 3) := by decide +kernel
theorem dX9_number_50 : decode cX9_number 50 = .ok (.iinc 2 1, 3) := by decide +kernel
theorem dX9_number_53 : decode cX9_number 53 = .ok (.goto (-49), 3) := by decide +kernel
theorem dX9_number_56 : decode cX9_number 56 = .ok (.iload_n 1, 1) := by decide +kernel
theorem dX9_number_57 : decode cX9_number 57 = .ok (.ireturn, 1) := by decide +kernel
set_option maxRecDepth 20000 in
theorem ggX9_named_X9_fails : GoodIn wsX9_named wsX9_fails := goodIn_r _ [10, 11, 12, 13, 14, 15, 16, 17, 18, 19, 20, 21, 22, 23, 24, 25, 26, 27, 28, 29, 30, 31, 32, 33, 34, 35, 36, 37, 38, 39] (by decide +kernel) (by decide +kernel)
set_option maxRecDepth 20000 in
theorem gX9_named_X9_fails : GoodIn wsX9_named (wsV RX9 129 RX9 yX9_fails wsX9_fails) := goodIn_app (goodIn_of _ (by decide +kernel)) ggX9_named_X9_fails
theorem dX9_named_0 : decode cX9_named 0 = .ok (.iload_n 1, 1) := by decide +kernel
theorem dX9_named_1 : decode cX9_named 1 = .ok (.bipush 109, 2) := by decide +kernel
theorem dX9_named_3 : decode cX9_named 3 = .ok (.if_icmp .ne 7, 3) := by decide +kernel
theorem dX9_named_6 : decode cX9_named 6 = .ok (.iconst 1, 1) := by decide +kernel
theorem dX9_named_7 : decode cX9_named 7 = .ok (.goto 4, 3) := by decide +kernel
theorem dX9_named_10 : decode cX9_named 10 = .ok (.iconst 0, 1) := by decide +kernel
theorem dX9_named_11 : decode cX9_named 11 = .ok (.istore_n 2, 1) := by decide +kernel
theorem dX9_named_12 : decode cX9_named 12 = .ok (.iload_n 1, 1) := by decide +kernel
theorem dX9_named_13 : decode cX9_named 13 = .ok (.aload_n 0, 1) := by decide +kernel
theorem dX9_named_14 : decode cX9_named 14 = .ok (.getfield 113, 3) := by decide +kernel
theorem dX9_named_17 : decode cX9_named 17 = .ok (.ifCond .ne 8, 3) := by decide +kernel
theorem dX9_named_20 : decode cX9_named 20 = .ok (.bipush 102, 2) := by decide +kernel
theorem dX9_named_22 : decode cX9_named 22 = .ok (.goto 5, 3) := by decide +kernel
theorem dX9_named_25 : decode cX9_named 25 = .ok (.bipush 103, 2) := by decide +kernel
theorem dX9_named_27 : decode cX9_named 27 = .ok (.if_icmp .ne 7, 3) := by decide +kernel
theorem dX9_named_30 : decode cX9_named 30 = .ok (.iconst 1, 1) := by decide +kernel
theorem dX9_named_31 : decode cX9_named 31 = .ok (.goto 4, 3) := by decide +kernel
theorem dX9_named_34 : decode cX9_named 34 = .ok (.iconst 0, 1) := by decide +kernel
theorem dX9_named_35 : decode cX9_named 35 = .ok (.istore_n 3, 1) := by decide +kernel
theorem dX9_named_36 : decode cX9_named 36 = .ok (.iload_n 1, 1) := by decide +kernel
theorem dX9_named_37 : decode cX9_named 37 = .ok (.bipush 104, 2) := by decide +kernel
theorem dX9_named_39 : decode cX9_named 39 = .ok (.if_icmp .ne 7, 3) := by decide +kernel
theorem dX9_named_42 : decode cX9_named 42 = .ok (.iconst 1, 1) := by decide +kernel
theorem dX9_named_43 : decode cX9_named 43 = .ok (.goto 4, 3) := by decide +kernel
theorem dX9_named_46 : decode cX9_named 46 = .ok (.iconst 0, 1) := by decide +kernel
theorem dX9_named_47 : decode cX9_named 47 = .ok (.istore 4, 2) := by decide +kernel
theorem dX9_named_49 : decode cX9_named 49 = .ok (.iload_n 2, 1) := by decide +kernel
theorem dX9_named_50 : decode cX9_named 50 = .ok (.ifCond .ne 17, 3) := by decide +kernel
theorem dX9_named_53 : decode cX9_named 53 = .ok (.iload_n 3, 1) := by decide +kernel
theorem dX9_named_54 : decode cX9_named 54 = .ok (.ifCond .ne 13, 3) := by decide +kernel
theorem dX9_named_57 : decode cX9_named 57 = .ok (.iload 4, 2) := by decide +kernel
theorem dX9_named_59 : decode cX9_named 59 = .ok (.ifCond .ne 8, 3) := by decide +kernel
theorem dX9_named_62 : decode cX9_named 62 = .ok (.aload_n 0, 1) := by decide +kernel
theorem dX9_named_63 : decode cX9_named 63 = .ok (.invokevirtual 129, 3) := by decide +kernel
theorem dX9_named_66 : decode cX9_named 66 = .ok (.ireturn, 1) := by decide +kernel
theorem dX9_named_67 : decode cX9_named 67 = .ok (.aload_n 0, 1) := by decide +kernel
theorem dX9_named_68 : decode cX9_named 68 = .ok (.dup, 1) := by decide +kernel
theorem dX9_named_69 : decode cX9_named 69 = .ok (.getfield 120, 3) := by decide +kernel
theorem dX9_named_72 : decode cX9_named 72 = .ok (.iconst 1, 1) := by decide +kernel
theorem dX9_named_73 : decode cX9_named 73 = .ok (.iadd, 1) := by decide +kernel
theorem dX9_named_74 : decode cX9_named 74 = .ok (.putfield 120, 3) := by decide +kernel
theorem dX9_named_77 : decode cX9_named 77 = .ok (.iload_n 2, 1) := by decide +kernel
theorem dX9_named_78 : decode cX9_named 78 = .ok (.ifCond .eq 10, 3) := by decide +kernel
theorem dX9_named_81 : decode cX9_named 81 = .ok (.aload_n 0, 1) := by decide +kernel
theorem dX9_named_82 : decode cX9_named 82 = .ok (.getfield 133, 3) := by decide +kernel
theorem dX9_named_85 : decode cX9_named 85 = .ok (.goto 18, 3) := by decide +kernel
theorem dX9_named_88 : decode cX9_named 88 = .ok (.iload_n 3, 1) := by decide +kernel
theorem dX9_named_89 : decode cX9_named 89 = .ok (.ifCond .eq 10, 3) := by decide +kernel
theorem dX9_named_92 : decode cX9_named 92 = .ok (.aload_n 0, 1) := by decide +kernel
theorem dX9_named_93 : decode cX9_named 93 = .ok (.getfield 136, 3) := by decide +kernel
theorem dX9_named_96 : decode cX9_named 96 = .ok (.goto 7, 3) := by decide +kernel
theorem dX9_named_99 : decode cX9_named 99 = .ok (.aload_n 0, 1) := by decide +kernel
theorem dX9_named_100 : decode cX9_named 100 = .ok (.getfield 139, 3) := by decide +kernel
theorem dX9_named_103 : decode cX9_named 103 = .ok (.ireturn, 1) := by decide +kernel
set_option maxRecDepth 20000 in
theorem ggX9_factor_X9_byteAt : GoodIn wsX9_factor wsX9_byteAt := goodIn_r _ [8, 9, 10, 11, 56, 57, 58, 59, 60, 61, 62, 63, 64, 65, 66, 67, 68, 69, 70, 71, 72, 73, 74, 75, 76, 77, 78, 79, 80, 81, 82, 83] (by decide +kernel) (by decide +kernel)
set_option maxRecDepth 20000 in
theorem gX9_factor_X9_byteAt : GoodIn wsX9_factor (wsV RX9 123 RX9 yX9_byteAt wsX9_byteAt) := goodIn_app (goodIn_of _ (by decide +kernel)) ggX9_factor_X9_byteAt
set_option maxRecDepth 20000 in
theorem ggX9_factor_X9_isDigit : GoodIn wsX9_factor wsX9_isDigit := goodIn_r _ [14, 15, 16, 7, 17] (by decide +kernel) (by decide +kernel)
set_option maxRecDepth 20000 in
theorem gX9_factor_X9_isDigit : GoodIn wsX9_factor (va_wsS RX9 126 yX9_isDigit wsX9_isDigit) := goodIn_app (goodIn_of _ (by decide +kernel)) ggX9_factor_X9_isDigit
set_option maxRecDepth 20000 in
theorem ggX9_factor_X9_number : GoodIn wsX9_factor wsX9_number := goodIn_r _ [21, 1, 4, 5, 6, 7, 8, 9, 10, 11, 12, 13, 14, 15, 16, 17, 56, 57, 58, 59, 60, 61, 62, 63, 64, 65, 66, 67, 68, 69, 70, 71, 72, 73, 74, 75, 76, 77, 78, 79, 80, 81, 82, 83] (by decide +kernel) (by decide +kernel)
set_option maxRecDepth 20000 in
theorem gX9_factor_X9_number : GoodIn wsX9_factor (wsV RX9 142 RX9 yX9_number wsX9_number) := goodIn_app (goodIn_of _ (by decide +kernel)) ggX9_factor_X9_number
