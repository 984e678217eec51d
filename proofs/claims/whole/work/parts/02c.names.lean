theorem dX2_isFound_17 : decode cX2_isFound 17 = .ok (.putfield 37, 3) := by decide +kernel
theorem dX2_isFound_20 : decode cX2_isFound 20 = .ok (.aload_n 0, 1) := by decide +kernel
theorem dX2_isFound_21 : decode cX2_isFound 21 = .ok (.getfield 11, 3) := by decide +kernel
theorem dX2_isFound_24 : decode cX2_isFound 24 = .ok (.iconst (-1), 1) := by decide +kernel
theorem dX2_isFound_25 : decode cX2_isFound 25 = .ok (.invokestatic 40, 3) := by decide +kernel
theorem dX2_isFound_28 : decode cX2_isFound 28 = .ok (.aload_n 0, 1) := by decide +kernel
theorem dX2_isFound_29 : decode cX2_isFound 29 = .ok (.iconst 0, 1) := by decide +kernel
theorem dX2_isFound_30 : decode cX2_isFound 30 = .ok (.putfield 46, 3) := by decide +kernel
theorem dX2_isFound_33 : decode cX2_isFound 33 = .ok (.iconst 0, 1) := by decide +kernel
theorem dX2_isFound_34 : decode cX2_isFound 34 = .ok (.istore 5, 2) := by decide +kernel
theorem dX2_isFound_36 : decode cX2_isFound 36 = .ok (.iload 5, 2) := by decide +kernel
theorem dX2_isFound_38 : decode cX2_isFound 38 = .ok (.aload_n 0, 1) := by decide +kernel
theorem dX2_isFound_39 : decode cX2_isFound 39 = .ok (.getfield 25, 3) := by decide +kernel
theorem dX2_isFound_42 : decode cX2_isFound 42 = .ok (.getfield 49, 3) := by decide +kernel
theorem dX2_isFound_45 : decode cX2_isFound 45 = .ok (.if_icmp .ge 32, 3) := by decide +kernel
theorem dX2_isFound_48 : decode cX2_isFound 48 = .ok (.aload_n 0, 1) := by decide +kernel
theorem dX2_isFound_49 : decode cX2_isFound 49 = .ok (.getfield 22, 3) := by decide +kernel
theorem dX2_isFound_52 : decode cX2_isFound 52 = .ok (.iload 5, 2) := by decide +kernel
theorem dX2_isFound_54 : decode cX2_isFound 54 = .ok (.aload_n 0, 1) := by decide +kernel
theorem dX2_isFound_55 : decode cX2_isFound 55 = .ok (.getfield 25, 3) := by decide +kernel
theorem dX2_isFound_58 : decode cX2_isFound 58 = .ok (.getfield 54, 3) := by decide +kernel
theorem dX2_isFound_61 : decode cX2_isFound 61 = .ok (.iload 5, 2) := by decide +kernel
theorem dX2_isFound_63 : decode cX2_isFound 63 = .ok (.iaload, 1) := by decide +kernel
theorem dX2_isFound_64 : decode cX2_isFound 64 = .ok (.iastore, 1) := by decide +kernel
theorem dX2_isFound_65 : decode cX2_isFound 65 = .ok (.aload_n 0, 1) := by decide +kernel
theorem dX2_isFound_66 : decode cX2_isFound 66 = .ok (.iload 5, 2) := by decide +kernel
theorem dX2_isFound_68 : decode cX2_isFound 68 = .ok (.invokevirtual 57, 3) := by decide +kernel
theorem dX2_isFound_71 : decode cX2_isFound 71 = .ok (.iinc 5 1, 3) := by decide +kernel
theorem dX2_isFound_74 : decode cX2_isFound 74 = .ok (.goto (-38), 3) := by decide +kernel
theorem dX2_isFound_77 : decode cX2_isFound 77 = .ok (.aload_n 0, 1) := by decide +kernel
theorem dX2_isFound_78 : decode cX2_isFound 78 = .ok (.invokevirtual 61, 3) := by decide +kernel
theorem dX2_isFound_81 : decode cX2_isFound 81 = .ok (.iload_n 3, 1) := by decide +kernel
theorem dX2_isFound_82 : decode cX2_isFound 82 = .ok (.if_icmp .lt 5, 3) := by decide +kernel
theorem dX2_isFound_85 : decode cX2_isFound 85 = .ok (.iconst 1, 1) := by decide +kernel
theorem dX2_isFound_86 : decode cX2_isFound 86 = .ok (.ireturn, 1) := by decide +kernel
theorem dX2_isFound_87 : decode cX2_isFound 87 = .ok (.aload_n 0, 1) := by decide +kernel
theorem dX2_isFound_88 : decode cX2_isFound 88 = .ok (.invokevirtual 65, 3) := by decide +kernel
theorem dX2_isFound_91 : decode cX2_isFound 91 = .ok (.iload_n 3, 1) := by decide +kernel
theorem dX2_isFound_92 : decode cX2_isFound 92 = .ok (.if_icmp .lt 23, 3) := by decide +kernel
theorem dX2_isFound_95 : decode cX2_isFound 95 = .ok (.aload_n 0, 1) := by decide +kernel
theorem dX2_isFound_96 : decode cX2_isFound 96 = .ok (.iload_n 3, 1) := by decide +kernel
theorem dX2_isFound_97 : decode cX2_isFound 97 = .ok (.invokevirtual 68, 3) := by decide +kernel
theorem dX2_isFound_100 : decode cX2_isFound 100 = .ok (.ifCond .ne 11, 3) := by decide +kernel
theorem dX2_isFound_103 : decode cX2_isFound 103 = .ok (.aload_n 0, 1) := by decide +kernel
theorem dX2_isFound_104 : decode cX2_isFound 104 = .ok (.iload_n 3, 1) := by decide +kernel
theorem dX2_isFound_105 : decode cX2_isFound 105 = .ok (.invokevirtual 72, 3) := by decide +kernel
theorem dX2_isFound_108 : decode cX2_isFound 108 = .ok (.ifCond .eq 7, 3) := by decide +kernel
theorem dX2_isFound_111 : decode cX2_isFound 111 = .ok (.iconst 1, 1) := by decide +kernel
theorem dX2_isFound_112 : decode cX2_isFound 112 = .ok (.goto 4, 3) := by decide +kernel
theorem dX2_isFound_115 : decode cX2_isFound 115 = .ok (.iconst 0, 1) := by decide +kernel
theorem dX2_isFound_116 : decode cX2_isFound 116 = .ok (.ireturn, 1) := by decide +kernel
theorem dX2_index_0 : decode cX2_index 0 = .ok (.iload_n 0, 1) := by decide +kernel
theorem dX2_index_1 : decode cX2_index 1 = .ok (.bipush 8, 2) := by decide +kernel
theorem dX2_index_3 : decode cX2_index 3 = .ok (.imul, 1) := by decide +kernel
theorem dX2_index_4 : decode cX2_index 4 = .ok (.iload_n 1, 1) := by decide +kernel
theorem dX2_index_5 : decode cX2_index 5 = .ok (.iadd, 1) := by decide +kernel
theorem dX2_index_6 : decode cX2_index 6 = .ok (.bipush 10, 2) := by decide +kernel
theorem dX2_index_8 : decode cX2_index 8 = .ok (.imul, 1) := by decide +kernel
theorem dX2_index_9 : decode cX2_index 9 = .ok (.iload_n 2, 1) := by decide +kernel
theorem dX2_index_10 : decode cX2_index 10 = .ok (.iadd, 1) := by decide +kernel
theorem dX2_index_11 : decode cX2_index 11 = .ok (.ireturn, 1) := by decide +kernel
set_option maxRecDepth 20000 in
theorem ggX2_lookUpWalks_X1_countsOf : GoodIn wsX2_lookUpWalks wsX1_countsOf := goodIn_r _ [15] (by decide +kernel) (by decide +kernel)
set_option maxRecDepth 20000 in
theorem gX2_lookUpWalks_X1_countsOf : GoodIn wsX2_lookUpWalks (va_wsS RX2 81 yX1_countsOf wsX1_countsOf) := goodIn_app (goodIn_of _ (by decide +kernel)) ggX2_lookUpWalks_X1_countsOf
set_option maxRecDepth 20000 in
theorem ggX2_lookUpWalks_X0_sightIn : GoodIn wsX2_lookUpWalks wsX0_sightIn := goodIn_r _ [20, 21, 22, 23, 24, 25, 19, 26, 27, 28, 29, 30, 31, 32, 33, 34, 35, 36, 37, 38, 39, 40, 41, 42, 14, 43, 74, 75, 76, 77, 78, 79, 80, 81, 82, 83, 84, 85, 86, 87, 88, 89, 90, 91, 92, 93, 94] (by decide +kernel) (by decide +kernel)
set_option maxRecDepth 20000 in
theorem gX2_lookUpWalks_X0_sightIn : GoodIn wsX2_lookUpWalks (wsV RX2 92 RX0 yX0_sightIn wsX0_sightIn) := goodIn_app (goodIn_of _ (by decide +kernel)) ggX2_lookUpWalks_X0_sightIn
set_option maxRecDepth 20000 in
theorem ggX2_lookUpWalks_X2_placeAfter : GoodIn wsX2_lookUpWalks wsX2_placeAfter := goodIn_r _ [48, 1, 49, 7, 50, 39, 51, 66, 67, 68, 69, 70, 71, 72, 73, 74, 75, 76, 77, 78, 79, 80, 81, 82, 83, 84, 85, 86, 87, 88, 89, 90, 91, 92] (by decide +kernel) (by decide +kernel)
set_option maxRecDepth 20000 in
theorem gX2_lookUpWalks_X2_placeAfter : GoodIn wsX2_lookUpWalks (wsV RX2 99 RX2 yX2_placeAfter wsX2_placeAfter) := goodIn_app (goodIn_of _ (by decide +kernel)) ggX2_lookUpWalks_X2_placeAfter
set_option maxRecDepth 20000 in
theorem ggX2_lookUpWalks_X0_viewFrom : GoodIn wsX2_lookUpWalks wsX0_viewFrom := goodIn_r _ [55, 56, 21, 57, 39, 58, 59, 60, 61, 19, 62, 74, 75, 76, 77, 78, 79, 80, 81, 82, 83, 84, 85, 86, 87, 88, 89, 90, 91, 92] (by decide +kernel) (by decide +kernel)
set_option maxRecDepth 20000 in
theorem gX2_lookUpWalks_X0_viewFrom : GoodIn wsX2_lookUpWalks (wsV RX2 105 RX0 yX0_viewFrom wsX0_viewFrom) := goodIn_app (goodIn_of _ (by decide +kernel)) ggX2_lookUpWalks_X0_viewFrom
set_option maxRecDepth 20000 in
theorem ggX2_lookUpWalks_X2_index : GoodIn wsX2_lookUpWalks wsX2_index := goodIn_r _ [65] (by decide +kernel) (by decide +kernel)
set_option maxRecDepth 20000 in
theorem gX2_lookUpWalks_X2_index : GoodIn wsX2_lookUpWalks (va_wsS RX2 109 yX2_index wsX2_index) := goodIn_app (goodIn_of _ (by decide +kernel)) ggX2_lookUpWalks_X2_index
set_option maxRecDepth 20000 in
theorem ggX2_lookUpWalks_X8_has : GoodIn wsX2_lookUpWalks wsX8_has := goodIn_r _ [58] (by decide +kernel) (by decide +kernel)
set_option maxRecDepth 20000 in
theorem gX2_lookUpWalks_X8_has_n112 : GoodIn wsX2_lookUpWalks (wsX8_has) := ggX2_lookUpWalks_X8_has
theorem dX2_lookUpWalks_0 : decode cX2_lookUpWalks 0 = .ok (.aload_n 0, 1) := by decide +kernel
theorem dX2_lookUpWalks_1 : decode cX2_lookUpWalks 1 = .ok (.getfield 25, 3) := by decide +kernel
theorem dX2_lookUpWalks_4 : decode cX2_lookUpWalks 4 = .ok (.getfield 75, 3) := by decide +kernel
theorem dX2_lookUpWalks_7 : decode cX2_lookUpWalks 7 = .ok (.iload_n 1, 1) := by decide +kernel
theorem dX2_lookUpWalks_8 : decode cX2_lookUpWalks 8 = .ok (.iaload, 1) := by decide +kernel
theorem dX2_lookUpWalks_9 : decode cX2_lookUpWalks 9 = .ok (.aload_n 0, 1) := by decide +kernel
theorem dX2_lookUpWalks_10 : decode cX2_lookUpWalks 10 = .ok (.getfield 25, 3) := by decide +kernel
theorem dX2_lookUpWalks_13 : decode cX2_lookUpWalks 13 = .ok (.getfield 78, 3) := by decide +kernel
theorem dX2_lookUpWalks_16 : decode cX2_lookUpWalks 16 = .ok (.iload_n 1, 1) := by decide +kernel
theorem dX2_lookUpWalks_17 : decode cX2_lookUpWalks 17 = .ok (.iaload, 1) := by decide +kernel
theorem dX2_lookUpWalks_18 : decode cX2_lookUpWalks 18 = .ok (.invokestatic 81, 3) := by decide +kernel
theorem dX2_lookUpWalks_21 : decode cX2_lookUpWalks 21 = .ok (.istore_n 2, 1) := by decide +kernel
theorem dX2_lookUpWalks_22 : decode cX2_lookUpWalks 22 = .ok (.iconst 0, 1) := by decide +kernel
theorem dX2_lookUpWalks_23 : decode cX2_lookUpWalks 23 = .ok (.istore_n 3, 1) := by decide +kernel
theorem dX2_lookUpWalks_24 : decode cX2_lookUpWalks 24 = .ok (.iload_n 3, 1) := by decide +kernel
theorem dX2_lookUpWalks_25 : decode cX2_lookUpWalks 25 = .ok (.aload_n 0, 1) := by decide +kernel
theorem dX2_lookUpWalks_26 : decode cX2_lookUpWalks 26 = .ok (.getfield 37, 3) := by decide +kernel
theorem dX2_lookUpWalks_29 : decode cX2_lookUpWalks 29 = .ok (.if_icmp .ge 142, 3) := by decide +kernel
theorem dX2_lookUpWalks_32 : decode cX2_lookUpWalks 32 = .ok (.aload_n 0, 1) := by decide +kernel
theorem dX2_lookUpWalks_33 : decode cX2_lookUpWalks 33 = .ok (.getfield 25, 3) := by decide +kernel
theorem dX2_lookUpWalks_36 : decode cX2_lookUpWalks 36 = .ok (.iload_n 1, 1) := by decide +kernel
theorem dX2_lookUpWalks_37 : decode cX2_lookUpWalks 37 = .ok (.aload_n 0, 1) := by decide +kernel
theorem dX2_lookUpWalks_38 : decode cX2_lookUpWalks 38 = .ok (.getfield 25, 3) := by decide +kernel
theorem dX2_lookUpWalks_41 : decode cX2_lookUpWalks 41 = .ok (.getfield 86, 3) := by decide +kernel
theorem dX2_lookUpWalks_44 : decode cX2_lookUpWalks 44 = .ok (.aload_n 0, 1) := by decide +kernel
theorem dX2_lookUpWalks_45 : decode cX2_lookUpWalks 45 = .ok (.getfield 25, 3) := by decide +kernel
theorem dX2_lookUpWalks_48 : decode cX2_lookUpWalks 48 = .ok (.getfield 89, 3) := by decide +kernel
theorem dX2_lookUpWalks_51 : decode cX2_lookUpWalks 51 = .ok (.iload_n 3, 1) := by decide +kernel
theorem dX2_lookUpWalks_52 : decode cX2_lookUpWalks 52 = .ok (.iadd, 1) := by decide +kernel
theorem dX2_lookUpWalks_53 : decode cX2_lookUpWalks 53 = .ok (.invokevirtual 92, 3) := by decide +kernel
theorem dX2_lookUpWalks_56 : decode cX2_lookUpWalks 56 = .ok (.istore 4, 2) := by decide +kernel
theorem dX2_lookUpWalks_58 : decode cX2_lookUpWalks 58 = .ok (.iconst 0, 1) := by decide +kernel
theorem dX2_lookUpWalks_59 : decode cX2_lookUpWalks 59 = .ok (.istore 5, 2) := by decide +kernel
theorem dX2_lookUpWalks_61 : decode cX2_lookUpWalks 61 = .ok (.iload 5, 2) := by decide +kernel
theorem dX2_lookUpWalks_63 : decode cX2_lookUpWalks 63 = .ok (.aload_n 0, 1) := by decide +kernel
theorem dX2_lookUpWalks_64 : decode cX2_lookUpWalks 64 = .ok (.getfield 25, 3) := by decide +kernel
theorem dX2_lookUpWalks_67 : decode cX2_lookUpWalks 67 = .ok (.getfield 96, 3) := by decide +kernel
theorem dX2_lookUpWalks_70 : decode cX2_lookUpWalks 70 = .ok (.if_icmp .ge 95, 3) := by decide +kernel
theorem dX2_lookUpWalks_73 : decode cX2_lookUpWalks 73 = .ok (.aload_n 0, 1) := by decide +kernel
theorem dX2_lookUpWalks_74 : decode cX2_lookUpWalks 74 = .ok (.iload_n 1, 1) := by decide +kernel
theorem dX2_lookUpWalks_75 : decode cX2_lookUpWalks 75 = .ok (.iload 5, 2) := by decide +kernel
theorem dX2_lookUpWalks_77 : decode cX2_lookUpWalks 77 = .ok (.iload_n 3, 1) := by decide +kernel
theorem dX2_lookUpWalks_78 : decode cX2_lookUpWalks 78 = .ok (.invokevirtual 99, 3) := by decide +kernel
theorem dX2_lookUpWalks_81 : decode cX2_lookUpWalks 81 = .ok (.istore 6, 2) := by decide +kernel
theorem dX2_lookUpWalks_83 : decode cX2_lookUpWalks 83 = .ok (.aload_n 0, 1) := by decide +kernel
theorem dX2_lookUpWalks_84 : decode cX2_lookUpWalks 84 = .ok (.getfield 25, 3) := by decide +kernel
theorem dX2_lookUpWalks_87 : decode cX2_lookUpWalks 87 = .ok (.iload_n 1, 1) := by decide +kernel
theorem dX2_lookUpWalks_88 : decode cX2_lookUpWalks 88 = .ok (.iload 6, 2) := by decide +kernel
theorem dX2_lookUpWalks_90 : decode cX2_lookUpWalks 90 = .ok (.iload 4, 2) := by decide +kernel
theorem dX2_lookUpWalks_92 : decode cX2_lookUpWalks 92 = .ok (.aload_n 0, 1) := by decide +kernel
theorem dX2_lookUpWalks_93 : decode cX2_lookUpWalks 93 = .ok (.getfield 25, 3) := by decide +kernel
theorem dX2_lookUpWalks_96 : decode cX2_lookUpWalks 96 = .ok (.getfield 102, 3) := by decide +kernel
theorem dX2_lookUpWalks_99 : decode cX2_lookUpWalks 99 = .ok (.invokevirtual 105, 3) := by decide +kernel
theorem dX2_lookUpWalks_102 : decode cX2_lookUpWalks 102 = .ok (.istore 7, 2) := by decide +kernel
theorem dX2_lookUpWalks_104 : decode cX2_lookUpWalks 104 = .ok (.aload_n 0, 1) := by decide +kernel
theorem dX2_lookUpWalks_105 : decode cX2_lookUpWalks 105 = .ok (.getfield 15, 3) := by decide +kernel
theorem dX2_lookUpWalks_108 : decode cX2_lookUpWalks 108 = .ok (.iload_n 3, 1) := by decide +kernel
theorem dX2_lookUpWalks_109 : decode cX2_lookUpWalks 109 = .ok (.iload_n 1, 1) := by decide +kernel
theorem dX2_lookUpWalks_110 : decode cX2_lookUpWalks 110 = .ok (.iload 5, 2) := by decide +kernel
theorem dX2_lookUpWalks_112 : decode cX2_lookUpWalks 112 = .ok (.invokestatic 109, 3) := by decide +kernel
theorem dX2_lookUpWalks_115 : decode cX2_lookUpWalks 115 = .ok (.iload 7, 2) := by decide +kernel
theorem dX2_lookUpWalks_117 : decode cX2_lookUpWalks 117 = .ok (.aload_n 0, 1) := by decide +kernel
theorem dX2_lookUpWalks_118 : decode cX2_lookUpWalks 118 = .ok (.getfield 29, 3) := by decide +kernel
theorem dX2_lookUpWalks_121 : decode cX2_lookUpWalks 121 = .ok (.invokestatic 112, 3) := by decide +kernel
theorem dX2_lookUpWalks_124 : decode cX2_lookUpWalks 124 = .ok (.ifCond .eq 7, 3) := by decide +kernel
theorem dX2_lookUpWalks_127 : decode cX2_lookUpWalks 127 = .ok (.iload_n 2, 1) := by decide +kernel
theorem dX2_lookUpWalks_128 : decode cX2_lookUpWalks 128 = .ok (.goto 4, 3) := by decide +kernel
theorem dX2_lookUpWalks_131 : decode cX2_lookUpWalks 131 = .ok (.iconst 0, 1) := by decide +kernel
theorem dX2_lookUpWalks_132 : decode cX2_lookUpWalks 132 = .ok (.iastore, 1) := by decide +kernel
theorem dX2_lookUpWalks_133 : decode cX2_lookUpWalks 133 = .ok (.aload_n 0, 1) := by decide +kernel
theorem dX2_lookUpWalks_134 : decode cX2_lookUpWalks 134 = .ok (.getfield 18, 3) := by decide +kernel
theorem dX2_lookUpWalks_137 : decode cX2_lookUpWalks 137 = .ok (.iload_n 3, 1) := by decide +kernel
theorem dX2_lookUpWalks_138 : decode cX2_lookUpWalks 138 = .ok (.iload_n 1, 1) := by decide +kernel
theorem dX2_lookUpWalks_139 : decode cX2_lookUpWalks 139 = .ok (.iload 5, 2) := by decide +kernel
theorem dX2_lookUpWalks_141 : decode cX2_lookUpWalks 141 = .ok (.invokestatic 109, 3) := by decide +kernel
theorem dX2_lookUpWalks_144 : decode cX2_lookUpWalks 144 = .ok (.iload 6, 2) := by decide +kernel
theorem dX2_lookUpWalks_146 : decode cX2_lookUpWalks 146 = .ok (.aload_n 0, 1) := by decide +kernel
theorem dX2_lookUpWalks_147 : decode cX2_lookUpWalks 147 = .ok (.getfield 29, 3) := by decide +kernel
theorem dX2_lookUpWalks_150 : decode cX2_lookUpWalks 150 = .ok (.if_icmp .ne 7, 3) := by decide +kernel
theorem dX2_lookUpWalks_153 : decode cX2_lookUpWalks 153 = .ok (.iconst 1, 1) := by decide +kernel
theorem dX2_lookUpWalks_154 : decode cX2_lookUpWalks 154 = .ok (.goto 4, 3) := by decide +kernel
theorem dX2_lookUpWalks_157 : decode cX2_lookUpWalks 157 = .ok (.iconst 0, 1) := by decide +kernel
theorem dX2_lookUpWalks_158 : decode cX2_lookUpWalks 158 = .ok (.bastore, 1) := by decide +kernel
theorem dX2_lookUpWalks_159 : decode cX2_lookUpWalks 159 = .ok (.iinc 5 1, 3) := by decide +kernel
theorem dX2_lookUpWalks_162 : decode cX2_lookUpWalks 162 = .ok (.goto (-101), 3) := by decide +kernel
theorem dX2_lookUpWalks_165 : decode cX2_lookUpWalks 165 = .ok (.iinc 3 1, 3) := by decide +kernel
theorem dX2_lookUpWalks_168 : decode cX2_lookUpWalks 168 = .ok (.goto (-144), 3) := by decide +kernel
theorem dX2_lookUpWalks_171 : decode cX2_lookUpWalks 171 = .ok (.return_, 1) := by decide +kernel
set_option maxRecDepth 20000 in
theorem ggX2_placeAfter_X8_within : GoodIn wsX2_placeAfter wsX8_within := goodIn_r _ [6] (by decide +kernel) (by decide +kernel)
set_option maxRecDepth 20000 in
theorem gX2_placeAfter_X8_within_n119 : GoodIn wsX2_placeAfter (wsX8_within) := ggX2_placeAfter_X8_within
theorem dX2_placeAfter_0 : decode cX2_placeAfter 0 = .ok (.iload_n 2, 1) := by decide +kernel
theorem dX2_placeAfter_1 : decode cX2_placeAfter 1 = .ok (.istore 4, 2) := by decide +kernel
theorem dX2_placeAfter_3 : decode cX2_placeAfter 3 = .ok (.aload_n 0, 1) := by decide +kernel
theorem dX2_placeAfter_4 : decode cX2_placeAfter 4 = .ok (.getfield 25, 3) := by decide +kernel
theorem dX2_placeAfter_7 : decode cX2_placeAfter 7 = .ok (.getfield 116, 3) := by decide +kernel
theorem dX2_placeAfter_10 : decode cX2_placeAfter 10 = .ok (.iload_n 1, 1) := by decide +kernel
theorem dX2_placeAfter_11 : decode cX2_placeAfter 11 = .ok (.iaload, 1) := by decide +kernel
theorem dX2_placeAfter_12 : decode cX2_placeAfter 12 = .ok (.istore 5, 2) := by decide +kernel
theorem dX2_placeAfter_14 : decode cX2_placeAfter 14 = .ok (.iconst 0, 1) := by decide +kernel
theorem dX2_placeAfter_15 : decode cX2_placeAfter 15 = .ok (.istore 6, 2) := by decide +kernel
theorem dX2_placeAfter_17 : decode cX2_placeAfter 17 = .ok (.iload 6, 2) := by decide +kernel
theorem dX2_placeAfter_19 : decode cX2_placeAfter 19 = .ok (.iload_n 3, 1) := by decide +kernel
theorem dX2_placeAfter_20 : decode cX2_placeAfter 20 = .ok (.if_icmp .ge 45, 3) := by decide +kernel
theorem dX2_placeAfter_23 : decode cX2_placeAfter 23 = .ok (.iload 4, 2) := by decide +kernel
theorem dX2_placeAfter_25 : decode cX2_placeAfter 25 = .ok (.iload 5, 2) := by decide +kernel
theorem dX2_placeAfter_27 : decode cX2_placeAfter 27 = .ok (.iadd, 1) := by decide +kernel
theorem dX2_placeAfter_28 : decode cX2_placeAfter 28 = .ok (.iconst 0, 1) := by decide +kernel
theorem dX2_placeAfter_29 : decode cX2_placeAfter 29 = .ok (.aload_n 0, 1) := by decide +kernel
theorem dX2_placeAfter_30 : decode cX2_placeAfter 30 = .ok (.getfield 25, 3) := by decide +kernel
theorem dX2_placeAfter_33 : decode cX2_placeAfter 33 = .ok (.getfield 96, 3) := by decide +kernel
theorem dX2_placeAfter_36 : decode cX2_placeAfter 36 = .ok (.iconst 1, 1) := by decide +kernel
theorem dX2_placeAfter_37 : decode cX2_placeAfter 37 = .ok (.isub, 1) := by decide +kernel
theorem dX2_placeAfter_38 : decode cX2_placeAfter 38 = .ok (.invokestatic 119, 3) := by decide +kernel
theorem dX2_placeAfter_41 : decode cX2_placeAfter 41 = .ok (.ifCond .eq 13, 3) := by decide +kernel
theorem dX2_placeAfter_44 : decode cX2_placeAfter 44 = .ok (.iload 4, 2) := by decide +kernel
theorem dX2_placeAfter_46 : decode cX2_placeAfter 46 = .ok (.iload 5, 2) := by decide +kernel
theorem dX2_placeAfter_48 : decode cX2_placeAfter 48 = .ok (.iadd, 1) := by decide +kernel
theorem dX2_placeAfter_49 : decode cX2_placeAfter 49 = .ok (.istore 4, 2) := by decide +kernel
theorem dX2_placeAfter_51 : decode cX2_placeAfter 51 = .ok (.goto 8, 3) := by decide +kernel
theorem dX2_placeAfter_54 : decode cX2_placeAfter 54 = .ok (.iload 5, 2) := by decide +kernel
theorem dX2_placeAfter_56 : decode cX2_placeAfter 56 = .ok (.ineg, 1) := by decide +kernel
theorem dX2_placeAfter_57 : decode cX2_placeAfter 57 = .ok (.istore 5, 2) := by decide +kernel
theorem dX2_placeAfter_59 : decode cX2_placeAfter 59 = .ok (.iinc 6 1, 3) := by decide +kernel
theorem dX2_placeAfter_62 : decode cX2_placeAfter 62 = .ok (.goto (-45), 3) := by decide +kernel
theorem dX2_placeAfter_65 : decode cX2_placeAfter 65 = .ok (.iload 4, 2) := by decide +kernel
theorem dX2_placeAfter_67 : decode cX2_placeAfter 67 = .ok (.ireturn, 1) := by decide +kernel
set_option maxRecDepth 20000 in
theorem ggX2_harvest_X2_index : GoodIn wsX2_harvest wsX2_index := goodIn_r _ [19] (by decide +kernel) (by decide +kernel)
set_option maxRecDepth 20000 in
theorem gX2_harvest_X2_index : GoodIn wsX2_harvest (va_wsS RX2 109 yX2_index wsX2_index) := goodIn_app (goodIn_of _ (by decide +kernel)) ggX2_harvest_X2_index
set_option maxRecDepth 20000 in
theorem ggX2_harvest_X8_held : GoodIn wsX2_harvest wsX8_held := goodIn_r _ [22] (by decide +kernel) (by decide +kernel)
set_option maxRecDepth 20000 in
theorem gX2_harvest_X8_held_n33 : GoodIn wsX2_harvest (wsX8_held) := ggX2_harvest_X8_held
set_option maxRecDepth 20000 in
theorem ggX2_harvest_X0_takesFrom : GoodIn wsX2_harvest wsX0_takesFrom := goodIn_r _ [27, 28, 29, 30, 31, 32, 33, 34, 35, 36, 37, 38, 21, 39, 40, 41, 42, 26, 43, 44, 45, 46, 47, 48, 49, 50, 51, 52, 53, 54, 20, 22, 55, 56, 57, 66, 67, 68, 69, 70, 71, 72, 73, 74, 75, 76, 77, 78, 79, 80, 81, 82, 83, 84, 85, 86] (by decide +kernel) (by decide +kernel)
set_option maxRecDepth 20000 in
theorem gX2_harvest_X0_takesFrom : GoodIn wsX2_harvest (wsV RX2 130 RX0 yX0_takesFrom wsX0_takesFrom) := goodIn_app (goodIn_of _ (by decide +kernel)) ggX2_harvest_X0_takesFrom
theorem dX2_harvest_0 : decode cX2_harvest 0 = .ok (.aload_n 0, 1) := by decide +kernel
theorem dX2_harvest_1 : decode cX2_harvest 1 = .ok (.getfield 25, 3) := by decide +kernel
theorem dX2_harvest_4 : decode cX2_harvest 4 = .ok (.getfield 123, 3) := by decide +kernel
theorem dX2_harvest_7 : decode cX2_harvest 7 = .ok (.aload_n 0, 1) := by decide +kernel
theorem dX2_harvest_8 : decode cX2_harvest 8 = .ok (.getfield 29, 3) := by decide +kernel
theorem dX2_harvest_11 : decode cX2_harvest 11 = .ok (.iaload, 1) := by decide +kernel
theorem dX2_harvest_12 : decode cX2_harvest 12 = .ok (.istore_n 1, 1) := by decide +kernel
theorem dX2_harvest_13 : decode cX2_harvest 13 = .ok (.iconst 0, 1) := by decide +kernel
theorem dX2_harvest_14 : decode cX2_harvest 14 = .ok (.istore_n 2, 1) := by decide +kernel
theorem dX2_harvest_15 : decode cX2_harvest 15 = .ok (.iload_n 2, 1) := by decide +kernel
theorem dX2_harvest_16 : decode cX2_harvest 16 = .ok (.aload_n 0, 1) := by decide +kernel
theorem dX2_harvest_17 : decode cX2_harvest 17 = .ok (.getfield 37, 3) := by decide +kernel
theorem dX2_harvest_20 : decode cX2_harvest 20 = .ok (.if_icmp .ge 145, 3) := by decide +kernel
theorem dX2_harvest_23 : decode cX2_harvest 23 = .ok (.iconst 0, 1) := by decide +kernel
theorem dX2_harvest_24 : decode cX2_harvest 24 = .ok (.istore_n 3, 1) := by decide +kernel
theorem dX2_harvest_25 : decode cX2_harvest 25 = .ok (.iconst 0, 1) := by decide +kernel
theorem dX2_harvest_26 : decode cX2_harvest 26 = .ok (.istore 4, 2) := by decide +kernel
theorem dX2_harvest_28 : decode cX2_harvest 28 = .ok (.iload 4, 2) := by decide +kernel
theorem dX2_harvest_30 : decode cX2_harvest 30 = .ok (.aload_n 0, 1) := by decide +kernel
theorem dX2_harvest_31 : decode cX2_harvest 31 = .ok (.getfield 25, 3) := by decide +kernel
theorem dX2_harvest_34 : decode cX2_harvest 34 = .ok (.getfield 49, 3) := by decide +kernel
theorem dX2_harvest_37 : decode cX2_harvest 37 = .ok (.if_icmp .ge 30, 3) := by decide +kernel
theorem dX2_harvest_40 : decode cX2_harvest 40 = .ok (.iload_n 3, 1) := by decide +kernel
theorem dX2_harvest_41 : decode cX2_harvest 41 = .ok (.aload_n 0, 1) := by decide +kernel
theorem dX2_harvest_42 : decode cX2_harvest 42 = .ok (.getfield 15, 3) := by decide +kernel
theorem dX2_harvest_45 : decode cX2_harvest 45 = .ok (.iload_n 2, 1) := by decide +kernel
theorem dX2_harvest_46 : decode cX2_harvest 46 = .ok (.iload 4, 2) := by decide +kernel
theorem dX2_harvest_48 : decode cX2_harvest 48 = .ok (.aload_n 0, 1) := by decide +kernel
theorem dX2_harvest_49 : decode cX2_harvest 49 = .ok (.getfield 22, 3) := by decide +kernel
theorem dX2_harvest_52 : decode cX2_harvest 52 = .ok (.iload 4, 2) := by decide +kernel
theorem dX2_harvest_54 : decode cX2_harvest 54 = .ok (.iaload, 1) := by decide +kernel
theorem dX2_harvest_55 : decode cX2_harvest 55 = .ok (.invokestatic 109, 3) := by decide +kernel
theorem dX2_harvest_58 : decode cX2_harvest 58 = .ok (.iaload, 1) := by decide +kernel
theorem dX2_harvest_59 : decode cX2_harvest 59 = .ok (.iadd, 1) := by decide +kernel
theorem dX2_harvest_60 : decode cX2_harvest 60 = .ok (.istore_n 3, 1) := by decide +kernel
theorem dX2_harvest_61 : decode cX2_harvest 61 = .ok (.iinc 4 1, 3) := by decide +kernel
theorem dX2_harvest_64 : decode cX2_harvest 64 = .ok (.goto (-36), 3) := by decide +kernel
theorem dX2_harvest_67 : decode cX2_harvest 67 = .ok (.iload_n 1, 1) := by decide +kernel
theorem dX2_harvest_68 : decode cX2_harvest 68 = .ok (.iload_n 3, 1) := by decide +kernel
theorem dX2_harvest_69 : decode cX2_harvest 69 = .ok (.iconst 2, 1) := by decide +kernel
theorem dX2_harvest_70 : decode cX2_harvest 70 = .ok (.idiv, 1) := by decide +kernel
theorem dX2_harvest_71 : decode cX2_harvest 71 = .ok (.iadd, 1) := by decide +kernel
theorem dX2_harvest_72 : decode cX2_harvest 72 = .ok (.aload_n 0, 1) := by decide +kernel
theorem dX2_harvest_73 : decode cX2_harvest 73 = .ok (.getfield 25, 3) := by decide +kernel
theorem dX2_harvest_76 : decode cX2_harvest 76 = .ok (.getfield 126, 3) := by decide +kernel
theorem dX2_harvest_79 : decode cX2_harvest 79 = .ok (.aload_n 0, 1) := by decide +kernel
theorem dX2_harvest_80 : decode cX2_harvest 80 = .ok (.getfield 29, 3) := by decide +kernel
theorem dX2_harvest_83 : decode cX2_harvest 83 = .ok (.iaload, 1) := by decide +kernel
theorem dX2_harvest_84 : decode cX2_harvest 84 = .ok (.isub, 1) := by decide +kernel
theorem dX2_harvest_85 : decode cX2_harvest 85 = .ok (.ldc 129, 2) := by decide +kernel
theorem dX2_harvest_87 : decode cX2_harvest 87 = .ok (.invokestatic 33, 3) := by decide +kernel
theorem dX2_harvest_90 : decode cX2_harvest 90 = .ok (.istore_n 1, 1) := by decide +kernel
theorem dX2_harvest_91 : decode cX2_harvest 91 = .ok (.iconst 0, 1) := by decide +kernel
theorem dX2_harvest_92 : decode cX2_harvest 92 = .ok (.istore 4, 2) := by decide +kernel
theorem dX2_harvest_94 : decode cX2_harvest 94 = .ok (.iload 4, 2) := by decide +kernel
theorem dX2_harvest_96 : decode cX2_harvest 96 = .ok (.aload_n 0, 1) := by decide +kernel
theorem dX2_harvest_97 : decode cX2_harvest 97 = .ok (.getfield 25, 3) := by decide +kernel
theorem dX2_harvest_100 : decode cX2_harvest 100 = .ok (.getfield 49, 3) := by decide +kernel
theorem dX2_harvest_103 : decode cX2_harvest 103 = .ok (.if_icmp .ge 56, 3) := by decide +kernel
theorem dX2_harvest_106 : decode cX2_harvest 106 = .ok (.aload_n 0, 1) := by decide +kernel
theorem dX2_harvest_107 : decode cX2_harvest 107 = .ok (.getfield 18, 3) := by decide +kernel
theorem dX2_harvest_110 : decode cX2_harvest 110 = .ok (.iload_n 2, 1) := by decide +kernel
theorem dX2_harvest_111 : decode cX2_harvest 111 = .ok (.iload 4, 2) := by decide +kernel
theorem dX2_harvest_113 : decode cX2_harvest 113 = .ok (.aload_n 0, 1) := by decide +kernel
theorem dX2_harvest_114 : decode cX2_harvest 114 = .ok (.getfield 22, 3) := by decide +kernel
theorem dX2_harvest_117 : decode cX2_harvest 117 = .ok (.iload 4, 2) := by decide +kernel
theorem dX2_harvest_119 : decode cX2_harvest 119 = .ok (.iaload, 1) := by decide +kernel
theorem dX2_harvest_120 : decode cX2_harvest 120 = .ok (.invokestatic 109, 3) := by decide +kernel
theorem dX2_harvest_123 : decode cX2_harvest 123 = .ok (.baload, 1) := by decide +kernel
theorem dX2_harvest_124 : decode cX2_harvest 124 = .ok (.ifCond .eq 29, 3) := by decide +kernel
theorem dX2_harvest_127 : decode cX2_harvest 127 = .ok (.iload_n 1, 1) := by decide +kernel
theorem dX2_harvest_128 : decode cX2_harvest 128 = .ok (.iload_n 1, 1) := by decide +kernel
theorem dX2_harvest_129 : decode cX2_harvest 129 = .ok (.aload_n 0, 1) := by decide +kernel
theorem dX2_harvest_130 : decode cX2_harvest 130 = .ok (.getfield 25, 3) := by decide +kernel
theorem dX2_harvest_133 : decode cX2_harvest 133 = .ok (.iload 4, 2) := by decide +kernel
theorem dX2_harvest_135 : decode cX2_harvest 135 = .ok (.iload_n 1, 1) := by decide +kernel
theorem dX2_harvest_136 : decode cX2_harvest 136 = .ok (.aload_n 0, 1) := by decide +kernel
theorem dX2_harvest_137 : decode cX2_harvest 137 = .ok (.getfield 25, 3) := by decide +kernel
theorem dX2_harvest_140 : decode cX2_harvest 140 = .ok (.getfield 89, 3) := by decide +kernel
theorem dX2_harvest_143 : decode cX2_harvest 143 = .ok (.iload_n 2, 1) := by decide +kernel
theorem dX2_harvest_144 : decode cX2_harvest 144 = .ok (.iadd, 1) := by decide +kernel
theorem dX2_harvest_145 : decode cX2_harvest 145 = .ok (.invokevirtual 130, 3) := by decide +kernel
theorem dX2_harvest_148 : decode cX2_harvest 148 = .ok (.invokestatic 133, 3) := by decide +kernel
theorem dX2_harvest_151 : decode cX2_harvest 151 = .ok (.isub, 1) := by decide +kernel
theorem dX2_harvest_152 : decode cX2_harvest 152 = .ok (.istore_n 1, 1) := by decide +kernel
theorem dX2_harvest_153 : decode cX2_harvest 153 = .ok (.iinc 4 1, 3) := by decide +kernel
theorem dX2_harvest_156 : decode cX2_harvest 156 = .ok (.goto (-62), 3) := by decide +kernel
theorem dX2_harvest_159 : decode cX2_harvest 159 = .ok (.iinc 2 1, 3) := by decide +kernel
theorem dX2_harvest_162 : decode cX2_harvest 162 = .ok (.goto (-147), 3) := by decide +kernel
theorem dX2_harvest_165 : decode cX2_harvest 165 = .ok (.iload_n 1, 1) := by decide +kernel
theorem dX2_harvest_166 : decode cX2_harvest 166 = .ok (.ireturn, 1) := by decide +kernel
set_option maxRecDepth 20000 in
theorem ggX2_mostHarvest_X2_index : GoodIn wsX2_mostHarvest wsX2_index := goodIn_r _ [17] (by decide +kernel) (by decide +kernel)
set_option maxRecDepth 20000 in
theorem gX2_mostHarvest_X2_index : GoodIn wsX2_mostHarvest (va_wsS RX2 109 yX2_index wsX2_index) := goodIn_app (goodIn_of _ (by decide +kernel)) ggX2_mostHarvest_X2_index
set_option maxRecDepth 20000 in
theorem ggX2_mostHarvest_X8_held : GoodIn wsX2_mostHarvest wsX8_held := goodIn_r _ [20] (by decide +kernel) (by decide +kernel)
set_option maxRecDepth 20000 in
theorem gX2_mostHarvest_X8_held_n33 : GoodIn wsX2_mostHarvest (wsX8_held) := ggX2_mostHarvest_X8_held
theorem dX2_mostHarvest_0 : decode cX2_mostHarvest 0 = .ok (.aload_n 0, 1) := by decide +kernel
theorem dX2_mostHarvest_1 : decode cX2_mostHarvest 1 = .ok (.getfield 25, 3) := by decide +kernel
theorem dX2_mostHarvest_4 : decode cX2_mostHarvest 4 = .ok (.getfield 123, 3) := by decide +kernel
theorem dX2_mostHarvest_7 : decode cX2_mostHarvest 7 = .ok (.aload_n 0, 1) := by decide +kernel
theorem dX2_mostHarvest_8 : decode cX2_mostHarvest 8 = .ok (.getfield 29, 3) := by decide +kernel
theorem dX2_mostHarvest_11 : decode cX2_mostHarvest 11 = .ok (.iaload, 1) := by decide +kernel
theorem dX2_mostHarvest_12 : decode cX2_mostHarvest 12 = .ok (.istore_n 1, 1) := by decide +kernel
theorem dX2_mostHarvest_13 : decode cX2_mostHarvest 13 = .ok (.iconst 0, 1) := by decide +kernel
theorem dX2_mostHarvest_14 : decode cX2_mostHarvest 14 = .ok (.istore_n 2, 1) := by decide +kernel
theorem dX2_mostHarvest_15 : decode cX2_mostHarvest 15 = .ok (.iload_n 2, 1) := by decide +kernel
theorem dX2_mostHarvest_16 : decode cX2_mostHarvest 16 = .ok (.aload_n 0, 1) := by decide +kernel
theorem dX2_mostHarvest_17 : decode cX2_mostHarvest 17 = .ok (.getfield 37, 3) := by decide +kernel
theorem dX2_mostHarvest_20 : decode cX2_mostHarvest 20 = .ok (.if_icmp .ge 105, 3) := by decide +kernel
theorem dX2_mostHarvest_23 : decode cX2_mostHarvest 23 = .ok (.iconst 0, 1) := by decide +kernel
theorem dX2_mostHarvest_24 : decode cX2_mostHarvest 24 = .ok (.istore_n 3, 1) := by decide +kernel
theorem dX2_mostHarvest_25 : decode cX2_mostHarvest 25 = .ok (.iconst 0, 1) := by decide +kernel
theorem dX2_mostHarvest_26 : decode cX2_mostHarvest 26 = .ok (.istore 4, 2) := by decide +kernel
theorem dX2_mostHarvest_28 : decode cX2_mostHarvest 28 = .ok (.iload 4, 2) := by decide +kernel
theorem dX2_mostHarvest_30 : decode cX2_mostHarvest 30 = .ok (.aload_n 0, 1) := by decide +kernel
theorem dX2_mostHarvest_31 : decode cX2_mostHarvest 31 = .ok (.getfield 25, 3) := by decide +kernel
theorem dX2_mostHarvest_34 : decode cX2_mostHarvest 34 = .ok (.getfield 49, 3) := by decide +kernel
theorem dX2_mostHarvest_37 : decode cX2_mostHarvest 37 = .ok (.if_icmp .ge 58, 3) := by decide +kernel
theorem dX2_mostHarvest_40 : decode cX2_mostHarvest 40 = .ok (.iconst 0, 1) := by decide +kernel
theorem dX2_mostHarvest_41 : decode cX2_mostHarvest 41 = .ok (.istore 5, 2) := by decide +kernel
theorem dX2_mostHarvest_43 : decode cX2_mostHarvest 43 = .ok (.iconst 0, 1) := by decide +kernel
theorem dX2_mostHarvest_44 : decode cX2_mostHarvest 44 = .ok (.istore 6, 2) := by decide +kernel
theorem dX2_mostHarvest_46 : decode cX2_mostHarvest 46 = .ok (.iload 6, 2) := by decide +kernel
theorem dX2_mostHarvest_48 : decode cX2_mostHarvest 48 = .ok (.aload_n 0, 1) := by decide +kernel
theorem dX2_mostHarvest_49 : decode cX2_mostHarvest 49 = .ok (.getfield 25, 3) := by decide +kernel
theorem dX2_mostHarvest_52 : decode cX2_mostHarvest 52 = .ok (.getfield 96, 3) := by decide +kernel
theorem dX2_mostHarvest_55 : decode cX2_mostHarvest 55 = .ok (.if_icmp .ge 29, 3) := by decide +kernel
theorem dX2_mostHarvest_58 : decode cX2_mostHarvest 58 = .ok (.iload 5, 2) := by decide +kernel
theorem dX2_mostHarvest_60 : decode cX2_mostHarvest 60 = .ok (.aload_n 0, 1) := by decide +kernel
theorem dX2_mostHarvest_61 : decode cX2_mostHarvest 61 = .ok (.getfield 15, 3) := by decide +kernel
theorem dX2_mostHarvest_64 : decode cX2_mostHarvest 64 = .ok (.iload_n 2, 1) := by decide +kernel
theorem dX2_mostHarvest_65 : decode cX2_mostHarvest 65 = .ok (.iload 4, 2) := by decide +kernel
theorem dX2_mostHarvest_67 : decode cX2_mostHarvest 67 = .ok (.iload 6, 2) := by decide +kernel
theorem dX2_mostHarvest_69 : decode cX2_mostHarvest 69 = .ok (.invokestatic 109, 3) := by decide +kernel
theorem dX2_mostHarvest_72 : decode cX2_mostHarvest 72 = .ok (.iaload, 1) := by decide +kernel
theorem dX2_mostHarvest_73 : decode cX2_mostHarvest 73 = .ok (.invokestatic 138, 3) := by decide +kernel
theorem dX2_mostHarvest_76 : decode cX2_mostHarvest 76 = .ok (.istore 5, 2) := by decide +kernel
theorem dX2_mostHarvest_78 : decode cX2_mostHarvest 78 = .ok (.iinc 6 1, 3) := by decide +kernel
theorem dX2_mostHarvest_81 : decode cX2_mostHarvest 81 = .ok (.goto (-35), 3) := by decide +kernel
theorem dX2_mostHarvest_84 : decode cX2_mostHarvest 84 = .ok (.iload_n 3, 1) := by decide +kernel
theorem dX2_mostHarvest_85 : decode cX2_mostHarvest 85 = .ok (.iload 5, 2) := by decide +kernel
theorem dX2_mostHarvest_87 : decode cX2_mostHarvest 87 = .ok (.iadd, 1) := by decide +kernel
theorem dX2_mostHarvest_88 : decode cX2_mostHarvest 88 = .ok (.istore_n 3, 1) := by decide +kernel
theorem dX2_mostHarvest_89 : decode cX2_mostHarvest 89 = .ok (.iinc 4 1, 3) := by decide +kernel
theorem dX2_mostHarvest_92 : decode cX2_mostHarvest 92 = .ok (.goto (-64), 3) := by decide +kernel
theorem dX2_mostHarvest_95 : decode cX2_mostHarvest 95 = .ok (.iload_n 1, 1) := by decide +kernel
theorem dX2_mostHarvest_96 : decode cX2_mostHarvest 96 = .ok (.iload_n 3, 1) := by decide +kernel
theorem dX2_mostHarvest_97 : decode cX2_mostHarvest 97 = .ok (.iconst 2, 1) := by decide +kernel
theorem dX2_mostHarvest_98 : decode cX2_mostHarvest 98 = .ok (.idiv, 1) := by decide +kernel
theorem dX2_mostHarvest_99 : decode cX2_mostHarvest 99 = .ok (.iadd, 1) := by decide +kernel
theorem dX2_mostHarvest_100 : decode cX2_mostHarvest 100 = .ok (.aload_n 0, 1) := by decide +kernel
theorem dX2_mostHarvest_101 : decode cX2_mostHarvest 101 = .ok (.getfield 25, 3) := by decide +kernel
theorem dX2_mostHarvest_104 : decode cX2_mostHarvest 104 = .ok (.getfield 126, 3) := by decide +kernel
theorem dX2_mostHarvest_107 : decode cX2_mostHarvest 107 = .ok (.aload_n 0, 1) := by decide +kernel
theorem dX2_mostHarvest_108 : decode cX2_mostHarvest 108 = .ok (.getfield 29, 3) := by decide +kernel
theorem dX2_mostHarvest_111 : decode cX2_mostHarvest 111 = .ok (.iaload, 1) := by decide +kernel
theorem dX2_mostHarvest_112 : decode cX2_mostHarvest 112 = .ok (.isub, 1) := by decide +kernel
theorem dX2_mostHarvest_113 : decode cX2_mostHarvest 113 = .ok (.ldc 129, 2) := by decide +kernel
theorem dX2_mostHarvest_115 : decode cX2_mostHarvest 115 = .ok (.invokestatic 33, 3) := by decide +kernel
theorem dX2_mostHarvest_118 : decode cX2_mostHarvest 118 = .ok (.istore_n 1, 1) := by decide +kernel
theorem dX2_mostHarvest_119 : decode cX2_mostHarvest 119 = .ok (.iinc 2 1, 3) := by decide +kernel
theorem dX2_mostHarvest_122 : decode cX2_mostHarvest 122 = .ok (.goto (-107), 3) := by decide +kernel
theorem dX2_mostHarvest_125 : decode cX2_mostHarvest 125 = .ok (.iload_n 1, 1) := by decide +kernel
theorem dX2_mostHarvest_126 : decode cX2_mostHarvest 126 = .ok (.ireturn, 1) := by decide +kernel
set_option maxRecDepth 20000 in
theorem ggX2_isFoundByOne_X2_harvest : GoodIn wsX2_isFoundByOne wsX2_harvest := goodIn_r _ [11, 1, 12, 13, 14, 2, 15, 4, 16, 17, 18, 19, 20, 21, 22, 23, 24, 25, 10, 26, 27, 28, 29, 30, 31, 32, 33, 34, 35, 36, 37, 38, 39, 40, 41, 42, 43, 44, 45, 46, 47, 48, 49, 50, 51, 52, 53, 54, 55, 56, 57, 58, 59, 60, 61, 62, 63, 64, 70, 71, 72, 73, 74, 75, 76, 77, 78, 79, 80, 81, 82, 83, 84, 85, 86, 87, 88, 89, 90, 91, 92, 93, 94, 95, 96, 97, 98] (by decide +kernel) (by decide +kernel)
set_option maxRecDepth 20000 in
theorem gX2_isFoundByOne_X2_harvest : GoodIn wsX2_isFoundByOne (wsV RX2 61 RX2 yX2_harvest wsX2_harvest) := goodIn_app (goodIn_of _ (by decide +kernel)) ggX2_isFoundByOne_X2_harvest
set_option maxRecDepth 20000 in
theorem ggX2_isFoundByOne_X2_putDown : GoodIn wsX2_isFoundByOne wsX2_putDown := goodIn_r _ [68, 69, 4, 70, 71, 72, 73, 74, 75, 76, 77] (by decide +kernel) (by decide +kernel)
set_option maxRecDepth 20000 in
theorem gX2_isFoundByOne_X2_putDown : GoodIn wsX2_isFoundByOne (wsV RX2 141 RX2 yX2_putDown wsX2_putDown) := goodIn_app (goodIn_of _ (by decide +kernel)) ggX2_isFoundByOne_X2_putDown
theorem dX2_isFoundByOne_0 : decode cX2_isFoundByOne 0 = .ok (.iconst 0, 1) := by decide +kernel
theorem dX2_isFoundByOne_1 : decode cX2_isFoundByOne 1 = .ok (.istore_n 2, 1) := by decide +kernel
theorem dX2_isFoundByOne_2 : decode cX2_isFoundByOne 2 = .ok (.iload_n 2, 1) := by decide +kernel
theorem dX2_isFoundByOne_3 : decode cX2_isFoundByOne 3 = .ok (.aload_n 0, 1) := by decide +kernel
theorem dX2_isFoundByOne_4 : decode cX2_isFoundByOne 4 = .ok (.getfield 25, 3) := by decide +kernel
theorem dX2_isFoundByOne_7 : decode cX2_isFoundByOne 7 = .ok (.getfield 49, 3) := by decide +kernel
theorem dX2_isFoundByOne_10 : decode cX2_isFoundByOne 10 = .ok (.if_icmp .ge 84, 3) := by decide +kernel
theorem dX2_isFoundByOne_13 : decode cX2_isFoundByOne 13 = .ok (.iconst 0, 1) := by decide +kernel
theorem dX2_isFoundByOne_14 : decode cX2_isFoundByOne 14 = .ok (.istore_n 3, 1) := by decide +kernel
theorem dX2_isFoundByOne_15 : decode cX2_isFoundByOne 15 = .ok (.iload_n 3, 1) := by decide +kernel
theorem dX2_isFoundByOne_16 : decode cX2_isFoundByOne 16 = .ok (.aload_n 0, 1) := by decide +kernel
theorem dX2_isFoundByOne_17 : decode cX2_isFoundByOne 17 = .ok (.getfield 25, 3) := by decide +kernel
theorem dX2_isFoundByOne_20 : decode cX2_isFoundByOne 20 = .ok (.getfield 96, 3) := by decide +kernel
theorem dX2_isFoundByOne_23 : decode cX2_isFoundByOne 23 = .ok (.if_icmp .ge 50, 3) := by decide +kernel
theorem dX2_isFoundByOne_26 : decode cX2_isFoundByOne 26 = .ok (.aload_n 0, 1) := by decide +kernel
theorem dX2_isFoundByOne_27 : decode cX2_isFoundByOne 27 = .ok (.getfield 22, 3) := by decide +kernel
theorem dX2_isFoundByOne_30 : decode cX2_isFoundByOne 30 = .ok (.iload_n 2, 1) := by decide +kernel
theorem dX2_isFoundByOne_31 : decode cX2_isFoundByOne 31 = .ok (.iload_n 3, 1) := by decide +kernel
theorem dX2_isFoundByOne_32 : decode cX2_isFoundByOne 32 = .ok (.iastore, 1) := by decide +kernel
theorem dX2_isFoundByOne_33 : decode cX2_isFoundByOne 33 = .ok (.iload_n 3, 1) := by decide +kernel
theorem dX2_isFoundByOne_34 : decode cX2_isFoundByOne 34 = .ok (.aload_n 0, 1) := by decide +kernel
theorem dX2_isFoundByOne_35 : decode cX2_isFoundByOne 35 = .ok (.getfield 25, 3) := by decide +kernel
theorem dX2_isFoundByOne_38 : decode cX2_isFoundByOne 38 = .ok (.getfield 54, 3) := by decide +kernel
theorem dX2_isFoundByOne_41 : decode cX2_isFoundByOne 41 = .ok (.iload_n 2, 1) := by decide +kernel
theorem dX2_isFoundByOne_42 : decode cX2_isFoundByOne 42 = .ok (.iaload, 1) := by decide +kernel
theorem dX2_isFoundByOne_43 : decode cX2_isFoundByOne 43 = .ok (.if_icmp .eq 24, 3) := by decide +kernel
theorem dX2_isFoundByOne_46 : decode cX2_isFoundByOne 46 = .ok (.aload_n 0, 1) := by decide +kernel
theorem dX2_isFoundByOne_47 : decode cX2_isFoundByOne 47 = .ok (.invokevirtual 61, 3) := by decide +kernel
theorem dX2_isFoundByOne_50 : decode cX2_isFoundByOne 50 = .ok (.iload_n 1, 1) := by decide +kernel
theorem dX2_isFoundByOne_51 : decode cX2_isFoundByOne 51 = .ok (.if_icmp .lt 16, 3) := by decide +kernel
theorem dX2_isFoundByOne_54 : decode cX2_isFoundByOne 54 = .ok (.aload_n 0, 1) := by decide +kernel
theorem dX2_isFoundByOne_55 : decode cX2_isFoundByOne 55 = .ok (.iconst 0, 1) := by decide +kernel
theorem dX2_isFoundByOne_56 : decode cX2_isFoundByOne 56 = .ok (.iload_n 2, 1) := by decide +kernel
theorem dX2_isFoundByOne_57 : decode cX2_isFoundByOne 57 = .ok (.invokevirtual 141, 3) := by decide +kernel
theorem dX2_isFoundByOne_60 : decode cX2_isFoundByOne 60 = .ok (.aload_n 0, 1) := by decide +kernel
theorem dX2_isFoundByOne_61 : decode cX2_isFoundByOne 61 = .ok (.iconst 1, 1) := by decide +kernel
theorem dX2_isFoundByOne_62 : decode cX2_isFoundByOne 62 = .ok (.putfield 46, 3) := by decide +kernel
theorem dX2_isFoundByOne_65 : decode cX2_isFoundByOne 65 = .ok (.iconst 1, 1) := by decide +kernel
theorem dX2_isFoundByOne_66 : decode cX2_isFoundByOne 66 = .ok (.ireturn, 1) := by decide +kernel
theorem dX2_isFoundByOne_67 : decode cX2_isFoundByOne 67 = .ok (.iinc 3 1, 3) := by decide +kernel
theorem dX2_isFoundByOne_70 : decode cX2_isFoundByOne 70 = .ok (.goto (-55), 3) := by decide +kernel
theorem dX2_isFoundByOne_73 : decode cX2_isFoundByOne 73 = .ok (.aload_n 0, 1) := by decide +kernel
theorem dX2_isFoundByOne_74 : decode cX2_isFoundByOne 74 = .ok (.getfield 22, 3) := by decide +kernel
theorem dX2_isFoundByOne_77 : decode cX2_isFoundByOne 77 = .ok (.iload_n 2, 1) := by decide +kernel
theorem dX2_isFoundByOne_78 : decode cX2_isFoundByOne 78 = .ok (.aload_n 0, 1) := by decide +kernel
theorem dX2_isFoundByOne_79 : decode cX2_isFoundByOne 79 = .ok (.getfield 25, 3) := by decide +kernel
theorem dX2_isFoundByOne_82 : decode cX2_isFoundByOne 82 = .ok (.getfield 54, 3) := by decide +kernel
theorem dX2_isFoundByOne_85 : decode cX2_isFoundByOne 85 = .ok (.iload_n 2, 1) := by decide +kernel
theorem dX2_isFoundByOne_86 : decode cX2_isFoundByOne 86 = .ok (.iaload, 1) := by decide +kernel
theorem dX2_isFoundByOne_87 : decode cX2_isFoundByOne 87 = .ok (.iastore, 1) := by decide +kernel
theorem dX2_isFoundByOne_88 : decode cX2_isFoundByOne 88 = .ok (.iinc 2 1, 3) := by decide +kernel
theorem dX2_isFoundByOne_91 : decode cX2_isFoundByOne 91 = .ok (.goto (-89), 3) := by decide +kernel
theorem dX2_isFoundByOne_94 : decode cX2_isFoundByOne 94 = .ok (.iconst 0, 1) := by decide +kernel
theorem dX2_isFoundByOne_95 : decode cX2_isFoundByOne 95 = .ok (.ireturn, 1) := by decide +kernel
set_option maxRecDepth 20000 in
theorem ggX2_isFoundByTwo_X2_harvest : GoodIn wsX2_isFoundByTwo wsX2_harvest := goodIn_r _ [11, 1, 12, 13, 14, 2, 15, 4, 16, 17, 18, 19, 20, 21, 22, 23, 24, 25, 10, 26, 27, 28, 29, 30, 31, 32, 33, 34, 35, 36, 37, 38, 39, 40, 41, 42, 43, 44, 45, 46, 47, 48, 49, 50, 51, 52, 53, 54, 55, 56, 57, 58, 59, 60, 61, 62, 63, 64, 70, 71, 72, 73, 74, 75, 76, 77, 78, 79, 80, 81, 82, 83, 84, 85, 86, 87, 88, 89, 90, 91, 92, 93, 94, 95, 96, 97, 98] (by decide +kernel) (by decide +kernel)
set_option maxRecDepth 20000 in
theorem gX2_isFoundByTwo_X2_harvest : GoodIn wsX2_isFoundByTwo (wsV RX2 61 RX2 yX2_harvest wsX2_harvest) := goodIn_app (goodIn_of _ (by decide +kernel)) ggX2_isFoundByTwo_X2_harvest
set_option maxRecDepth 20000 in
theorem ggX2_isFoundByTwo_X2_putDown : GoodIn wsX2_isFoundByTwo wsX2_putDown := goodIn_r _ [68, 69, 4, 70, 71, 72, 73, 74, 75, 76, 77] (by decide +kernel) (by decide +kernel)
set_option maxRecDepth 20000 in
theorem gX2_isFoundByTwo_X2_putDown : GoodIn wsX2_isFoundByTwo (wsV RX2 141 RX2 yX2_putDown wsX2_putDown) := goodIn_app (goodIn_of _ (by decide +kernel)) ggX2_isFoundByTwo_X2_putDown
theorem dX2_isFoundByTwo_0 : decode cX2_isFoundByTwo 0 = .ok (.iconst 0, 1) := by decide +kernel
theorem dX2_isFoundByTwo_1 : decode cX2_isFoundByTwo 1 = .ok (.istore_n 2, 1) := by decide +kernel
theorem dX2_isFoundByTwo_2 : decode cX2_isFoundByTwo 2 = .ok (.iload_n 2, 1) := by decide +kernel
theorem dX2_isFoundByTwo_3 : decode cX2_isFoundByTwo 3 = .ok (.aload_n 0, 1) := by decide +kernel
theorem dX2_isFoundByTwo_4 : decode cX2_isFoundByTwo 4 = .ok (.getfield 25, 3) := by decide +kernel
theorem dX2_isFoundByTwo_7 : decode cX2_isFoundByTwo 7 = .ok (.getfield 49, 3) := by decide +kernel
theorem dX2_isFoundByTwo_10 : decode cX2_isFoundByTwo 10 = .ok (.if_icmp .ge 176, 3) := by decide +kernel
theorem dX2_isFoundByTwo_13 : decode cX2_isFoundByTwo 13 = .ok (.iconst 0, 1) := by decide +kernel
theorem dX2_isFoundByTwo_14 : decode cX2_isFoundByTwo 14 = .ok (.istore_n 3, 1) := by decide +kernel
theorem dX2_isFoundByTwo_15 : decode cX2_isFoundByTwo 15 = .ok (.iload_n 3, 1) := by decide +kernel
theorem dX2_isFoundByTwo_16 : decode cX2_isFoundByTwo 16 = .ok (.aload_n 0, 1) := by decide +kernel
theorem dX2_isFoundByTwo_17 : decode cX2_isFoundByTwo 17 = .ok (.getfield 25, 3) := by decide +kernel
theorem dX2_isFoundByTwo_20 : decode cX2_isFoundByTwo 20 = .ok (.getfield 96, 3) := by decide +kernel
theorem dX2_isFoundByTwo_23 : decode cX2_isFoundByTwo 23 = .ok (.if_icmp .ge 142, 3) := by decide +kernel
theorem dX2_isFoundByTwo_26 : decode cX2_isFoundByTwo 26 = .ok (.aload_n 0, 1) := by decide +kernel
theorem dX2_isFoundByTwo_27 : decode cX2_isFoundByTwo 27 = .ok (.getfield 22, 3) := by decide +kernel
theorem dX2_isFoundByTwo_30 : decode cX2_isFoundByTwo 30 = .ok (.iload_n 2, 1) := by decide +kernel
theorem dX2_isFoundByTwo_31 : decode cX2_isFoundByTwo 31 = .ok (.iload_n 3, 1) := by decide +kernel
theorem dX2_isFoundByTwo_32 : decode cX2_isFoundByTwo 32 = .ok (.iastore, 1) := by decide +kernel
theorem dX2_isFoundByTwo_33 : decode cX2_isFoundByTwo 33 = .ok (.iload_n 2, 1) := by decide +kernel
theorem dX2_isFoundByTwo_34 : decode cX2_isFoundByTwo 34 = .ok (.iconst 1, 1) := by decide +kernel
theorem dX2_isFoundByTwo_35 : decode cX2_isFoundByTwo 35 = .ok (.iadd, 1) := by decide +kernel
theorem dX2_isFoundByTwo_36 : decode cX2_isFoundByTwo 36 = .ok (.istore 4, 2) := by decide +kernel
theorem dX2_isFoundByTwo_38 : decode cX2_isFoundByTwo 38 = .ok (.iload 4, 2) := by decide +kernel
theorem dX2_isFoundByTwo_40 : decode cX2_isFoundByTwo 40 = .ok (.aload_n 0, 1) := by decide +kernel
theorem dX2_isFoundByTwo_41 : decode cX2_isFoundByTwo 41 = .ok (.getfield 25, 3) := by decide +kernel
theorem dX2_isFoundByTwo_44 : decode cX2_isFoundByTwo 44 = .ok (.getfield 49, 3) := by decide +kernel
theorem dX2_isFoundByTwo_47 : decode cX2_isFoundByTwo 47 = .ok (.if_icmp .ge 112, 3) := by decide +kernel
theorem dX2_isFoundByTwo_50 : decode cX2_isFoundByTwo 50 = .ok (.iload_n 3, 1) := by decide +kernel
theorem dX2_isFoundByTwo_51 : decode cX2_isFoundByTwo 51 = .ok (.aload_n 0, 1) := by decide +kernel
theorem dX2_isFoundByTwo_52 : decode cX2_isFoundByTwo 52 = .ok (.getfield 25, 3) := by decide +kernel
theorem dX2_isFoundByTwo_55 : decode cX2_isFoundByTwo 55 = .ok (.getfield 54, 3) := by decide +kernel
theorem dX2_isFoundByTwo_58 : decode cX2_isFoundByTwo 58 = .ok (.iload_n 2, 1) := by decide +kernel
theorem dX2_isFoundByTwo_59 : decode cX2_isFoundByTwo 59 = .ok (.iaload, 1) := by decide +kernel
theorem dX2_isFoundByTwo_60 : decode cX2_isFoundByTwo 60 = .ok (.if_icmp .eq 99, 3) := by decide +kernel
theorem dX2_isFoundByTwo_63 : decode cX2_isFoundByTwo 63 = .ok (.iconst 0, 1) := by decide +kernel
theorem dX2_isFoundByTwo_64 : decode cX2_isFoundByTwo 64 = .ok (.istore 5, 2) := by decide +kernel
theorem dX2_isFoundByTwo_66 : decode cX2_isFoundByTwo 66 = .ok (.iload 5, 2) := by decide +kernel
theorem dX2_isFoundByTwo_68 : decode cX2_isFoundByTwo 68 = .ok (.aload_n 0, 1) := by decide +kernel
theorem dX2_isFoundByTwo_69 : decode cX2_isFoundByTwo 69 = .ok (.getfield 25, 3) := by decide +kernel
theorem dX2_isFoundByTwo_72 : decode cX2_isFoundByTwo 72 = .ok (.getfield 96, 3) := by decide +kernel
theorem dX2_isFoundByTwo_75 : decode cX2_isFoundByTwo 75 = .ok (.if_icmp .ge 61, 3) := by decide +kernel
theorem dX2_isFoundByTwo_78 : decode cX2_isFoundByTwo 78 = .ok (.aload_n 0, 1) := by decide +kernel
theorem dX2_isFoundByTwo_79 : decode cX2_isFoundByTwo 79 = .ok (.getfield 22, 3) := by decide +kernel
theorem dX2_isFoundByTwo_82 : decode cX2_isFoundByTwo 82 = .ok (.iload 4, 2) := by decide +kernel
theorem dX2_isFoundByTwo_84 : decode cX2_isFoundByTwo 84 = .ok (.iload 5, 2) := by decide +kernel
theorem dX2_isFoundByTwo_86 : decode cX2_isFoundByTwo 86 = .ok (.iastore, 1) := by decide +kernel
theorem dX2_isFoundByTwo_87 : decode cX2_isFoundByTwo 87 = .ok (.iload 5, 2) := by decide +kernel
theorem dX2_isFoundByTwo_89 : decode cX2_isFoundByTwo 89 = .ok (.aload_n 0, 1) := by decide +kernel
theorem dX2_isFoundByTwo_90 : decode cX2_isFoundByTwo 90 = .ok (.getfield 25, 3) := by decide +kernel
theorem dX2_isFoundByTwo_93 : decode cX2_isFoundByTwo 93 = .ok (.getfield 54, 3) := by decide +kernel
theorem dX2_isFoundByTwo_96 : decode cX2_isFoundByTwo 96 = .ok (.iload 4, 2) := by decide +kernel
theorem dX2_isFoundByTwo_98 : decode cX2_isFoundByTwo 98 = .ok (.iaload, 1) := by decide +kernel
theorem dX2_isFoundByTwo_99 : decode cX2_isFoundByTwo 99 = .ok (.if_icmp .eq 31, 3) := by decide +kernel
theorem dX2_isFoundByTwo_102 : decode cX2_isFoundByTwo 102 = .ok (.aload_n 0, 1) := by decide +kernel
theorem dX2_isFoundByTwo_103 : decode cX2_isFoundByTwo 103 = .ok (.invokevirtual 61, 3) := by decide +kernel
theorem dX2_isFoundByTwo_106 : decode cX2_isFoundByTwo 106 = .ok (.iload_n 1, 1) := by decide +kernel
theorem dX2_isFoundByTwo_107 : decode cX2_isFoundByTwo 107 = .ok (.if_icmp .lt 23, 3) := by decide +kernel
theorem dX2_isFoundByTwo_110 : decode cX2_isFoundByTwo 110 = .ok (.aload_n 0, 1) := by decide +kernel
theorem dX2_isFoundByTwo_111 : decode cX2_isFoundByTwo 111 = .ok (.iconst 0, 1) := by decide +kernel
theorem dX2_isFoundByTwo_112 : decode cX2_isFoundByTwo 112 = .ok (.iload_n 2, 1) := by decide +kernel
theorem dX2_isFoundByTwo_113 : decode cX2_isFoundByTwo 113 = .ok (.invokevirtual 141, 3) := by decide +kernel
theorem dX2_isFoundByTwo_116 : decode cX2_isFoundByTwo 116 = .ok (.aload_n 0, 1) := by decide +kernel
theorem dX2_isFoundByTwo_117 : decode cX2_isFoundByTwo 117 = .ok (.iconst 2, 1) := by decide +kernel
theorem dX2_isFoundByTwo_118 : decode cX2_isFoundByTwo 118 = .ok (.iload 4, 2) := by decide +kernel
theorem dX2_isFoundByTwo_120 : decode cX2_isFoundByTwo 120 = .ok (.invokevirtual 141, 3) := by decide +kernel
theorem dX2_isFoundByTwo_123 : decode cX2_isFoundByTwo 123 = .ok (.aload_n 0, 1) := by decide +kernel
theorem dX2_isFoundByTwo_124 : decode cX2_isFoundByTwo 124 = .ok (.iconst 2, 1) := by decide +kernel
theorem dX2_isFoundByTwo_125 : decode cX2_isFoundByTwo 125 = .ok (.putfield 46, 3) := by decide +kernel
theorem dX2_isFoundByTwo_128 : decode cX2_isFoundByTwo 128 = .ok (.iconst 1, 1) := by decide +kernel
theorem dX2_isFoundByTwo_129 : decode cX2_isFoundByTwo 129 = .ok (.ireturn, 1) := by decide +kernel
theorem dX2_isFoundByTwo_130 : decode cX2_isFoundByTwo 130 = .ok (.iinc 5 1, 3) := by decide +kernel
theorem dX2_isFoundByTwo_133 : decode cX2_isFoundByTwo 133 = .ok (.goto (-67), 3) := by decide +kernel
theorem dX2_isFoundByTwo_136 : decode cX2_isFoundByTwo 136 = .ok (.aload_n 0, 1) := by decide +kernel
theorem dX2_isFoundByTwo_137 : decode cX2_isFoundByTwo 137 = .ok (.getfield 22, 3) := by decide +kernel
theorem dX2_isFoundByTwo_140 : decode cX2_isFoundByTwo 140 = .ok (.iload 4, 2) := by decide +kernel
theorem dX2_isFoundByTwo_142 : decode cX2_isFoundByTwo 142 = .ok (.aload_n 0, 1) := by decide +kernel
theorem dX2_isFoundByTwo_143 : decode cX2_isFoundByTwo 143 = .ok (.getfield 25, 3) := by decide +kernel
theorem dX2_isFoundByTwo_146 : decode cX2_isFoundByTwo 146 = .ok (.getfield 54, 3) := by decide +kernel
theorem dX2_isFoundByTwo_149 : decode cX2_isFoundByTwo 149 = .ok (.iload 4, 2) := by decide +kernel
theorem dX2_isFoundByTwo_151 : decode cX2_isFoundByTwo 151 = .ok (.iaload, 1) := by decide +kernel
theorem dX2_isFoundByTwo_152 : decode cX2_isFoundByTwo 152 = .ok (.iastore, 1) := by decide +kernel
theorem dX2_isFoundByTwo_153 : decode cX2_isFoundByTwo 153 = .ok (.iinc 4 1, 3) := by decide +kernel
theorem dX2_isFoundByTwo_156 : decode cX2_isFoundByTwo 156 = .ok (.goto (-118), 3) := by decide +kernel
theorem dX2_isFoundByTwo_159 : decode cX2_isFoundByTwo 159 = .ok (.iinc 3 1, 3) := by decide +kernel
theorem dX2_isFoundByTwo_162 : decode cX2_isFoundByTwo 162 = .ok (.goto (-147), 3) := by decide +kernel
theorem dX2_isFoundByTwo_165 : decode cX2_isFoundByTwo 165 = .ok (.aload_n 0, 1) := by decide +kernel
theorem dX2_isFoundByTwo_166 : decode cX2_isFoundByTwo 166 = .ok (.getfield 22, 3) := by decide +kernel
theorem dX2_isFoundByTwo_169 : decode cX2_isFoundByTwo 169 = .ok (.iload_n 2, 1) := by decide +kernel
theorem dX2_isFoundByTwo_170 : decode cX2_isFoundByTwo 170 = .ok (.aload_n 0, 1) := by decide +kernel
theorem dX2_isFoundByTwo_171 : decode cX2_isFoundByTwo 171 = .ok (.getfield 25, 3) := by decide +kernel
theorem dX2_isFoundByTwo_174 : decode cX2_isFoundByTwo 174 = .ok (.getfield 54, 3) := by decide +kernel
theorem dX2_isFoundByTwo_177 : decode cX2_isFoundByTwo 177 = .ok (.iload_n 2, 1) := by decide +kernel
theorem dX2_isFoundByTwo_178 : decode cX2_isFoundByTwo 178 = .ok (.iaload, 1) := by decide +kernel
theorem dX2_isFoundByTwo_179 : decode cX2_isFoundByTwo 179 = .ok (.iastore, 1) := by decide +kernel
theorem dX2_isFoundByTwo_180 : decode cX2_isFoundByTwo 180 = .ok (.iinc 2 1, 3) := by decide +kernel
theorem dX2_isFoundByTwo_183 : decode cX2_isFoundByTwo 183 = .ok (.goto (-181), 3) := by decide +kernel
theorem dX2_isFoundByTwo_186 : decode cX2_isFoundByTwo 186 = .ok (.iconst 0, 1) := by decide +kernel
theorem dX2_isFoundByTwo_187 : decode cX2_isFoundByTwo 187 = .ok (.ireturn, 1) := by decide +kernel
theorem dX2_putDown_0 : decode cX2_putDown 0 = .ok (.aload_n 0, 1) := by decide +kernel
theorem dX2_putDown_1 : decode cX2_putDown 1 = .ok (.getfield 11, 3) := by decide +kernel
theorem dX2_putDown_4 : decode cX2_putDown 4 = .ok (.iload_n 1, 1) := by decide +kernel
theorem dX2_putDown_5 : decode cX2_putDown 5 = .ok (.iload_n 2, 1) := by decide +kernel
theorem dX2_putDown_6 : decode cX2_putDown 6 = .ok (.iastore, 1) := by decide +kernel
theorem dX2_putDown_7 : decode cX2_putDown 7 = .ok (.aload_n 0, 1) := by decide +kernel
theorem dX2_putDown_8 : decode cX2_putDown 8 = .ok (.getfield 11, 3) := by decide +kernel
theorem dX2_putDown_11 : decode cX2_putDown 11 = .ok (.iload_n 1, 1) := by decide +kernel
theorem dX2_putDown_12 : decode cX2_putDown 12 = .ok (.iconst 1, 1) := by decide +kernel
theorem dX2_putDown_13 : decode cX2_putDown 13 = .ok (.iadd, 1) := by decide +kernel
theorem dX2_putDown_14 : decode cX2_putDown 14 = .ok (.aload_n 0, 1) := by decide +kernel
theorem dX2_putDown_15 : decode cX2_putDown 15 = .ok (.getfield 22, 3) := by decide +kernel
theorem dX2_putDown_18 : decode cX2_putDown 18 = .ok (.iload_n 2, 1) := by decide +kernel
theorem dX2_putDown_19 : decode cX2_putDown 19 = .ok (.iaload, 1) := by decide +kernel
theorem dX2_putDown_20 : decode cX2_putDown 20 = .ok (.iastore, 1) := by decide +kernel
theorem dX2_putDown_21 : decode cX2_putDown 21 = .ok (.return_, 1) := by decide +kernel
set_option maxRecDepth 20000 in
theorem ggX3_init_X4_init : GoodIn wsX3_init wsX4_init := goodIn_r _ [12, 13, 2, 3, 14, 15, 16, 17, 18, 19, 20, 21] (by decide +kernel) (by decide +kernel)
set_option maxRecDepth 20000 in
theorem gX3_init_X4_init : GoodIn wsX3_init (wsX4_init) := ggX3_init_X4_init
theorem dX3_init_0 : decode cX3_init 0 = .ok (.aload_n 0, 1) := by decide +kernel
theorem dX3_init_1 : decode cX3_init 1 = .ok (.invokespecial 3, 3) := by decide +kernel
theorem dX3_init_4 : decode cX3_init 4 = .ok (.aload_n 0, 1) := by decide +kernel
theorem dX3_init_5 : decode cX3_init 5 = .ok (.new 9, 3) := by decide +kernel
theorem dX3_init_8 : decode cX3_init 8 = .ok (.dup, 1) := by decide +kernel
theorem dX3_init_9 : decode cX3_init 9 = .ok (.bipush 50, 2) := by decide +kernel
theorem dX3_init_11 : decode cX3_init 11 = .ok (.invokespecial 11, 3) := by decide +kernel
theorem dX3_init_14 : decode cX3_init 14 = .ok (.putfield 14, 3) := by decide +kernel
theorem dX3_init_17 : decode cX3_init 17 = .ok (.aload_n 0, 1) := by decide +kernel
theorem dX3_init_18 : decode cX3_init 18 = .ok (.new 9, 3) := by decide +kernel
theorem dX3_init_21 : decode cX3_init 21 = .ok (.dup, 1) := by decide +kernel
theorem dX3_init_22 : decode cX3_init 22 = .ok (.bipush 50, 2) := by decide +kernel
theorem dX3_init_24 : decode cX3_init 24 = .ok (.invokespecial 11, 3) := by decide +kernel
theorem dX3_init_27 : decode cX3_init 27 = .ok (.putfield 20, 3) := by decide +kernel
theorem dX3_init_30 : decode cX3_init 30 = .ok (.aload_n 0, 1) := by decide +kernel
theorem dX3_init_31 : decode cX3_init 31 = .ok (.ldc 23, 2) := by decide +kernel
theorem dX3_init_33 : decode cX3_init 33 = .ok (.putfield 25, 3) := by decide +kernel
theorem dX3_init_36 : decode cX3_init 36 = .ok (.return_, 1) := by decide +kernel
set_option maxRecDepth 20000 in
theorem ggX3_faultOf_X4_clear : GoodIn wsX3_faultOf wsX4_clear := goodIn_r _ [12, 13, 169, 170] (by decide +kernel) (by decide +kernel)
set_option maxRecDepth 20000 in
theorem gX3_faultOf_X4_clear : GoodIn wsX3_faultOf (wsV RX3 29 RX4 yX4_clear wsX4_clear) := goodIn_app (goodIn_of _ (by decide +kernel)) ggX3_faultOf_X4_clear
set_option maxRecDepth 20000 in
theorem ggX3_faultOf_X4_get : GoodIn wsX3_faultOf wsX4_get := goodIn_r _ [17, 13, 18, 169, 170] (by decide +kernel) (by decide +kernel)
set_option maxRecDepth 20000 in
theorem gX3_faultOf_X4_get : GoodIn wsX3_faultOf (wsV RX3 46 RX4 yX4_get wsX4_get) := goodIn_app (goodIn_of _ (by decide +kernel)) ggX3_faultOf_X4_get
set_option maxRecDepth 20000 in
theorem ggX3_faultOf_X3_goesOn : GoodIn wsX3_faultOf wsX3_goesOn := goodIn_r _ [23, 6, 24, 25, 26, 22, 27, 5, 28, 29, 30, 31, 32, 33, 34, 35, 36, 2, 37, 38, 39, 11, 40, 13, 18, 41, 42, 43, 44, 3, 7, 4, 45, 46, 47, 48, 49, 50, 51, 52, 53, 54, 55, 56, 57, 1, 58, 59, 60, 61, 62, 63, 64, 65, 66, 67, 68, 69, 70, 71, 72, 73, 74, 75, 76, 77, 78, 79, 80, 81, 82, 83, 84, 85, 86, 87, 88, 89, 90, 91, 92, 93, 94, 95, 96, 97, 98, 99, 100, 101, 102, 103, 104, 105, 106, 107, 108, 109, 110, 111, 112, 113, 114, 115, 116, 117, 118, 119, 120, 121, 122, 123, 124, 125, 126, 127, 128, 129, 130, 131, 132, 133, 134, 135, 136, 137, 138, 139, 140, 141, 142, 143, 144, 145, 146, 147, 148, 149, 150, 151, 152, 153, 154, 155, 156, 157, 158, 159, 160, 161, 162, 163, 164, 165, 166, 167, 168, 169, 170] (by decide +kernel) (by decide +kernel)
set_option maxRecDepth 20000 in
theorem gX3_faultOf_X3_goesOn : GoodIn wsX3_faultOf (wsV RX3 50 RX3 yX3_goesOn wsX3_goesOn) := goodIn_app (goodIn_of _ (by decide +kernel)) ggX3_faultOf_X3_goesOn
set_option maxRecDepth 20000 in
theorem ggX3_faultOf_X3_endNumber : GoodIn wsX3_faultOf wsX3_endNumber := goodIn_r _ [32, 5, 28, 33, 34, 35, 22, 36, 2, 6, 37, 38, 39, 11, 40, 13, 18, 41, 42, 43, 44, 3, 7, 4, 45, 46, 47, 48, 49, 50, 51, 52, 53, 162, 163, 164, 165, 166, 167, 168, 169, 170] (by decide +kernel) (by decide +kernel)
set_option maxRecDepth 20000 in
theorem gX3_faultOf_X3_endNumber : GoodIn wsX3_faultOf (wsV RX3 54 RX3 yX3_endNumber wsX3_endNumber) := goodIn_app (goodIn_of _ (by decide +kernel)) ggX3_faultOf_X3_endNumber
set_option maxRecDepth 20000 in
theorem ggX3_faultOf_X3_putDownFrom : GoodIn wsX3_faultOf wsX3_putDownFrom := goodIn_r _ [158, 3, 7, 2, 45, 46, 47, 11, 48, 13, 18, 159, 160, 22, 161, 49, 50, 51, 52, 53, 37, 38, 39, 40, 162, 163, 164, 165, 166, 167, 168, 169, 170] (by decide +kernel) (by decide +kernel)
set_option maxRecDepth 20000 in
theorem gX3_faultOf_X3_putDownFrom : GoodIn wsX3_faultOf (wsV RX3 57 RX3 yX3_putDownFrom wsX3_putDownFrom) := goodIn_app (goodIn_of _ (by decide +kernel)) ggX3_faultOf_X3_putDownFrom
theorem dX3_faultOf_0 : decode cX3_faultOf 0 = .ok (.aload_n 0, 1) := by decide +kernel
theorem dX3_faultOf_1 : decode cX3_faultOf 1 = .ok (.aload_n 2, 1) := by decide +kernel
theorem dX3_faultOf_2 : decode cX3_faultOf 2 = .ok (.putfield 25, 3) := by decide +kernel
theorem dX3_faultOf_5 : decode cX3_faultOf 5 = .ok (.aload_n 0, 1) := by decide +kernel
theorem dX3_faultOf_6 : decode cX3_faultOf 6 = .ok (.getfield 14, 3) := by decide +kernel
theorem dX3_faultOf_9 : decode cX3_faultOf 9 = .ok (.invokevirtual 29, 3) := by decide +kernel
theorem dX3_faultOf_12 : decode cX3_faultOf 12 = .ok (.aload_n 0, 1) := by decide +kernel
theorem dX3_faultOf_13 : decode cX3_faultOf 13 = .ok (.getfield 20, 3) := by decide +kernel
theorem dX3_faultOf_16 : decode cX3_faultOf 16 = .ok (.invokevirtual 29, 3) := by decide +kernel
theorem dX3_faultOf_19 : decode cX3_faultOf 19 = .ok (.aload_n 0, 1) := by decide +kernel
theorem dX3_faultOf_20 : decode cX3_faultOf 20 = .ok (.iconst 0, 1) := by decide +kernel
theorem dX3_faultOf_21 : decode cX3_faultOf 21 = .ok (.putfield 32, 3) := by decide +kernel
theorem dX3_faultOf_24 : decode cX3_faultOf 24 = .ok (.aload_n 0, 1) := by decide +kernel
theorem dX3_faultOf_25 : decode cX3_faultOf 25 = .ok (.iconst 0, 1) := by decide +kernel
theorem dX3_faultOf_26 : decode cX3_faultOf 26 = .ok (.putfield 36, 3) := by decide +kernel
theorem dX3_faultOf_29 : decode cX3_faultOf 29 = .ok (.aload_n 0, 1) := by decide +kernel
theorem dX3_faultOf_30 : decode cX3_faultOf 30 = .ok (.iconst 1, 1) := by decide +kernel
theorem dX3_faultOf_31 : decode cX3_faultOf 31 = .ok (.putfield 39, 3) := by decide +kernel
theorem dX3_faultOf_34 : decode cX3_faultOf 34 = .ok (.iconst 0, 1) := by decide +kernel
theorem dX3_faultOf_35 : decode cX3_faultOf 35 = .ok (.istore_n 3, 1) := by decide +kernel
theorem dX3_faultOf_36 : decode cX3_faultOf 36 = .ok (.iload_n 3, 1) := by decide +kernel
theorem dX3_faultOf_37 : decode cX3_faultOf 37 = .ok (.aload_n 1, 1) := by decide +kernel
theorem dX3_faultOf_38 : decode cX3_faultOf 38 = .ok (.getfield 43, 3) := by decide +kernel
theorem dX3_faultOf_41 : decode cX3_faultOf 41 = .ok (.if_icmp .ge 23, 3) := by decide +kernel
theorem dX3_faultOf_44 : decode cX3_faultOf 44 = .ok (.aload_n 0, 1) := by decide +kernel
theorem dX3_faultOf_45 : decode cX3_faultOf 45 = .ok (.aload_n 1, 1) := by decide +kernel
theorem dX3_faultOf_46 : decode cX3_faultOf 46 = .ok (.iload_n 3, 1) := by decide +kernel
theorem dX3_faultOf_47 : decode cX3_faultOf 47 = .ok (.invokevirtual 46, 3) := by decide +kernel
theorem dX3_faultOf_50 : decode cX3_faultOf 50 = .ok (.invokevirtual 50, 3) := by decide +kernel
theorem dX3_faultOf_53 : decode cX3_faultOf 53 = .ok (.ifCond .ne 5, 3) := by decide +kernel
theorem dX3_faultOf_56 : decode cX3_faultOf 56 = .ok (.iload_n 3, 1) := by decide +kernel
theorem dX3_faultOf_57 : decode cX3_faultOf 57 = .ok (.ireturn, 1) := by decide +kernel
theorem dX3_faultOf_58 : decode cX3_faultOf 58 = .ok (.iinc 3 1, 3) := by decide +kernel
theorem dX3_faultOf_61 : decode cX3_faultOf 61 = .ok (.goto (-25), 3) := by decide +kernel
theorem dX3_faultOf_64 : decode cX3_faultOf 64 = .ok (.aload_n 0, 1) := by decide +kernel
theorem dX3_faultOf_65 : decode cX3_faultOf 65 = .ok (.invokevirtual 54, 3) := by decide +kernel
theorem dX3_faultOf_68 : decode cX3_faultOf 68 = .ok (.aload_n 0, 1) := by decide +kernel
theorem dX3_faultOf_69 : decode cX3_faultOf 69 = .ok (.getfield 39, 3) := by decide +kernel
theorem dX3_faultOf_72 : decode cX3_faultOf 72 = .ok (.ifCond .ne 10, 3) := by decide +kernel
theorem dX3_faultOf_75 : decode cX3_faultOf 75 = .ok (.aload_n 0, 1) := by decide +kernel
theorem dX3_faultOf_76 : decode cX3_faultOf 76 = .ok (.getfield 32, 3) := by decide +kernel
theorem dX3_faultOf_79 : decode cX3_faultOf 79 = .ok (.ifCond .le 8, 3) := by decide +kernel
theorem dX3_faultOf_82 : decode cX3_faultOf 82 = .ok (.aload_n 1, 1) := by decide +kernel
theorem dX3_faultOf_83 : decode cX3_faultOf 83 = .ok (.getfield 43, 3) := by decide +kernel
theorem dX3_faultOf_86 : decode cX3_faultOf 86 = .ok (.ireturn, 1) := by decide +kernel
theorem dX3_faultOf_87 : decode cX3_faultOf 87 = .ok (.aload_n 0, 1) := by decide +kernel
theorem dX3_faultOf_88 : decode cX3_faultOf 88 = .ok (.iconst 1, 1) := by decide +kernel
theorem dX3_faultOf_89 : decode cX3_faultOf 89 = .ok (.invokevirtual 57, 3) := by decide +kernel
theorem dX3_faultOf_92 : decode cX3_faultOf 92 = .ok (.iconst (-1), 1) := by decide +kernel
theorem dX3_faultOf_93 : decode cX3_faultOf 93 = .ok (.ireturn, 1) := by decide +kernel
set_option maxRecDepth 20000 in
theorem ggX3_textRead_X6_init : GoodIn wsX3_textRead wsX6_init := goodIn_r _ [7, 8, 9, 10, 11, 12, 13, 14, 15, 16, 17, 18, 19, 20, 21, 22, 23, 24, 25, 26, 27, 28, 29, 30, 31, 32, 33, 43, 44, 34, 35] (by decide +kernel) (by decide +kernel)
set_option maxRecDepth 20000 in
theorem gX3_textRead_X6_init : GoodIn wsX3_textRead (wsX6_init) := ggX3_textRead_X6_init
theorem dX3_textRead_0 : decode cX3_textRead 0 = .ok (.new 60, 3) := by decide +kernel
theorem dX3_textRead_3 : decode cX3_textRead 3 = .ok (.dup, 1) := by decide +kernel
theorem dX3_textRead_4 : decode cX3_textRead 4 = .ok (.aload_n 0, 1) := by decide +kernel
theorem dX3_textRead_5 : decode cX3_textRead 5 = .ok (.getfield 14, 3) := by decide +kernel
theorem dX3_textRead_8 : decode cX3_textRead 8 = .ok (.invokespecial 62, 3) := by decide +kernel
theorem dX3_textRead_11 : decode cX3_textRead 11 = .ok (.areturn, 1) := by decide +kernel
set_option maxRecDepth 20000 in
theorem ggX3_goesOn_X3_takeDigit : GoodIn wsX3_goesOn wsX3_takeDigit := goodIn_r _ [6, 7, 8, 1, 150, 151, 152, 153, 154, 155, 156] (by decide +kernel) (by decide +kernel)
set_option maxRecDepth 20000 in
theorem gX3_goesOn_X3_takeDigit : GoodIn wsX3_goesOn (wsV RX3 65 RX3 yX3_takeDigit wsX3_takeDigit) := goodIn_app (goodIn_of _ (by decide +kernel)) ggX3_goesOn_X3_takeDigit
set_option maxRecDepth 20000 in
theorem ggX3_goesOn_X3_endNumber : GoodIn wsX3_goesOn wsX3_endNumber := goodIn_r _ [12, 7, 8, 13, 14, 15, 5, 16, 17, 1, 18, 19, 20, 21, 22, 23, 24, 25, 26, 27, 28, 29, 30, 31, 32, 33, 34, 35, 36, 37, 38, 39, 40, 150, 151, 152, 153, 154, 155, 156, 157, 158] (by decide +kernel) (by decide +kernel)
set_option maxRecDepth 20000 in
theorem gX3_goesOn_X3_endNumber : GoodIn wsX3_goesOn (wsV RX3 54 RX3 yX3_endNumber wsX3_endNumber) := goodIn_app (goodIn_of _ (by decide +kernel)) ggX3_goesOn_X3_endNumber
set_option maxRecDepth 20000 in
theorem ggX3_goesOn_X3_takeTerm : GoodIn wsX3_goesOn wsX3_takeTerm := goodIn_r _ [44, 31, 29, 45, 18, 19, 20, 21, 22, 23, 24, 46, 47, 48, 49, 50, 51, 52, 53, 54, 55, 56, 57, 58, 59, 60, 61, 62, 63, 64, 65, 66, 67, 68, 69, 70, 71, 72, 73, 74, 75, 76, 77, 78, 79, 80, 81, 82, 83, 84, 85, 86, 87, 88, 89, 90, 91, 92, 93, 94, 95, 96, 97, 98, 99, 100, 101, 102, 103, 104, 105, 106, 107, 108, 109, 110, 111, 112, 113, 114, 115, 116, 117, 118, 119, 120, 121, 122, 123, 124, 125, 126, 127, 128, 129, 130, 131, 132, 133, 134, 13, 14, 15, 5, 16, 17, 1, 25, 26, 27, 28, 30, 32, 33, 34, 35, 36, 37, 38, 39, 40, 150, 151, 152, 153, 154, 155, 156, 157, 158] (by decide +kernel) (by decide +kernel)
set_option maxRecDepth 20000 in
theorem gX3_goesOn_X3_takeTerm : GoodIn wsX3_goesOn (wsV RX3 68 RX3 yX3_takeTerm wsX3_takeTerm) := goodIn_app (goodIn_of _ (by decide +kernel)) ggX3_goesOn_X3_takeTerm
set_option maxRecDepth 20000 in
theorem ggX3_goesOn_X3_takeSign : GoodIn wsX3_goesOn wsX3_takeSign := goodIn_r _ [138, 29, 1, 139, 140, 141, 5, 142, 31, 143, 144, 145, 146, 30, 17, 32, 33, 34, 21, 35, 23, 24, 147, 148, 149, 36, 37, 38, 39, 40, 18, 19, 20, 22, 25, 26, 27, 28, 150, 151, 152, 153, 154, 155, 156, 157, 158] (by decide +kernel) (by decide +kernel)
set_option maxRecDepth 20000 in
theorem gX3_goesOn_X3_takeSign : GoodIn wsX3_goesOn (wsV RX3 71 RX3 yX3_takeSign wsX3_takeSign) := goodIn_app (goodIn_of _ (by decide +kernel)) ggX3_goesOn_X3_takeSign
theorem dX3_goesOn_0 : decode cX3_goesOn 0 = .ok (.iload_n 1, 1) := by decide +kernel
theorem dX3_goesOn_1 : decode cX3_goesOn 1 = .ok (.bipush 48, 2) := by decide +kernel
theorem dX3_goesOn_3 : decode cX3_goesOn 3 = .ok (.if_icmp .lt 18, 3) := by decide +kernel
theorem dX3_goesOn_6 : decode cX3_goesOn 6 = .ok (.iload_n 1, 1) := by decide +kernel
theorem dX3_goesOn_7 : decode cX3_goesOn 7 = .ok (.bipush 57, 2) := by decide +kernel
theorem dX3_goesOn_9 : decode cX3_goesOn 9 = .ok (.if_icmp .gt 12, 3) := by decide +kernel
theorem dX3_goesOn_12 : decode cX3_goesOn 12 = .ok (.aload_n 0, 1) := by decide +kernel
theorem dX3_goesOn_13 : decode cX3_goesOn 13 = .ok (.iload_n 1, 1) := by decide +kernel
theorem dX3_goesOn_14 : decode cX3_goesOn 14 = .ok (.bipush 48, 2) := by decide +kernel
theorem dX3_goesOn_16 : decode cX3_goesOn 16 = .ok (.isub, 1) := by decide +kernel
theorem dX3_goesOn_17 : decode cX3_goesOn 17 = .ok (.invokevirtual 65, 3) := by decide +kernel
theorem dX3_goesOn_20 : decode cX3_goesOn 20 = .ok (.ireturn, 1) := by decide +kernel
theorem dX3_goesOn_21 : decode cX3_goesOn 21 = .ok (.aload_n 0, 1) := by decide +kernel
theorem dX3_goesOn_22 : decode cX3_goesOn 22 = .ok (.invokevirtual 54, 3) := by decide +kernel
theorem dX3_goesOn_25 : decode cX3_goesOn 25 = .ok (.aload_n 0, 1) := by decide +kernel
theorem dX3_goesOn_26 : decode cX3_goesOn 26 = .ok (.getfield 39, 3) := by decide +kernel
theorem dX3_goesOn_29 : decode cX3_goesOn 29 = .ok (.ifCond .eq 11, 3) := by decide +kernel
theorem dX3_goesOn_32 : decode cX3_goesOn 32 = .ok (.aload_n 0, 1) := by decide +kernel
theorem dX3_goesOn_33 : decode cX3_goesOn 33 = .ok (.iload_n 1, 1) := by decide +kernel
theorem dX3_goesOn_34 : decode cX3_goesOn 34 = .ok (.invokevirtual 68, 3) := by decide +kernel
theorem dX3_goesOn_37 : decode cX3_goesOn 37 = .ok (.goto 8, 3) := by decide +kernel
theorem dX3_goesOn_40 : decode cX3_goesOn 40 = .ok (.aload_n 0, 1) := by decide +kernel
theorem dX3_goesOn_41 : decode cX3_goesOn 41 = .ok (.iload_n 1, 1) := by decide +kernel
theorem dX3_goesOn_42 : decode cX3_goesOn 42 = .ok (.invokevirtual 71, 3) := by decide +kernel
theorem dX3_goesOn_45 : decode cX3_goesOn 45 = .ok (.ireturn, 1) := by decide +kernel
theorem dX3_takeDigit_0 : decode cX3_takeDigit 0 = .ok (.aload_n 0, 1) := by decide +kernel
theorem dX3_takeDigit_1 : decode cX3_takeDigit 1 = .ok (.getfield 36, 3) := by decide +kernel
theorem dX3_takeDigit_4 : decode cX3_takeDigit 4 = .ok (.ifCond .le 36, 3) := by decide +kernel
theorem dX3_takeDigit_7 : decode cX3_takeDigit 7 = .ok (.aload_n 0, 1) := by decide +kernel
theorem dX3_takeDigit_8 : decode cX3_takeDigit 8 = .ok (.getfield 36, 3) := by decide +kernel
theorem dX3_takeDigit_11 : decode cX3_takeDigit 11 = .ok (.iconst 4, 1) := by decide +kernel
theorem dX3_takeDigit_12 : decode cX3_takeDigit 12 = .ok (.if_icmp .ge 28, 3) := by decide +kernel
theorem dX3_takeDigit_15 : decode cX3_takeDigit 15 = .ok (.aload_n 0, 1) := by decide +kernel
theorem dX3_takeDigit_16 : decode cX3_takeDigit 16 = .ok (.aload_n 0, 1) := by decide +kernel
theorem dX3_takeDigit_17 : decode cX3_takeDigit 17 = .ok (.getfield 74, 3) := by decide +kernel
theorem dX3_takeDigit_20 : decode cX3_takeDigit 20 = .ok (.bipush 10, 2) := by decide +kernel
theorem dX3_takeDigit_22 : decode cX3_takeDigit 22 = .ok (.imul, 1) := by decide +kernel
theorem dX3_takeDigit_23 : decode cX3_takeDigit 23 = .ok (.iload_n 1, 1) := by decide +kernel
theorem dX3_takeDigit_24 : decode cX3_takeDigit 24 = .ok (.iadd, 1) := by decide +kernel
theorem dX3_takeDigit_25 : decode cX3_takeDigit 25 = .ok (.putfield 74, 3) := by decide +kernel
theorem dX3_takeDigit_28 : decode cX3_takeDigit 28 = .ok (.aload_n 0, 1) := by decide +kernel
theorem dX3_takeDigit_29 : decode cX3_takeDigit 29 = .ok (.dup, 1) := by decide +kernel
theorem dX3_takeDigit_30 : decode cX3_takeDigit 30 = .ok (.getfield 36, 3) := by decide +kernel
theorem dX3_takeDigit_33 : decode cX3_takeDigit 33 = .ok (.iconst 1, 1) := by decide +kernel
theorem dX3_takeDigit_34 : decode cX3_takeDigit 34 = .ok (.iadd, 1) := by decide +kernel
theorem dX3_takeDigit_35 : decode cX3_takeDigit 35 = .ok (.putfield 36, 3) := by decide +kernel
theorem dX3_takeDigit_38 : decode cX3_takeDigit 38 = .ok (.iconst 1, 1) := by decide +kernel
theorem dX3_takeDigit_39 : decode cX3_takeDigit 39 = .ok (.ireturn, 1) := by decide +kernel
theorem dX3_takeDigit_40 : decode cX3_takeDigit 40 = .ok (.aload_n 0, 1) := by decide +kernel
theorem dX3_takeDigit_41 : decode cX3_takeDigit 41 = .ok (.getfield 39, 3) := by decide +kernel
theorem dX3_takeDigit_44 : decode cX3_takeDigit 44 = .ok (.ifCond .ne 5, 3) := by decide +kernel
theorem dX3_takeDigit_47 : decode cX3_takeDigit 47 = .ok (.iconst 0, 1) := by decide +kernel
theorem dX3_takeDigit_48 : decode cX3_takeDigit 48 = .ok (.ireturn, 1) := by decide +kernel
theorem dX3_takeDigit_49 : decode cX3_takeDigit 49 = .ok (.aload_n 0, 1) := by decide +kernel
theorem dX3_takeDigit_50 : decode cX3_takeDigit 50 = .ok (.iload_n 1, 1) := by decide +kernel
theorem dX3_takeDigit_51 : decode cX3_takeDigit 51 = .ok (.putfield 74, 3) := by decide +kernel
theorem dX3_takeDigit_54 : decode cX3_takeDigit 54 = .ok (.aload_n 0, 1) := by decide +kernel
theorem dX3_takeDigit_55 : decode cX3_takeDigit 55 = .ok (.iconst 1, 1) := by decide +kernel
theorem dX3_takeDigit_56 : decode cX3_takeDigit 56 = .ok (.putfield 36, 3) := by decide +kernel
theorem dX3_takeDigit_59 : decode cX3_takeDigit 59 = .ok (.aload_n 0, 1) := by decide +kernel
theorem dX3_takeDigit_60 : decode cX3_takeDigit 60 = .ok (.iconst 0, 1) := by decide +kernel
theorem dX3_takeDigit_61 : decode cX3_takeDigit 61 = .ok (.putfield 39, 3) := by decide +kernel
theorem dX3_takeDigit_64 : decode cX3_takeDigit 64 = .ok (.iconst 1, 1) := by decide +kernel
theorem dX3_takeDigit_65 : decode cX3_takeDigit 65 = .ok (.ireturn, 1) := by decide +kernel
set_option maxRecDepth 20000 in
theorem ggX3_endNumber_X3_endTerm : GoodIn wsX3_endNumber wsX3_endTerm := goodIn_r _ [7, 8, 9, 10, 11, 12, 13, 14, 15, 16, 17, 18, 19, 6, 20, 21, 22, 23, 24, 25, 26, 27, 28, 29, 30, 31, 32, 33, 34, 35, 36, 37, 38, 39, 40, 41] (by decide +kernel) (by decide +kernel)
set_option maxRecDepth 20000 in
theorem gX3_endNumber_X3_endTerm : GoodIn wsX3_endNumber (wsV RX3 77 RX3 yX3_endTerm wsX3_endTerm) := goodIn_app (goodIn_of _ (by decide +kernel)) ggX3_endNumber_X3_endTerm
theorem dX3_endNumber_0 : decode cX3_endNumber 0 = .ok (.aload_n 0, 1) := by decide +kernel
theorem dX3_endNumber_1 : decode cX3_endNumber 1 = .ok (.getfield 36, 3) := by decide +kernel
theorem dX3_endNumber_4 : decode cX3_endNumber 4 = .ok (.ifCond .le 16, 3) := by decide +kernel
theorem dX3_endNumber_7 : decode cX3_endNumber 7 = .ok (.aload_n 0, 1) := by decide +kernel
theorem dX3_endNumber_8 : decode cX3_endNumber 8 = .ok (.iconst 0, 1) := by decide +kernel
theorem dX3_endNumber_9 : decode cX3_endNumber 9 = .ok (.putfield 36, 3) := by decide +kernel
theorem dX3_endNumber_12 : decode cX3_endNumber 12 = .ok (.aload_n 0, 1) := by decide +kernel
theorem dX3_endNumber_13 : decode cX3_endNumber 13 = .ok (.aload_n 0, 1) := by decide +kernel
theorem dX3_endNumber_14 : decode cX3_endNumber 14 = .ok (.getfield 74, 3) := by decide +kernel
theorem dX3_endNumber_17 : decode cX3_endNumber 17 = .ok (.invokevirtual 77, 3) := by decide +kernel
theorem dX3_endNumber_20 : decode cX3_endNumber 20 = .ok (.return_, 1) := by decide +kernel
set_option maxRecDepth 20000 in
theorem ggX3_endTerm_X4_add : GoodIn wsX3_endTerm wsX4_add := goodIn_r _ [7, 8, 9, 34, 35] (by decide +kernel) (by decide +kernel)
set_option maxRecDepth 20000 in
theorem gX3_endTerm_X4_add : GoodIn wsX3_endTerm (wsV RX3 80 RX4 yX4_add wsX4_add) := goodIn_app (goodIn_of _ (by decide +kernel)) ggX3_endTerm_X4_add
set_option maxRecDepth 20000 in
theorem ggX3_endTerm_X3_closeNots : GoodIn wsX3_endTerm wsX3_closeNots := goodIn_r _ [14, 15, 16, 1, 17, 18, 19, 20, 6, 21, 8, 9, 22, 23, 24, 25, 26, 3, 4, 5, 7, 27, 28, 29, 30, 31, 32, 33, 34, 35] (by decide +kernel) (by decide +kernel)
set_option maxRecDepth 20000 in
theorem gX3_endTerm_X3_closeNots : GoodIn wsX3_endTerm (wsV RX3 83 RX3 yX3_closeNots wsX3_closeNots) := goodIn_app (goodIn_of _ (by decide +kernel)) ggX3_endTerm_X3_closeNots
theorem dX3_endTerm_0 : decode cX3_endTerm 0 = .ok (.aload_n 0, 1) := by decide +kernel
theorem dX3_endTerm_1 : decode cX3_endTerm 1 = .ok (.getfield 14, 3) := by decide +kernel
theorem dX3_endTerm_4 : decode cX3_endTerm 4 = .ok (.iload_n 1, 1) := by decide +kernel
theorem dX3_endTerm_5 : decode cX3_endTerm 5 = .ok (.invokevirtual 80, 3) := by decide +kernel
theorem dX3_endTerm_8 : decode cX3_endTerm 8 = .ok (.aload_n 0, 1) := by decide +kernel
theorem dX3_endTerm_9 : decode cX3_endTerm 9 = .ok (.iconst 0, 1) := by decide +kernel
theorem dX3_endTerm_10 : decode cX3_endTerm 10 = .ok (.putfield 39, 3) := by decide +kernel
theorem dX3_endTerm_13 : decode cX3_endTerm 13 = .ok (.aload_n 0, 1) := by decide +kernel
theorem dX3_endTerm_14 : decode cX3_endTerm 14 = .ok (.invokevirtual 83, 3) := by decide +kernel
theorem dX3_endTerm_17 : decode cX3_endTerm 17 = .ok (.return_, 1) := by decide +kernel
set_option maxRecDepth 20000 in
theorem ggX3_takeTerm_X4_add : GoodIn wsX3_takeTerm wsX4_add := goodIn_r _ [8, 9, 10, 128, 129] (by decide +kernel) (by decide +kernel)
set_option maxRecDepth 20000 in
theorem gX3_takeTerm_X4_add : GoodIn wsX3_takeTerm (wsV RX3 80 RX4 yX4_add wsX4_add) := goodIn_app (goodIn_of _ (by decide +kernel)) ggX3_takeTerm_X4_add
set_option maxRecDepth 20000 in
theorem ggX3_takeTerm_J0_indexOf_0f7a4 : GoodIn wsX3_takeTerm wsJ0_indexOf_0f7a4 := goodIn_r _ [15, 16, 17, 18, 14, 19, 20, 21, 22, 23, 24, 25, 26, 27, 28, 29, 30, 31, 32, 33, 34, 35, 36, 37, 38, 39, 40, 41, 42, 43, 44, 45, 46, 47, 48, 49, 50, 51, 52, 53, 54, 55, 56, 57, 58, 59, 60, 61, 62, 63, 64, 65, 66, 67, 68, 69, 70, 71, 72, 73, 74, 75, 76, 77, 78, 79, 80, 81, 82, 83, 84, 85, 86, 87, 88, 89, 90, 91, 92, 93, 94, 95, 96, 97, 98, 99] (by decide +kernel) (by decide +kernel)
set_option maxRecDepth 20000 in
theorem gX3_takeTerm_J0_indexOf_0f7a4 : GoodIn wsX3_takeTerm (wsV RX3 86 RJ0 yJ0_indexOf_0f7a4 wsJ0_indexOf_0f7a4) := goodIn_app (goodIn_of _ (by decide +kernel)) ggX3_takeTerm_J0_indexOf_0f7a4
set_option maxRecDepth 20000 in
theorem ggX3_takeTerm_X3_endTerm : GoodIn wsX3_takeTerm wsX3_endTerm := goodIn_r _ [104, 105, 106, 4, 5, 6, 7, 8, 9, 10, 107, 108, 109, 103, 110, 2, 111, 1, 112, 113, 114, 115, 116, 117, 118, 119, 120, 121, 122, 123, 124, 125, 126, 127, 128, 129] (by decide +kernel) (by decide +kernel)
set_option maxRecDepth 20000 in
theorem gX3_takeTerm_X3_endTerm : GoodIn wsX3_takeTerm (wsV RX3 77 RX3 yX3_endTerm wsX3_endTerm) := goodIn_app (goodIn_of _ (by decide +kernel)) ggX3_takeTerm_X3_endTerm
theorem dX3_takeTerm_0 : decode cX3_takeTerm 0 = .ok (.iload_n 1, 1) := by decide +kernel
theorem dX3_takeTerm_1 : decode cX3_takeTerm 1 = .ok (.bipush 33, 2) := by decide +kernel
theorem dX3_takeTerm_3 : decode cX3_takeTerm 3 = .ok (.if_icmp .eq 9, 3) := by decide +kernel
theorem dX3_takeTerm_6 : decode cX3_takeTerm 6 = .ok (.iload_n 1, 1) := by decide +kernel
theorem dX3_takeTerm_7 : decode cX3_takeTerm 7 = .ok (.bipush 40, 2) := by decide +kernel
theorem dX3_takeTerm_9 : decode cX3_takeTerm 9 = .ok (.if_icmp .ne 33, 3) := by decide +kernel
theorem dX3_takeTerm_12 : decode cX3_takeTerm 12 = .ok (.aload_n 0, 1) := by decide +kernel
theorem dX3_takeTerm_13 : decode cX3_takeTerm 13 = .ok (.getfield 32, 3) := by decide +kernel
theorem dX3_takeTerm_16 : decode cX3_takeTerm 16 = .ok (.iconst 5, 1) := by decide +kernel
theorem dX3_takeTerm_17 : decode cX3_takeTerm 17 = .ok (.if_icmp .lt 5, 3) := by decide +kernel
theorem dX3_takeTerm_20 : decode cX3_takeTerm 20 = .ok (.iconst 0, 1) := by decide +kernel
theorem dX3_takeTerm_21 : decode cX3_takeTerm 21 = .ok (.ireturn, 1) := by decide +kernel
theorem dX3_takeTerm_22 : decode cX3_takeTerm 22 = .ok (.aload_n 0, 1) := by decide +kernel
theorem dX3_takeTerm_23 : decode cX3_takeTerm 23 = .ok (.dup, 1) := by decide +kernel
theorem dX3_takeTerm_24 : decode cX3_takeTerm 24 = .ok (.getfield 32, 3) := by decide +kernel
theorem dX3_takeTerm_27 : decode cX3_takeTerm 27 = .ok (.iconst 1, 1) := by decide +kernel
theorem dX3_takeTerm_28 : decode cX3_takeTerm 28 = .ok (.iadd, 1) := by decide +kernel
theorem dX3_takeTerm_29 : decode cX3_takeTerm 29 = .ok (.putfield 32, 3) := by decide +kernel
theorem dX3_takeTerm_32 : decode cX3_takeTerm 32 = .ok (.aload_n 0, 1) := by decide +kernel
theorem dX3_takeTerm_33 : decode cX3_takeTerm 33 = .ok (.getfield 20, 3) := by decide +kernel
theorem dX3_takeTerm_36 : decode cX3_takeTerm 36 = .ok (.iload_n 1, 1) := by decide +kernel
theorem dX3_takeTerm_37 : decode cX3_takeTerm 37 = .ok (.invokevirtual 80, 3) := by decide +kernel
theorem dX3_takeTerm_40 : decode cX3_takeTerm 40 = .ok (.iconst 1, 1) := by decide +kernel
theorem dX3_takeTerm_41 : decode cX3_takeTerm 41 = .ok (.ireturn, 1) := by decide +kernel
theorem dX3_takeTerm_42 : decode cX3_takeTerm 42 = .ok (.aload_n 0, 1) := by decide +kernel
theorem dX3_takeTerm_43 : decode cX3_takeTerm 43 = .ok (.getfield 25, 3) := by decide +kernel
theorem dX3_takeTerm_46 : decode cX3_takeTerm 46 = .ok (.iload_n 1, 1) := by decide +kernel
theorem dX3_takeTerm_47 : decode cX3_takeTerm 47 = .ok (.i2c, 1) := by decide +kernel
theorem dX3_takeTerm_48 : decode cX3_takeTerm 48 = .ok (.invokevirtual 86, 3) := by decide +kernel
theorem dX3_takeTerm_51 : decode cX3_takeTerm 51 = .ok (.istore_n 2, 1) := by decide +kernel
theorem dX3_takeTerm_52 : decode cX3_takeTerm 52 = .ok (.iload_n 2, 1) := by decide +kernel
theorem dX3_takeTerm_53 : decode cX3_takeTerm 53 = .ok (.ifCond .ge 5, 3) := by decide +kernel
theorem dX3_takeTerm_56 : decode cX3_takeTerm 56 = .ok (.iconst 0, 1) := by decide +kernel
theorem dX3_takeTerm_57 : decode cX3_takeTerm 57 = .ok (.ireturn, 1) := by decide +kernel
theorem dX3_takeTerm_58 : decode cX3_takeTerm 58 = .ok (.aload_n 0, 1) := by decide +kernel
theorem dX3_takeTerm_59 : decode cX3_takeTerm 59 = .ok (.iconst (-1), 1) := by decide +kernel
theorem dX3_takeTerm_60 : decode cX3_takeTerm 60 = .ok (.iload_n 2, 1) := by decide +kernel
theorem dX3_takeTerm_61 : decode cX3_takeTerm 61 = .ok (.isub, 1) := by decide +kernel
theorem dX3_takeTerm_62 : decode cX3_takeTerm 62 = .ok (.invokevirtual 77, 3) := by decide +kernel
theorem dX3_takeTerm_65 : decode cX3_takeTerm 65 = .ok (.iconst 1, 1) := by decide +kernel
theorem dX3_takeTerm_66 : decode cX3_takeTerm 66 = .ok (.ireturn, 1) := by decide +kernel
set_option maxRecDepth 20000 in
theorem ggX3_takeSign_X3_closeBracket : GoodIn wsX3_takeSign wsX3_closeBracket := goodIn_r _ [7, 1, 8, 9, 10, 11, 6, 12, 13, 14, 15, 16, 17, 18, 19, 20, 21, 22, 23, 24, 25, 26, 27, 28, 29, 30, 31, 32, 33, 34, 35, 36, 37, 38, 39, 40, 41, 42, 43, 44, 45, 46] (by decide +kernel) (by decide +kernel)
set_option maxRecDepth 20000 in
theorem gX3_takeSign_X3_closeBracket : GoodIn wsX3_takeSign (wsV RX3 91 RX3 yX3_closeBracket wsX3_closeBracket) := goodIn_app (goodIn_of _ (by decide +kernel)) ggX3_takeSign_X3_closeBracket
set_option maxRecDepth 20000 in
theorem ggX3_takeSign_X3_rankOf : GoodIn wsX3_takeSign wsX3_rankOf := goodIn_r _ [24] (by decide +kernel) (by decide +kernel)
set_option maxRecDepth 20000 in
theorem gX3_takeSign_X3_rankOf : GoodIn wsX3_takeSign (va_wsS RX3 95 yX3_rankOf wsX3_rankOf) := goodIn_app (goodIn_of _ (by decide +kernel)) ggX3_takeSign_X3_rankOf
set_option maxRecDepth 20000 in
theorem ggX3_takeSign_X3_putDownFrom : GoodIn wsX3_takeSign wsX3_putDownFrom := goodIn_r _ [12, 1, 13, 14, 15, 16, 17, 18, 19, 20, 21, 22, 23, 6, 24, 25, 26, 27, 28, 29, 30, 31, 32, 33, 38, 39, 40, 41, 42, 43, 44, 45, 46] (by decide +kernel) (by decide +kernel)
set_option maxRecDepth 20000 in
theorem gX3_takeSign_X3_putDownFrom : GoodIn wsX3_takeSign (wsV RX3 57 RX3 yX3_putDownFrom wsX3_putDownFrom) := goodIn_app (goodIn_of _ (by decide +kernel)) ggX3_takeSign_X3_putDownFrom
set_option maxRecDepth 20000 in
theorem ggX3_takeSign_X4_last : GoodIn wsX3_takeSign wsX4_last := goodIn_r _ [19, 20, 21, 45, 46] (by decide +kernel) (by decide +kernel)
set_option maxRecDepth 20000 in
theorem gX3_takeSign_X4_last : GoodIn wsX3_takeSign (wsV RX3 98 RX4 yX4_last wsX4_last) := goodIn_app (goodIn_of _ (by decide +kernel)) ggX3_takeSign_X4_last
set_option maxRecDepth 20000 in
theorem ggX3_takeSign_X4_add : GoodIn wsX3_takeSign wsX4_add := goodIn_r _ [33, 20, 21, 45, 46] (by decide +kernel) (by decide +kernel)
set_option maxRecDepth 20000 in
theorem gX3_takeSign_X4_add : GoodIn wsX3_takeSign (wsV RX3 80 RX4 yX4_add wsX4_add) := goodIn_app (goodIn_of _ (by decide +kernel)) ggX3_takeSign_X4_add
theorem dX3_takeSign_0 : decode cX3_takeSign 0 = .ok (.iload_n 1, 1) := by decide +kernel
theorem dX3_takeSign_1 : decode cX3_takeSign 1 = .ok (.bipush 41, 2) := by decide +kernel
theorem dX3_takeSign_3 : decode cX3_takeSign 3 = .ok (.if_icmp .ne 8, 3) := by decide +kernel
theorem dX3_takeSign_6 : decode cX3_takeSign 6 = .ok (.aload_n 0, 1) := by decide +kernel
theorem dX3_takeSign_7 : decode cX3_takeSign 7 = .ok (.invokevirtual 91, 3) := by decide +kernel
theorem dX3_takeSign_10 : decode cX3_takeSign 10 = .ok (.ireturn, 1) := by decide +kernel
theorem dX3_takeSign_11 : decode cX3_takeSign 11 = .ok (.iload_n 1, 1) := by decide +kernel
theorem dX3_takeSign_12 : decode cX3_takeSign 12 = .ok (.invokestatic 95, 3) := by decide +kernel
theorem dX3_takeSign_15 : decode cX3_takeSign 15 = .ok (.istore_n 2, 1) := by decide +kernel
theorem dX3_takeSign_16 : decode cX3_takeSign 16 = .ok (.iload_n 2, 1) := by decide +kernel
theorem dX3_takeSign_17 : decode cX3_takeSign 17 = .ok (.ifCond .ne 5, 3) := by decide +kernel
theorem dX3_takeSign_20 : decode cX3_takeSign 20 = .ok (.iconst 0, 1) := by decide +kernel
theorem dX3_takeSign_21 : decode cX3_takeSign 21 = .ok (.ireturn, 1) := by decide +kernel
theorem dX3_takeSign_22 : decode cX3_takeSign 22 = .ok (.aload_n 0, 1) := by decide +kernel
theorem dX3_takeSign_23 : decode cX3_takeSign 23 = .ok (.iload_n 2, 1) := by decide +kernel
theorem dX3_takeSign_24 : decode cX3_takeSign 24 = .ok (.iconst 3, 1) := by decide +kernel
theorem dX3_takeSign_25 : decode cX3_takeSign 25 = .ok (.if_icmp .ne 9, 3) := by decide +kernel
theorem dX3_takeSign_28 : decode cX3_takeSign 28 = .ok (.iload_n 2, 1) := by decide +kernel
theorem dX3_takeSign_29 : decode cX3_takeSign 29 = .ok (.iconst 1, 1) := by decide +kernel
theorem dX3_takeSign_30 : decode cX3_takeSign 30 = .ok (.iadd, 1) := by decide +kernel
theorem dX3_takeSign_31 : decode cX3_takeSign 31 = .ok (.goto 4, 3) := by decide +kernel
theorem dX3_takeSign_34 : decode cX3_takeSign 34 = .ok (.iload_n 2, 1) := by decide +kernel
theorem dX3_takeSign_35 : decode cX3_takeSign 35 = .ok (.invokevirtual 57, 3) := by decide +kernel
theorem dX3_takeSign_38 : decode cX3_takeSign 38 = .ok (.iload_n 2, 1) := by decide +kernel
theorem dX3_takeSign_39 : decode cX3_takeSign 39 = .ok (.iconst 3, 1) := by decide +kernel
theorem dX3_takeSign_40 : decode cX3_takeSign 40 = .ok (.if_icmp .ne 19, 3) := by decide +kernel
theorem dX3_takeSign_43 : decode cX3_takeSign 43 = .ok (.aload_n 0, 1) := by decide +kernel
theorem dX3_takeSign_44 : decode cX3_takeSign 44 = .ok (.getfield 20, 3) := by decide +kernel
theorem dX3_takeSign_47 : decode cX3_takeSign 47 = .ok (.invokevirtual 98, 3) := by decide +kernel
theorem dX3_takeSign_50 : decode cX3_takeSign 50 = .ok (.invokestatic 95, 3) := by decide +kernel
theorem dX3_takeSign_53 : decode cX3_takeSign 53 = .ok (.iload_n 2, 1) := by decide +kernel
theorem dX3_takeSign_54 : decode cX3_takeSign 54 = .ok (.if_icmp .ne 5, 3) := by decide +kernel
theorem dX3_takeSign_57 : decode cX3_takeSign 57 = .ok (.iconst 0, 1) := by decide +kernel
theorem dX3_takeSign_58 : decode cX3_takeSign 58 = .ok (.ireturn, 1) := by decide +kernel
theorem dX3_takeSign_59 : decode cX3_takeSign 59 = .ok (.aload_n 0, 1) := by decide +kernel
theorem dX3_takeSign_60 : decode cX3_takeSign 60 = .ok (.getfield 20, 3) := by decide +kernel
theorem dX3_takeSign_63 : decode cX3_takeSign 63 = .ok (.iload_n 1, 1) := by decide +kernel
theorem dX3_takeSign_64 : decode cX3_takeSign 64 = .ok (.invokevirtual 80, 3) := by decide +kernel
theorem dX3_takeSign_67 : decode cX3_takeSign 67 = .ok (.aload_n 0, 1) := by decide +kernel
theorem dX3_takeSign_68 : decode cX3_takeSign 68 = .ok (.iconst 1, 1) := by decide +kernel
theorem dX3_takeSign_69 : decode cX3_takeSign 69 = .ok (.putfield 39, 3) := by decide +kernel
theorem dX3_takeSign_72 : decode cX3_takeSign 72 = .ok (.iconst 1, 1) := by decide +kernel
theorem dX3_takeSign_73 : decode cX3_takeSign 73 = .ok (.ireturn, 1) := by decide +kernel
set_option maxRecDepth 20000 in
theorem ggX3_closeBracket_X3_putDownFrom : GoodIn wsX3_closeBracket wsX3_putDownFrom := goodIn_r _ [7, 1, 8, 9, 10, 11, 12, 13, 14, 15, 16, 17, 18, 6, 19, 20, 21, 22, 23, 24, 25, 26, 27, 28, 33, 34, 35, 36, 37, 38, 39, 40, 41] (by decide +kernel) (by decide +kernel)
set_option maxRecDepth 20000 in
theorem gX3_closeBracket_X3_putDownFrom : GoodIn wsX3_closeBracket (wsV RX3 57 RX3 yX3_putDownFrom wsX3_putDownFrom) := goodIn_app (goodIn_of _ (by decide +kernel)) ggX3_closeBracket_X3_putDownFrom
set_option maxRecDepth 20000 in
theorem ggX3_closeBracket_X4_last : GoodIn wsX3_closeBracket wsX4_last := goodIn_r _ [14, 15, 16, 40, 41] (by decide +kernel) (by decide +kernel)
set_option maxRecDepth 20000 in
theorem gX3_closeBracket_X4_last : GoodIn wsX3_closeBracket (wsV RX3 98 RX4 yX4_last wsX4_last) := goodIn_app (goodIn_of _ (by decide +kernel)) ggX3_closeBracket_X4_last
set_option maxRecDepth 20000 in
theorem ggX3_closeBracket_X4_removeLast : GoodIn wsX3_closeBracket wsX4_removeLast := goodIn_r _ [23, 15, 24, 11, 12, 13, 14, 16, 40, 41] (by decide +kernel) (by decide +kernel)
set_option maxRecDepth 20000 in
theorem gX3_closeBracket_X4_removeLast : GoodIn wsX3_closeBracket (wsV RX3 102 RX4 yX4_removeLast wsX4_removeLast) := goodIn_app (goodIn_of _ (by decide +kernel)) ggX3_closeBracket_X4_removeLast
set_option maxRecDepth 20000 in
theorem ggX3_closeBracket_X3_closeNots : GoodIn wsX3_closeBracket wsX3_closeNots := goodIn_r _ [32, 1, 8, 9, 2, 10, 11, 12, 13, 14, 15, 16, 20, 21, 22, 23, 24, 25, 26, 27, 28, 33, 34, 35, 36, 37, 38, 39, 40, 41] (by decide +kernel) (by decide +kernel)
set_option maxRecDepth 20000 in
theorem gX3_closeBracket_X3_closeNots : GoodIn wsX3_closeBracket (wsV RX3 83 RX3 yX3_closeNots wsX3_closeNots) := goodIn_app (goodIn_of _ (by decide +kernel)) ggX3_closeBracket_X3_closeNots
theorem dX3_closeBracket_0 : decode cX3_closeBracket 0 = .ok (.aload_n 0, 1) := by decide +kernel
theorem dX3_closeBracket_1 : decode cX3_closeBracket 1 = .ok (.iconst 1, 1) := by decide +kernel
theorem dX3_closeBracket_2 : decode cX3_closeBracket 2 = .ok (.invokevirtual 57, 3) := by decide +kernel
theorem dX3_closeBracket_5 : decode cX3_closeBracket 5 = .ok (.aload_n 0, 1) := by decide +kernel
theorem dX3_closeBracket_6 : decode cX3_closeBracket 6 = .ok (.getfield 20, 3) := by decide +kernel
theorem dX3_closeBracket_9 : decode cX3_closeBracket 9 = .ok (.invokevirtual 98, 3) := by decide +kernel
theorem dX3_closeBracket_12 : decode cX3_closeBracket 12 = .ok (.bipush 40, 2) := by decide +kernel
theorem dX3_closeBracket_14 : decode cX3_closeBracket 14 = .ok (.if_icmp .eq 5, 3) := by decide +kernel
theorem dX3_closeBracket_17 : decode cX3_closeBracket 17 = .ok (.iconst 0, 1) := by decide +kernel
theorem dX3_closeBracket_18 : decode cX3_closeBracket 18 = .ok (.ireturn, 1) := by decide +kernel
theorem dX3_closeBracket_19 : decode cX3_closeBracket 19 = .ok (.aload_n 0, 1) := by decide +kernel
theorem dX3_closeBracket_20 : decode cX3_closeBracket 20 = .ok (.getfield 20, 3) := by decide +kernel
theorem dX3_closeBracket_23 : decode cX3_closeBracket 23 = .ok (.invokevirtual 102, 3) := by decide +kernel
theorem dX3_closeBracket_26 : decode cX3_closeBracket 26 = .ok (.pop, 1) := by decide +kernel
theorem dX3_closeBracket_27 : decode cX3_closeBracket 27 = .ok (.aload_n 0, 1) := by decide +kernel
theorem dX3_closeBracket_28 : decode cX3_closeBracket 28 = .ok (.dup, 1) := by decide +kernel
theorem dX3_closeBracket_29 : decode cX3_closeBracket 29 = .ok (.getfield 32, 3) := by decide +kernel
theorem dX3_closeBracket_32 : decode cX3_closeBracket 32 = .ok (.iconst 1, 1) := by decide +kernel
theorem dX3_closeBracket_33 : decode cX3_closeBracket 33 = .ok (.isub, 1) := by decide +kernel
theorem dX3_closeBracket_34 : decode cX3_closeBracket 34 = .ok (.putfield 32, 3) := by decide +kernel
theorem dX3_closeBracket_37 : decode cX3_closeBracket 37 = .ok (.aload_n 0, 1) := by decide +kernel
theorem dX3_closeBracket_38 : decode cX3_closeBracket 38 = .ok (.invokevirtual 83, 3) := by decide +kernel
theorem dX3_closeBracket_41 : decode cX3_closeBracket 41 = .ok (.iconst 1, 1) := by decide +kernel
theorem dX3_closeBracket_42 : decode cX3_closeBracket 42 = .ok (.ireturn, 1) := by decide +kernel
set_option maxRecDepth 20000 in
theorem ggX3_closeNots_X4_last : GoodIn wsX3_closeNots wsX4_last := goodIn_r _ [9, 10, 11, 28, 29] (by decide +kernel) (by decide +kernel)
set_option maxRecDepth 20000 in
theorem gX3_closeNots_X4_last : GoodIn wsX3_closeNots (wsV RX3 98 RX4 yX4_last wsX4_last) := goodIn_app (goodIn_of _ (by decide +kernel)) ggX3_closeNots_X4_last
set_option maxRecDepth 20000 in
theorem ggX3_closeNots_X4_removeLast : GoodIn wsX3_closeNots wsX4_removeLast := goodIn_r _ [15, 10, 16, 6, 7, 8, 9, 11, 28, 29] (by decide +kernel) (by decide +kernel)
set_option maxRecDepth 20000 in
theorem gX3_closeNots_X4_removeLast : GoodIn wsX3_closeNots (wsV RX3 102 RX4 yX4_removeLast wsX4_removeLast) := goodIn_app (goodIn_of _ (by decide +kernel)) ggX3_closeNots_X4_removeLast
set_option maxRecDepth 20000 in
theorem ggX3_closeNots_X4_add : GoodIn wsX3_closeNots wsX4_add := goodIn_r _ [20, 10, 11, 28, 29] (by decide +kernel) (by decide +kernel)
set_option maxRecDepth 20000 in
theorem gX3_closeNots_X4_add : GoodIn wsX3_closeNots (wsV RX3 80 RX4 yX4_add wsX4_add) := goodIn_app (goodIn_of _ (by decide +kernel)) ggX3_closeNots_X4_add
theorem dX3_closeNots_0 : decode cX3_closeNots 0 = .ok (.aload_n 0, 1) := by decide +kernel
theorem dX3_closeNots_1 : decode cX3_closeNots 1 = .ok (.getfield 20, 3) := by decide +kernel
theorem dX3_closeNots_4 : decode cX3_closeNots 4 = .ok (.getfield 43, 3) := by decide +kernel
theorem dX3_closeNots_7 : decode cX3_closeNots 7 = .ok (.istore_n 1, 1) := by decide +kernel
theorem dX3_closeNots_8 : decode cX3_closeNots 8 = .ok (.iload_n 1, 1) := by decide +kernel
theorem dX3_closeNots_9 : decode cX3_closeNots 9 = .ok (.ifCond .le 46, 3) := by decide +kernel
theorem dX3_closeNots_12 : decode cX3_closeNots 12 = .ok (.aload_n 0, 1) := by decide +kernel
theorem dX3_closeNots_13 : decode cX3_closeNots 13 = .ok (.getfield 20, 3) := by decide +kernel
theorem dX3_closeNots_16 : decode cX3_closeNots 16 = .ok (.invokevirtual 98, 3) := by decide +kernel
theorem dX3_closeNots_19 : decode cX3_closeNots 19 = .ok (.bipush 33, 2) := by decide +kernel
theorem dX3_closeNots_21 : decode cX3_closeNots 21 = .ok (.if_icmp .ne 34, 3) := by decide +kernel
theorem dX3_closeNots_24 : decode cX3_closeNots 24 = .ok (.aload_n 0, 1) := by decide +kernel
theorem dX3_closeNots_25 : decode cX3_closeNots 25 = .ok (.getfield 14, 3) := by decide +kernel
theorem dX3_closeNots_28 : decode cX3_closeNots 28 = .ok (.aload_n 0, 1) := by decide +kernel
theorem dX3_closeNots_29 : decode cX3_closeNots 29 = .ok (.getfield 20, 3) := by decide +kernel
theorem dX3_closeNots_32 : decode cX3_closeNots 32 = .ok (.invokevirtual 102, 3) := by decide +kernel
theorem dX3_closeNots_35 : decode cX3_closeNots 35 = .ok (.ineg, 1) := by decide +kernel
theorem dX3_closeNots_36 : decode cX3_closeNots 36 = .ok (.invokevirtual 80, 3) := by decide +kernel
theorem dX3_closeNots_39 : decode cX3_closeNots 39 = .ok (.aload_n 0, 1) := by decide +kernel
theorem dX3_closeNots_40 : decode cX3_closeNots 40 = .ok (.dup, 1) := by decide +kernel
theorem dX3_closeNots_41 : decode cX3_closeNots 41 = .ok (.getfield 32, 3) := by decide +kernel
theorem dX3_closeNots_44 : decode cX3_closeNots 44 = .ok (.iconst 1, 1) := by decide +kernel
theorem dX3_closeNots_45 : decode cX3_closeNots 45 = .ok (.isub, 1) := by decide +kernel
theorem dX3_closeNots_46 : decode cX3_closeNots 46 = .ok (.putfield 32, 3) := by decide +kernel
theorem dX3_closeNots_49 : decode cX3_closeNots 49 = .ok (.iinc 1 (-1), 3) := by decide +kernel
theorem dX3_closeNots_52 : decode cX3_closeNots 52 = .ok (.goto (-44), 3) := by decide +kernel
theorem dX3_closeNots_55 : decode cX3_closeNots 55 = .ok (.return_, 1) := by decide +kernel
set_option maxRecDepth 20000 in
theorem ggX3_putDownFrom_X4_last : GoodIn wsX3_putDownFrom wsX4_last := goodIn_r _ [8, 9, 10, 31, 32] (by decide +kernel) (by decide +kernel)
set_option maxRecDepth 20000 in
theorem gX3_putDownFrom_X4_last : GoodIn wsX3_putDownFrom (wsV RX3 98 RX4 yX4_last wsX4_last) := goodIn_app (goodIn_of _ (by decide +kernel)) ggX3_putDownFrom_X4_last
set_option maxRecDepth 20000 in
theorem ggX3_putDownFrom_X3_rankOf : GoodIn wsX3_putDownFrom wsX3_rankOf := goodIn_r _ [14] (by decide +kernel) (by decide +kernel)
set_option maxRecDepth 20000 in
theorem gX3_putDownFrom_X3_rankOf : GoodIn wsX3_putDownFrom (va_wsS RX3 95 yX3_rankOf wsX3_rankOf) := goodIn_app (goodIn_of _ (by decide +kernel)) ggX3_putDownFrom_X3_rankOf
set_option maxRecDepth 20000 in
theorem ggX3_putDownFrom_X4_removeLast : GoodIn wsX3_putDownFrom wsX4_removeLast := goodIn_r _ [18, 9, 19, 5, 6, 7, 8, 10, 31, 32] (by decide +kernel) (by decide +kernel)
set_option maxRecDepth 20000 in
theorem gX3_putDownFrom_X4_removeLast : GoodIn wsX3_putDownFrom (wsV RX3 102 RX4 yX4_removeLast wsX4_removeLast) := goodIn_app (goodIn_of _ (by decide +kernel)) ggX3_putDownFrom_X4_removeLast
set_option maxRecDepth 20000 in
theorem ggX3_putDownFrom_X4_add : GoodIn wsX3_putDownFrom wsX4_add := goodIn_r _ [23, 9, 10, 31, 32] (by decide +kernel) (by decide +kernel)
set_option maxRecDepth 20000 in
theorem gX3_putDownFrom_X4_add : GoodIn wsX3_putDownFrom (wsV RX3 80 RX4 yX4_add wsX4_add) := goodIn_app (goodIn_of _ (by decide +kernel)) ggX3_putDownFrom_X4_add
theorem dX3_putDownFrom_0 : decode cX3_putDownFrom 0 = .ok (.aload_n 0, 1) := by decide +kernel
theorem dX3_putDownFrom_1 : decode cX3_putDownFrom 1 = .ok (.getfield 20, 3) := by decide +kernel
theorem dX3_putDownFrom_4 : decode cX3_putDownFrom 4 = .ok (.getfield 43, 3) := by decide +kernel
theorem dX3_putDownFrom_7 : decode cX3_putDownFrom 7 = .ok (.istore_n 2, 1) := by decide +kernel
theorem dX3_putDownFrom_8 : decode cX3_putDownFrom 8 = .ok (.iload_n 2, 1) := by decide +kernel
theorem dX3_putDownFrom_9 : decode cX3_putDownFrom 9 = .ok (.ifCond .le 38, 3) := by decide +kernel
theorem dX3_putDownFrom_12 : decode cX3_putDownFrom 12 = .ok (.aload_n 0, 1) := by decide +kernel
theorem dX3_putDownFrom_13 : decode cX3_putDownFrom 13 = .ok (.getfield 20, 3) := by decide +kernel
theorem dX3_putDownFrom_16 : decode cX3_putDownFrom 16 = .ok (.invokevirtual 98, 3) := by decide +kernel
theorem dX3_putDownFrom_19 : decode cX3_putDownFrom 19 = .ok (.invokestatic 95, 3) := by decide +kernel
theorem dX3_putDownFrom_22 : decode cX3_putDownFrom 22 = .ok (.iload_n 1, 1) := by decide +kernel
theorem dX3_putDownFrom_23 : decode cX3_putDownFrom 23 = .ok (.if_icmp .lt 24, 3) := by decide +kernel
theorem dX3_putDownFrom_26 : decode cX3_putDownFrom 26 = .ok (.aload_n 0, 1) := by decide +kernel
theorem dX3_putDownFrom_27 : decode cX3_putDownFrom 27 = .ok (.getfield 14, 3) := by decide +kernel
theorem dX3_putDownFrom_30 : decode cX3_putDownFrom 30 = .ok (.aload_n 0, 1) := by decide +kernel
theorem dX3_putDownFrom_31 : decode cX3_putDownFrom 31 = .ok (.getfield 20, 3) := by decide +kernel
theorem dX3_putDownFrom_34 : decode cX3_putDownFrom 34 = .ok (.invokevirtual 102, 3) := by decide +kernel
theorem dX3_putDownFrom_37 : decode cX3_putDownFrom 37 = .ok (.ineg, 1) := by decide +kernel
theorem dX3_putDownFrom_38 : decode cX3_putDownFrom 38 = .ok (.invokevirtual 80, 3) := by decide +kernel
theorem dX3_putDownFrom_41 : decode cX3_putDownFrom 41 = .ok (.iinc 2 (-1), 3) := by decide +kernel
theorem dX3_putDownFrom_44 : decode cX3_putDownFrom 44 = .ok (.goto (-36), 3) := by decide +kernel
theorem dX3_putDownFrom_47 : decode cX3_putDownFrom 47 = .ok (.return_, 1) := by decide +kernel
theorem dX3_rankOf_0 : decode cX3_rankOf 0 = .ok (.iload_n 0, 1) := by decide +kernel
theorem dX3_rankOf_1 : decode cX3_rankOf 1 = .ok (.lookupswitch 101 #[(37, 99), (38, 93), (42, 99), (43, 97), (45, 97), (47, 99), (60, 95), (61, 95), (62, 95), (124, 91)], 91) := by decide +kernel
theorem dX3_rankOf_92 : decode cX3_rankOf 92 = .ok (.iconst 1, 1) := by decide +kernel
theorem dX3_rankOf_93 : decode cX3_rankOf 93 = .ok (.ireturn, 1) := by decide +kernel
theorem dX3_rankOf_94 : decode cX3_rankOf 94 = .ok (.iconst 2, 1) := by decide +kernel
theorem dX3_rankOf_95 : decode cX3_rankOf 95 = .ok (.ireturn, 1) := by decide +kernel
theorem dX3_rankOf_96 : decode cX3_rankOf 96 = .ok (.iconst 3, 1) := by decide +kernel
theorem dX3_rankOf_97 : decode cX3_rankOf 97 = .ok (.ireturn, 1) := by decide +kernel
theorem dX3_rankOf_98 : decode cX3_rankOf 98 = .ok (.iconst 4, 1) := by decide +kernel
theorem dX3_rankOf_99 : decode cX3_rankOf 99 = .ok (.ireturn, 1) := by decide +kernel
theorem dX3_rankOf_100 : decode cX3_rankOf 100 = .ok (.iconst 5, 1) := by decide +kernel
theorem dX3_rankOf_101 : decode cX3_rankOf 101 = .ok (.ireturn, 1) := by decide +kernel
theorem dX3_rankOf_102 : decode cX3_rankOf 102 = .ok (.iconst 0, 1) := by decide +kernel
theorem dX3_rankOf_103 : decode cX3_rankOf 103 = .ok (.ireturn, 1) := by decide +kernel
theorem dX4_init_0 : decode cX4_init 0 = .ok (.aload_n 0, 1) := by decide +kernel
theorem dX4_init_1 : decode cX4_init 1 = .ok (.invokespecial 1, 3) := by decide +kernel
theorem dX4_init_4 : decode cX4_init 4 = .ok (.aload_n 0, 1) := by decide +kernel
theorem dX4_init_5 : decode cX4_init 5 = .ok (.iconst 0, 1) := by decide +kernel
theorem dX4_init_6 : decode cX4_init 6 = .ok (.iload_n 1, 1) := by decide +kernel
theorem dX4_init_7 : decode cX4_init 7 = .ok (.invokestatic 7, 3) := by decide +kernel
theorem dX4_init_10 : decode cX4_init 10 = .ok (.newarray .int, 2) := by decide +kernel
theorem dX4_init_12 : decode cX4_init 12 = .ok (.putfield 13, 3) := by decide +kernel
theorem dX4_init_15 : decode cX4_init 15 = .ok (.return_, 1) := by decide +kernel
theorem dX4_add_0 : decode cX4_add 0 = .ok (.aload_n 0, 1) := by decide +kernel
theorem dX4_add_1 : decode cX4_add 1 = .ok (.getfield 19, 3) := by decide +kernel
theorem dX4_add_4 : decode cX4_add 4 = .ok (.aload_n 0, 1) := by decide +kernel
theorem dX4_add_5 : decode cX4_add 5 = .ok (.getfield 13, 3) := by decide +kernel
theorem dX4_add_8 : decode cX4_add 8 = .ok (.arraylength, 1) := by decide +kernel
theorem dX4_add_9 : decode cX4_add 9 = .ok (.if_icmp .ge 23, 3) := by decide +kernel
theorem dX4_add_12 : decode cX4_add 12 = .ok (.aload_n 0, 1) := by decide +kernel
theorem dX4_add_13 : decode cX4_add 13 = .ok (.getfield 13, 3) := by decide +kernel
theorem dX4_add_16 : decode cX4_add 16 = .ok (.aload_n 0, 1) := by decide +kernel
theorem dX4_add_17 : decode cX4_add 17 = .ok (.getfield 19, 3) := by decide +kernel
theorem dX4_add_20 : decode cX4_add 20 = .ok (.iload_n 1, 1) := by decide +kernel
theorem dX4_add_21 : decode cX4_add 21 = .ok (.iastore, 1) := by decide +kernel
theorem dX4_add_22 : decode cX4_add 22 = .ok (.aload_n 0, 1) := by decide +kernel
theorem dX4_add_23 : decode cX4_add 23 = .ok (.dup, 1) := by decide +kernel
theorem dX4_add_24 : decode cX4_add 24 = .ok (.getfield 19, 3) := by decide +kernel
theorem dX4_add_27 : decode cX4_add 27 = .ok (.iconst 1, 1) := by decide +kernel
theorem dX4_add_28 : decode cX4_add 28 = .ok (.iadd, 1) := by decide +kernel
theorem dX4_add_29 : decode cX4_add 29 = .ok (.putfield 19, 3) := by decide +kernel
theorem dX4_add_32 : decode cX4_add 32 = .ok (.return_, 1) := by decide +kernel
theorem dX4_get_0 : decode cX4_get 0 = .ok (.iload_n 1, 1) := by decide +kernel
theorem dX4_get_1 : decode cX4_get 1 = .ok (.ifCond .lt 20, 3) := by decide +kernel
theorem dX4_get_4 : decode cX4_get 4 = .ok (.iload_n 1, 1) := by decide +kernel
theorem dX4_get_5 : decode cX4_get 5 = .ok (.aload_n 0, 1) := by decide +kernel
theorem dX4_get_6 : decode cX4_get 6 = .ok (.getfield 19, 3) := by decide +kernel
theorem dX4_get_9 : decode cX4_get 9 = .ok (.if_icmp .ge 12, 3) := by decide +kernel
theorem dX4_get_12 : decode cX4_get 12 = .ok (.aload_n 0, 1) := by decide +kernel
theorem dX4_get_13 : decode cX4_get 13 = .ok (.getfield 13, 3) := by decide +kernel
theorem dX4_get_16 : decode cX4_get 16 = .ok (.iload_n 1, 1) := by decide +kernel
theorem dX4_get_17 : decode cX4_get 17 = .ok (.iaload, 1) := by decide +kernel
theorem dX4_get_18 : decode cX4_get 18 = .ok (.goto 4, 3) := by decide +kernel
theorem dX4_get_21 : decode cX4_get 21 = .ok (.iconst 0, 1) := by decide +kernel
theorem dX4_get_22 : decode cX4_get 22 = .ok (.ireturn, 1) := by decide +kernel
theorem dX4_last_0 : decode cX4_last 0 = .ok (.aload_n 0, 1) := by decide +kernel
theorem dX4_last_1 : decode cX4_last 1 = .ok (.getfield 19, 3) := by decide +kernel
theorem dX4_last_4 : decode cX4_last 4 = .ok (.ifCond .le 29, 3) := by decide +kernel
theorem dX4_last_7 : decode cX4_last 7 = .ok (.aload_n 0, 1) := by decide +kernel
theorem dX4_last_8 : decode cX4_last 8 = .ok (.getfield 19, 3) := by decide +kernel
theorem dX4_last_11 : decode cX4_last 11 = .ok (.aload_n 0, 1) := by decide +kernel
theorem dX4_last_12 : decode cX4_last 12 = .ok (.getfield 13, 3) := by decide +kernel
theorem dX4_last_15 : decode cX4_last 15 = .ok (.arraylength, 1) := by decide +kernel
theorem dX4_last_16 : decode cX4_last 16 = .ok (.if_icmp .gt 17, 3) := by decide +kernel
theorem dX4_last_19 : decode cX4_last 19 = .ok (.aload_n 0, 1) := by decide +kernel
theorem dX4_last_20 : decode cX4_last 20 = .ok (.getfield 13, 3) := by decide +kernel
theorem dX4_last_23 : decode cX4_last 23 = .ok (.aload_n 0, 1) := by decide +kernel
theorem dX4_last_24 : decode cX4_last 24 = .ok (.getfield 19, 3) := by decide +kernel
theorem dX4_last_27 : decode cX4_last 27 = .ok (.iconst 1, 1) := by decide +kernel
theorem dX4_last_28 : decode cX4_last 28 = .ok (.isub, 1) := by decide +kernel
theorem dX4_last_29 : decode cX4_last 29 = .ok (.iaload, 1) := by decide +kernel
theorem dX4_last_30 : decode cX4_last 30 = .ok (.goto 4, 3) := by decide +kernel
theorem dX4_last_33 : decode cX4_last 33 = .ok (.iconst 0, 1) := by decide +kernel
theorem dX4_last_34 : decode cX4_last 34 = .ok (.ireturn, 1) := by decide +kernel
set_option maxRecDepth 20000 in
theorem ggX4_removeLast_X4_last : GoodIn wsX4_removeLast wsX4_last := goodIn_r _ [6, 1, 7, 8, 9] (by decide +kernel) (by decide +kernel)
set_option maxRecDepth 20000 in
theorem gX4_removeLast_X4_last : GoodIn wsX4_removeLast (wsV RX4 23 RX4 yX4_last wsX4_last) := goodIn_app (goodIn_of _ (by decide +kernel)) ggX4_removeLast_X4_last
theorem dX4_removeLast_0 : decode cX4_removeLast 0 = .ok (.aload_n 0, 1) := by decide +kernel
theorem dX4_removeLast_1 : decode cX4_removeLast 1 = .ok (.invokevirtual 23, 3) := by decide +kernel
theorem dX4_removeLast_4 : decode cX4_removeLast 4 = .ok (.istore_n 1, 1) := by decide +kernel
theorem dX4_removeLast_5 : decode cX4_removeLast 5 = .ok (.aload_n 0, 1) := by decide +kernel
theorem dX4_removeLast_6 : decode cX4_removeLast 6 = .ok (.getfield 19, 3) := by decide +kernel
theorem dX4_removeLast_9 : decode cX4_removeLast 9 = .ok (.ifCond .le 13, 3) := by decide +kernel
theorem dX4_removeLast_12 : decode cX4_removeLast 12 = .ok (.aload_n 0, 1) := by decide +kernel
theorem dX4_removeLast_13 : decode cX4_removeLast 13 = .ok (.dup, 1) := by decide +kernel
theorem dX4_removeLast_14 : decode cX4_removeLast 14 = .ok (.getfield 19, 3) := by decide +kernel
theorem dX4_removeLast_17 : decode cX4_removeLast 17 = .ok (.iconst 1, 1) := by decide +kernel
theorem dX4_removeLast_18 : decode cX4_removeLast 18 = .ok (.isub, 1) := by decide +kernel
theorem dX4_removeLast_19 : decode cX4_removeLast 19 = .ok (.putfield 19, 3) := by decide +kernel
theorem dX4_removeLast_22 : decode cX4_removeLast 22 = .ok (.iload_n 1, 1) := by decide +kernel
theorem dX4_removeLast_23 : decode cX4_removeLast 23 = .ok (.ireturn, 1) := by decide +kernel
theorem dX4_clear_0 : decode cX4_clear 0 = .ok (.aload_n 0, 1) := by decide +kernel
theorem dX4_clear_1 : decode cX4_clear 1 = .ok (.iconst 0, 1) := by decide +kernel
theorem dX4_clear_2 : decode cX4_clear 2 = .ok (.putfield 19, 3) := by decide +kernel
theorem dX4_clear_5 : decode cX4_clear 5 = .ok (.return_, 1) := by decide +kernel
set_option maxRecDepth 20000 in
theorem ggX4_takeOver_X4_clear : GoodIn wsX4_takeOver wsX4_clear := goodIn_r _ [6, 1, 16, 17] (by decide +kernel) (by decide +kernel)
set_option maxRecDepth 20000 in
theorem gX4_takeOver_X4_clear : GoodIn wsX4_takeOver (wsV RX4 27 RX4 yX4_clear wsX4_clear) := goodIn_app (goodIn_of _ (by decide +kernel)) ggX4_takeOver_X4_clear
set_option maxRecDepth 20000 in
theorem ggX4_takeOver_X4_get : GoodIn wsX4_takeOver wsX4_get := goodIn_r _ [10, 1, 11, 16, 17] (by decide +kernel) (by decide +kernel)
set_option maxRecDepth 20000 in
theorem gX4_takeOver_X4_get : GoodIn wsX4_takeOver (wsV RX4 30 RX4 yX4_get wsX4_get) := goodIn_app (goodIn_of _ (by decide +kernel)) ggX4_takeOver_X4_get
set_option maxRecDepth 20000 in
theorem ggX4_takeOver_X4_add : GoodIn wsX4_takeOver wsX4_add := goodIn_r _ [15, 1, 11, 16, 17] (by decide +kernel) (by decide +kernel)
set_option maxRecDepth 20000 in
theorem gX4_takeOver_X4_add : GoodIn wsX4_takeOver (wsV RX4 34 RX4 yX4_add wsX4_add) := goodIn_app (goodIn_of _ (by decide +kernel)) ggX4_takeOver_X4_add
theorem dX4_takeOver_0 : decode cX4_takeOver 0 = .ok (.aload_n 0, 1) := by decide +kernel
theorem dX4_takeOver_1 : decode cX4_takeOver 1 = .ok (.invokevirtual 27, 3) := by decide +kernel
theorem dX4_takeOver_4 : decode cX4_takeOver 4 = .ok (.iconst 0, 1) := by decide +kernel
theorem dX4_takeOver_5 : decode cX4_takeOver 5 = .ok (.istore_n 2, 1) := by decide +kernel
theorem dX4_takeOver_6 : decode cX4_takeOver 6 = .ok (.iload_n 2, 1) := by decide +kernel
theorem dX4_takeOver_7 : decode cX4_takeOver 7 = .ok (.aload_n 1, 1) := by decide +kernel
theorem dX4_takeOver_8 : decode cX4_takeOver 8 = .ok (.getfield 19, 3) := by decide +kernel
theorem dX4_takeOver_11 : decode cX4_takeOver 11 = .ok (.if_icmp .ge 18, 3) := by decide +kernel
theorem dX4_takeOver_14 : decode cX4_takeOver 14 = .ok (.aload_n 0, 1) := by decide +kernel
theorem dX4_takeOver_15 : decode cX4_takeOver 15 = .ok (.aload_n 1, 1) := by decide +kernel
theorem dX4_takeOver_16 : decode cX4_takeOver 16 = .ok (.iload_n 2, 1) := by decide +kernel
theorem dX4_takeOver_17 : decode cX4_takeOver 17 = .ok (.invokevirtual 30, 3) := by decide +kernel
theorem dX4_takeOver_20 : decode cX4_takeOver 20 = .ok (.invokevirtual 34, 3) := by decide +kernel
theorem dX4_takeOver_23 : decode cX4_takeOver 23 = .ok (.iinc 2 1, 3) := by decide +kernel
theorem dX4_takeOver_26 : decode cX4_takeOver 26 = .ok (.goto (-20), 3) := by decide +kernel
theorem dX4_takeOver_29 : decode cX4_takeOver 29 = .ok (.return_, 1) := by decide +kernel
theorem dX5_init_0 : decode cX5_init 0 = .ok (.aload_n 0, 1) := by decide +kernel
theorem dX5_init_1 : decode cX5_init 1 = .ok (.invokespecial 3, 3) := by decide +kernel
theorem dX5_init_4 : decode cX5_init 4 = .ok (.aload_n 0, 1) := by decide +kernel
theorem dX5_init_5 : decode cX5_init 5 = .ok (.bipush 40, 2) := by decide +kernel
theorem dX5_init_7 : decode cX5_init 7 = .ok (.newarray .int, 2) := by decide +kernel
theorem dX5_init_9 : decode cX5_init 9 = .ok (.putfield 9, 3) := by decide +kernel
theorem dX5_init_12 : decode cX5_init 12 = .ok (.return_, 1) := by decide +kernel
theorem dX5_isMissing_0 : decode cX5_isMissing 0 = .ok (.aload_n 0, 1) := by decide +kernel
theorem dX5_isMissing_1 : decode cX5_isMissing 1 = .ok (.getfield 15, 3) := by decide +kernel
theorem dX5_isMissing_4 : decode cX5_isMissing 4 = .ok (.ifCond .ne 7, 3) := by decide +kernel
theorem dX5_isMissing_7 : decode cX5_isMissing 7 = .ok (.iconst 1, 1) := by decide +kernel
theorem dX5_isMissing_8 : decode cX5_isMissing 8 = .ok (.goto 4, 3) := by decide +kernel
theorem dX5_isMissing_11 : decode cX5_isMissing 11 = .ok (.iconst 0, 1) := by decide +kernel
theorem dX5_isMissing_12 : decode cX5_isMissing 12 = .ok (.ireturn, 1) := by decide +kernel
set_option maxRecDepth 20000 in
theorem ggX5_startAnew_X8_held : GoodIn wsX5_startAnew wsX8_held := goodIn_r _ [6] (by decide +kernel) (by decide +kernel)
set_option maxRecDepth 20000 in
theorem gX5_startAnew_X8_held_n19 : GoodIn wsX5_startAnew (wsX8_held) := ggX5_startAnew_X8_held
set_option maxRecDepth 20000 in
theorem ggX5_startAnew_J7_fill_53178 : GoodIn wsX5_startAnew wsJ7_fill_53178 := goodIn_r _ [10] (by decide +kernel) (by decide +kernel)
set_option maxRecDepth 20000 in
theorem gX5_startAnew_J7_fill_53178 : GoodIn wsX5_startAnew (va_wsS RX5 26 yJ7_fill_53178 wsJ7_fill_53178) := goodIn_app (goodIn_of _ (by decide +kernel)) ggX5_startAnew_J7_fill_53178
theorem dX5_startAnew_0 : decode cX5_startAnew 0 = .ok (.aload_n 0, 1) := by decide +kernel
theorem dX5_startAnew_1 : decode cX5_startAnew 1 = .ok (.iload_n 1, 1) := by decide +kernel
theorem dX5_startAnew_2 : decode cX5_startAnew 2 = .ok (.putfield 15, 3) := by decide +kernel
theorem dX5_startAnew_5 : decode cX5_startAnew 5 = .ok (.aload_n 0, 1) := by decide +kernel
theorem dX5_startAnew_6 : decode cX5_startAnew 6 = .ok (.iload_n 2, 1) := by decide +kernel
theorem dX5_startAnew_7 : decode cX5_startAnew 7 = .ok (.bipush 40, 2) := by decide +kernel
theorem dX5_startAnew_9 : decode cX5_startAnew 9 = .ok (.invokestatic 19, 3) := by decide +kernel
theorem dX5_startAnew_12 : decode cX5_startAnew 12 = .ok (.putfield 23, 3) := by decide +kernel
theorem dX5_startAnew_15 : decode cX5_startAnew 15 = .ok (.aload_n 0, 1) := by decide +kernel
theorem dX5_startAnew_16 : decode cX5_startAnew 16 = .ok (.getfield 9, 3) := by decide +kernel
theorem dX5_startAnew_19 : decode cX5_startAnew 19 = .ok (.iconst 0, 1) := by decide +kernel
theorem dX5_startAnew_20 : decode cX5_startAnew 20 = .ok (.invokestatic 26, 3) := by decide +kernel
theorem dX5_startAnew_23 : decode cX5_startAnew 23 = .ok (.return_, 1) := by decide +kernel
theorem dX5_set_0 : decode cX5_set 0 = .ok (.iload_n 1, 1) := by decide +kernel
theorem dX5_set_1 : decode cX5_set 1 = .ok (.ifCond .lt 46, 3) := by decide +kernel
theorem dX5_set_4 : decode cX5_set 4 = .ok (.iload_n 1, 1) := by decide +kernel
theorem dX5_set_5 : decode cX5_set 5 = .ok (.aload_n 0, 1) := by decide +kernel
theorem dX5_set_6 : decode cX5_set 6 = .ok (.getfield 23, 3) := by decide +kernel
theorem dX5_set_9 : decode cX5_set 9 = .ok (.if_icmp .ge 38, 3) := by decide +kernel
theorem dX5_set_12 : decode cX5_set 12 = .ok (.aload_n 0, 1) := by decide +kernel
theorem dX5_set_13 : decode cX5_set 13 = .ok (.getfield 9, 3) := by decide +kernel
theorem dX5_set_16 : decode cX5_set 16 = .ok (.iload_n 1, 1) := by decide +kernel
theorem dX5_set_17 : decode cX5_set 17 = .ok (.aload_n 0, 1) := by decide +kernel
theorem dX5_set_18 : decode cX5_set 18 = .ok (.getfield 15, 3) := by decide +kernel
theorem dX5_set_21 : decode cX5_set 21 = .ok (.bipush 8, 2) := by decide +kernel
theorem dX5_set_23 : decode cX5_set 23 = .ok (.if_icmp .ne 8, 3) := by decide +kernel
theorem dX5_set_26 : decode cX5_set 26 = .ok (.iload_n 2, 1) := by decide +kernel
theorem dX5_set_27 : decode cX5_set 27 = .ok (.i2b, 1) := by decide +kernel
theorem dX5_set_28 : decode cX5_set 28 = .ok (.goto 18, 3) := by decide +kernel
theorem dX5_set_31 : decode cX5_set 31 = .ok (.aload_n 0, 1) := by decide +kernel
theorem dX5_set_32 : decode cX5_set 32 = .ok (.getfield 15, 3) := by decide +kernel
theorem dX5_set_35 : decode cX5_set 35 = .ok (.bipush 16, 2) := by decide +kernel
theorem dX5_set_37 : decode cX5_set 37 = .ok (.if_icmp .ne 8, 3) := by decide +kernel
theorem dX5_set_40 : decode cX5_set 40 = .ok (.iload_n 2, 1) := by decide +kernel
theorem dX5_set_41 : decode cX5_set 41 = .ok (.i2s, 1) := by decide +kernel
theorem dX5_set_42 : decode cX5_set 42 = .ok (.goto 4, 3) := by decide +kernel
theorem dX5_set_45 : decode cX5_set 45 = .ok (.iload_n 2, 1) := by decide +kernel
theorem dX5_set_46 : decode cX5_set 46 = .ok (.iastore, 1) := by decide +kernel
theorem dX5_set_47 : decode cX5_set 47 = .ok (.return_, 1) := by decide +kernel
set_option maxRecDepth 20000 in
theorem ggX6_init_J7_copyOf_59c91 : GoodIn wsX6_init wsJ7_copyOf_59c91 := goodIn_r _ [12, 13, 14, 15, 16, 17, 18, 7, 19, 20, 21, 22, 23, 24, 25, 26] (by decide +kernel) (by decide +kernel)
set_option maxRecDepth 20000 in
theorem gX6_init_J7_copyOf_59c91 : GoodIn wsX6_init (va_wsS RX6 17 yJ7_copyOf_59c91 wsJ7_copyOf_59c91) := goodIn_app (goodIn_of _ (by decide +kernel)) ggX6_init_J7_copyOf_59c91
theorem dX6_init_0 : decode cX6_init 0 = .ok (.aload_n 0, 1) := by decide +kernel
theorem dX6_init_1 : decode cX6_init 1 = .ok (.invokespecial 1, 3) := by decide +kernel
theorem dX6_init_4 : decode cX6_init 4 = .ok (.aload_n 0, 1) := by decide +kernel
theorem dX6_init_5 : decode cX6_init 5 = .ok (.aload_n 1, 1) := by decide +kernel
theorem dX6_init_6 : decode cX6_init 6 = .ok (.getfield 7, 3) := by decide +kernel
theorem dX6_init_9 : decode cX6_init 9 = .ok (.aload_n 1, 1) := by decide +kernel
theorem dX6_init_10 : decode cX6_init 10 = .ok (.getfield 13, 3) := by decide +kernel
theorem dX6_init_13 : decode cX6_init 13 = .ok (.invokestatic 17, 3) := by decide +kernel
theorem dX6_init_16 : decode cX6_init 16 = .ok (.putfield 23, 3) := by decide +kernel
theorem dX6_init_19 : decode cX6_init 19 = .ok (.aload_n 0, 1) := by decide +kernel
theorem dX6_init_20 : decode cX6_init 20 = .ok (.aload_n 0, 1) := by decide +kernel
theorem dX6_init_21 : decode cX6_init 21 = .ok (.getfield 23, 3) := by decide +kernel
theorem dX6_init_24 : decode cX6_init 24 = .ok (.arraylength, 1) := by decide +kernel
theorem dX6_init_25 : decode cX6_init 25 = .ok (.newarray .int, 2) := by decide +kernel
theorem dX6_init_27 : decode cX6_init 27 = .ok (.putfield 28, 3) := by decide +kernel
theorem dX6_init_30 : decode cX6_init 30 = .ok (.return_, 1) := by decide +kernel
set_option maxRecDepth 20000 in
theorem ggX6_valueFor_X6_joined : GoodIn wsX6_valueFor wsX6_joined := goodIn_r _ [6] (by decide +kernel) (by decide +kernel)
set_option maxRecDepth 20000 in
theorem gX6_valueFor_X6_joined : GoodIn wsX6_valueFor (va_wsS RX6 31 yX6_joined wsX6_joined) := goodIn_app (goodIn_of _ (by decide +kernel)) ggX6_valueFor_X6_joined
theorem dX6_valueFor_0 : decode cX6_valueFor 0 = .ok (.iconst 0, 1) := by decide +kernel
theorem dX6_valueFor_1 : decode cX6_valueFor 1 = .ok (.istore 4, 2) := by decide +kernel
theorem dX6_valueFor_3 : decode cX6_valueFor 3 = .ok (.iconst 0, 1) := by decide +kernel
theorem dX6_valueFor_4 : decode cX6_valueFor 4 = .ok (.istore 5, 2) := by decide +kernel
theorem dX6_valueFor_6 : decode cX6_valueFor 6 = .ok (.iload 5, 2) := by decide +kernel
theorem dX6_valueFor_8 : decode cX6_valueFor 8 = .ok (.aload_n 0, 1) := by decide +kernel
theorem dX6_valueFor_9 : decode cX6_valueFor 9 = .ok (.getfield 23, 3) := by decide +kernel
theorem dX6_valueFor_12 : decode cX6_valueFor 12 = .ok (.arraylength, 1) := by decide +kernel
theorem dX6_valueFor_13 : decode cX6_valueFor 13 = .ok (.if_icmp .ge 161, 3) := by decide +kernel
theorem dX6_valueFor_16 : decode cX6_valueFor 16 = .ok (.aload_n 0, 1) := by decide +kernel
theorem dX6_valueFor_17 : decode cX6_valueFor 17 = .ok (.getfield 23, 3) := by decide +kernel
theorem dX6_valueFor_20 : decode cX6_valueFor 20 = .ok (.iload 5, 2) := by decide +kernel
theorem dX6_valueFor_22 : decode cX6_valueFor 22 = .ok (.iaload, 1) := by decide +kernel
theorem dX6_valueFor_23 : decode cX6_valueFor 23 = .ok (.istore 6, 2) := by decide +kernel
theorem dX6_valueFor_25 : decode cX6_valueFor 25 = .ok (.iload 6, 2) := by decide +kernel
theorem dX6_valueFor_27 : decode cX6_valueFor 27 = .ok (.bipush (-3), 2) := by decide +kernel
theorem dX6_valueFor_29 : decode cX6_valueFor 29 = .ok (.if_icmp .lt 58, 3) := by decide +kernel
theorem dX6_valueFor_32 : decode cX6_valueFor 32 = .ok (.iload 4, 2) := by decide +kernel
theorem dX6_valueFor_34 : decode cX6_valueFor 34 = .ok (.aload_n 0, 1) := by decide +kernel
theorem dX6_valueFor_35 : decode cX6_valueFor 35 = .ok (.getfield 28, 3) := by decide +kernel
theorem dX6_valueFor_38 : decode cX6_valueFor 38 = .ok (.arraylength, 1) := by decide +kernel
theorem dX6_valueFor_39 : decode cX6_valueFor 39 = .ok (.if_icmp .ge 129, 3) := by decide +kernel
theorem dX6_valueFor_42 : decode cX6_valueFor 42 = .ok (.aload_n 0, 1) := by decide +kernel
theorem dX6_valueFor_43 : decode cX6_valueFor 43 = .ok (.getfield 28, 3) := by decide +kernel
theorem dX6_valueFor_46 : decode cX6_valueFor 46 = .ok (.iload 4, 2) := by decide +kernel
theorem dX6_valueFor_48 : decode cX6_valueFor 48 = .ok (.iload 6, 2) := by decide +kernel
theorem dX6_valueFor_50 : decode cX6_valueFor 50 = .ok (.ifCond .lt 8, 3) := by decide +kernel
theorem dX6_valueFor_53 : decode cX6_valueFor 53 = .ok (.iload 6, 2) := by decide +kernel
theorem dX6_valueFor_55 : decode cX6_valueFor 55 = .ok (.goto 25, 3) := by decide +kernel
theorem dX6_valueFor_58 : decode cX6_valueFor 58 = .ok (.iload 6, 2) := by decide +kernel
theorem dX6_valueFor_60 : decode cX6_valueFor 60 = .ok (.iconst (-1), 1) := by decide +kernel
theorem dX6_valueFor_61 : decode cX6_valueFor 61 = .ok (.if_icmp .ne 7, 3) := by decide +kernel
theorem dX6_valueFor_64 : decode cX6_valueFor 64 = .ok (.iload_n 1, 1) := by decide +kernel
theorem dX6_valueFor_65 : decode cX6_valueFor 65 = .ok (.goto 15, 3) := by decide +kernel
theorem dX6_valueFor_68 : decode cX6_valueFor 68 = .ok (.iload 6, 2) := by decide +kernel
theorem dX6_valueFor_70 : decode cX6_valueFor 70 = .ok (.bipush (-2), 2) := by decide +kernel
theorem dX6_valueFor_72 : decode cX6_valueFor 72 = .ok (.if_icmp .ne 7, 3) := by decide +kernel
theorem dX6_valueFor_75 : decode cX6_valueFor 75 = .ok (.iload_n 2, 1) := by decide +kernel
theorem dX6_valueFor_76 : decode cX6_valueFor 76 = .ok (.goto 4, 3) := by decide +kernel
theorem dX6_valueFor_79 : decode cX6_valueFor 79 = .ok (.iload_n 3, 1) := by decide +kernel
theorem dX6_valueFor_80 : decode cX6_valueFor 80 = .ok (.iastore, 1) := by decide +kernel
theorem dX6_valueFor_81 : decode cX6_valueFor 81 = .ok (.iinc 4 1, 3) := by decide +kernel
theorem dX6_valueFor_84 : decode cX6_valueFor 84 = .ok (.goto 84, 3) := by decide +kernel
theorem dX6_valueFor_87 : decode cX6_valueFor 87 = .ok (.iload 6, 2) := by decide +kernel
theorem dX6_valueFor_89 : decode cX6_valueFor 89 = .ok (.bipush (-33), 2) := by decide +kernel
theorem dX6_valueFor_91 : decode cX6_valueFor 91 = .ok (.if_icmp .ne 37, 3) := by decide +kernel
theorem dX6_valueFor_94 : decode cX6_valueFor 94 = .ok (.iload 4, 2) := by decide +kernel
theorem dX6_valueFor_96 : decode cX6_valueFor 96 = .ok (.ifCond .le 72, 3) := by decide +kernel
theorem dX6_valueFor_99 : decode cX6_valueFor 99 = .ok (.aload_n 0, 1) := by decide +kernel
theorem dX6_valueFor_100 : decode cX6_valueFor 100 = .ok (.getfield 28, 3) := by decide +kernel
theorem dX6_valueFor_103 : decode cX6_valueFor 103 = .ok (.iload 4, 2) := by decide +kernel
theorem dX6_valueFor_105 : decode cX6_valueFor 105 = .ok (.iconst 1, 1) := by decide +kernel
theorem dX6_valueFor_106 : decode cX6_valueFor 106 = .ok (.isub, 1) := by decide +kernel
theorem dX6_valueFor_107 : decode cX6_valueFor 107 = .ok (.aload_n 0, 1) := by decide +kernel
theorem dX6_valueFor_108 : decode cX6_valueFor 108 = .ok (.getfield 28, 3) := by decide +kernel
theorem dX6_valueFor_111 : decode cX6_valueFor 111 = .ok (.iload 4, 2) := by decide +kernel
theorem dX6_valueFor_113 : decode cX6_valueFor 113 = .ok (.iconst 1, 1) := by decide +kernel
theorem dX6_valueFor_114 : decode cX6_valueFor 114 = .ok (.isub, 1) := by decide +kernel
theorem dX6_valueFor_115 : decode cX6_valueFor 115 = .ok (.iaload, 1) := by decide +kernel
theorem dX6_valueFor_116 : decode cX6_valueFor 116 = .ok (.ifCond .ne 7, 3) := by decide +kernel
theorem dX6_valueFor_119 : decode cX6_valueFor 119 = .ok (.iconst 1, 1) := by decide +kernel
theorem dX6_valueFor_120 : decode cX6_valueFor 120 = .ok (.goto 4, 3) := by decide +kernel
theorem dX6_valueFor_123 : decode cX6_valueFor 123 = .ok (.iconst 0, 1) := by decide +kernel
theorem dX6_valueFor_124 : decode cX6_valueFor 124 = .ok (.iastore, 1) := by decide +kernel
theorem dX6_valueFor_125 : decode cX6_valueFor 125 = .ok (.goto 43, 3) := by decide +kernel
theorem dX6_valueFor_128 : decode cX6_valueFor 128 = .ok (.iload 4, 2) := by decide +kernel
