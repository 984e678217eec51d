set_option maxRecDepth 20000 in
theorem ggX9_factor_X9_named : GoodIn wsX9_factor wsX9_named := goodIn_r _ [25, 11, 1, 26, 27, 28, 29, 30, 31, 7, 32, 3, 56, 57, 58, 59, 60, 61, 62, 63, 64, 65, 66, 67, 68, 69, 70, 71, 72, 73, 74, 75, 76, 77, 78, 79, 80, 81, 82, 83] (by decide +kernel) (by decide +kernel)
set_option maxRecDepth 20000 in
theorem gX9_factor_X9_named : GoodIn wsX9_factor (wsV RX9 145 RX9 yX9_named wsX9_named) := goodIn_app (goodIn_of _ (by decide +kernel)) ggX9_factor_X9_named
set_option maxRecDepth 20000 in
theorem ggX9_factor_X9_fails : GoodIn wsX9_factor wsX9_fails := goodIn_r _ [32, 3, 56, 57, 58, 59, 60, 61, 62, 63, 64, 65, 66, 67, 68, 69, 70, 71, 72, 73, 74, 75, 76, 77, 78, 79, 80, 81, 82, 83] (by decide +kernel) (by decide +kernel)
set_option maxRecDepth 20000 in
theorem gX9_factor_X9_fails : GoodIn wsX9_factor (wsV RX9 129 RX9 yX9_fails wsX9_fails) := goodIn_app (goodIn_of _ (by decide +kernel)) ggX9_factor_X9_fails
set_option maxRecDepth 20000 in
theorem ggX9_factor_X9_factor : GoodIn wsX9_factor wsX9_factor := goodIn_r _ [0, 1, 2, 3, 4, 5, 6, 7, 8, 9, 10, 11, 12, 13, 14, 15, 16, 17, 18, 19, 20, 21, 22, 23, 24, 25, 26, 27, 28, 29, 30, 31, 32, 33, 34, 35, 36, 37, 38, 39, 40, 41, 42, 43, 44, 45, 46, 47, 48, 49, 50, 51, 52, 53, 54, 55, 56, 57, 58, 59, 60, 61, 62, 63, 64, 65, 66, 67, 68, 69, 70, 71, 72, 73, 74, 75, 76, 77, 78, 79, 80, 81, 82, 83] (by decide +kernel) (by decide +kernel)
set_option maxRecDepth 20000 in
theorem gX9_factor_X9_factor : GoodIn wsX9_factor (wsV RX9 151 RX9 yX9_factor wsX9_factor) := goodIn_app (goodIn_of _ (by decide +kernel)) ggX9_factor_X9_factor
set_option maxRecDepth 20000 in
theorem ggX9_factor_X9_whole : GoodIn wsX9_factor wsX9_whole := goodIn_r _ [52, 3, 1, 53, 54, 55, 7, 4, 5, 6, 8, 9, 10, 11, 39, 40, 41, 42, 43, 44, 45, 46, 0, 2, 12, 13, 14, 15, 16, 17, 18, 19, 20, 21, 22, 23, 24, 25, 26, 27, 28, 29, 30, 31, 32, 33, 34, 35, 36, 37, 38, 47, 48, 49, 50, 51, 56, 57, 58, 59, 60, 61, 62, 63, 64, 65, 66, 67, 68, 69, 70, 71, 72, 73, 74, 75, 76, 77, 78, 79, 80, 81, 82, 83] (by decide +kernel) (by decide +kernel)
set_option maxRecDepth 20000 in
theorem gX9_factor_X9_whole : GoodIn wsX9_factor (wsV RX9 154 RX9 yX9_whole wsX9_whole) := goodIn_app (goodIn_of _ (by decide +kernel)) ggX9_factor_X9_whole
theorem dX9_factor_0 : decode cX9_factor 0 = .ok (.aload_n 0, 1) := by decide +kernel
theorem dX9_factor_1 : decode cX9_factor 1 = .ok (.aload_n 0, 1) := by decide +kernel
theorem dX9_factor_2 : decode cX9_factor 2 = .ok (.getfield 120, 3) := by decide +kernel
theorem dX9_factor_5 : decode cX9_factor 5 = .ok (.invokevirtual 123, 3) := by decide +kernel
theorem dX9_factor_8 : decode cX9_factor 8 = .ok (.istore_n 1, 1) := by decide +kernel
theorem dX9_factor_9 : decode cX9_factor 9 = .ok (.iload_n 1, 1) := by decide +kernel
theorem dX9_factor_10 : decode cX9_factor 10 = .ok (.invokestatic 126, 3) := by decide +kernel
theorem dX9_factor_13 : decode cX9_factor 13 = .ok (.ifCond .eq 8, 3) := by decide +kernel
theorem dX9_factor_16 : decode cX9_factor 16 = .ok (.aload_n 0, 1) := by decide +kernel
theorem dX9_factor_17 : decode cX9_factor 17 = .ok (.invokevirtual 142, 3) := by decide +kernel
theorem dX9_factor_20 : decode cX9_factor 20 = .ok (.ireturn, 1) := by decide +kernel
theorem dX9_factor_21 : decode cX9_factor 21 = .ok (.iload_n 1, 1) := by decide +kernel
theorem dX9_factor_22 : decode cX9_factor 22 = .ok (.bipush 33, 2) := by decide +kernel
theorem dX9_factor_24 : decode cX9_factor 24 = .ok (.if_icmp .eq 15, 3) := by decide +kernel
theorem dX9_factor_27 : decode cX9_factor 27 = .ok (.iload_n 1, 1) := by decide +kernel
theorem dX9_factor_28 : decode cX9_factor 28 = .ok (.bipush 40, 2) := by decide +kernel
theorem dX9_factor_30 : decode cX9_factor 30 = .ok (.if_icmp .eq 9, 3) := by decide +kernel
theorem dX9_factor_33 : decode cX9_factor 33 = .ok (.aload_n 0, 1) := by decide +kernel
theorem dX9_factor_34 : decode cX9_factor 34 = .ok (.iload_n 1, 1) := by decide +kernel
theorem dX9_factor_35 : decode cX9_factor 35 = .ok (.invokevirtual 145, 3) := by decide +kernel
theorem dX9_factor_38 : decode cX9_factor 38 = .ok (.ireturn, 1) := by decide +kernel
theorem dX9_factor_39 : decode cX9_factor 39 = .ok (.aload_n 0, 1) := by decide +kernel
theorem dX9_factor_40 : decode cX9_factor 40 = .ok (.getfield 148, 3) := by decide +kernel
theorem dX9_factor_43 : decode cX9_factor 43 = .ok (.iconst 5, 1) := by decide +kernel
theorem dX9_factor_44 : decode cX9_factor 44 = .ok (.if_icmp .ne 8, 3) := by decide +kernel
theorem dX9_factor_47 : decode cX9_factor 47 = .ok (.aload_n 0, 1) := by decide +kernel
theorem dX9_factor_48 : decode cX9_factor 48 = .ok (.invokevirtual 129, 3) := by decide +kernel
theorem dX9_factor_51 : decode cX9_factor 51 = .ok (.ireturn, 1) := by decide +kernel
theorem dX9_factor_52 : decode cX9_factor 52 = .ok (.aload_n 0, 1) := by decide +kernel
theorem dX9_factor_53 : decode cX9_factor 53 = .ok (.dup, 1) := by decide +kernel
theorem dX9_factor_54 : decode cX9_factor 54 = .ok (.getfield 148, 3) := by decide +kernel
theorem dX9_factor_57 : decode cX9_factor 57 = .ok (.iconst 1, 1) := by decide +kernel
theorem dX9_factor_58 : decode cX9_factor 58 = .ok (.iadd, 1) := by decide +kernel
theorem dX9_factor_59 : decode cX9_factor 59 = .ok (.putfield 148, 3) := by decide +kernel
theorem dX9_factor_62 : decode cX9_factor 62 = .ok (.aload_n 0, 1) := by decide +kernel
theorem dX9_factor_63 : decode cX9_factor 63 = .ok (.dup, 1) := by decide +kernel
theorem dX9_factor_64 : decode cX9_factor 64 = .ok (.getfield 120, 3) := by decide +kernel
theorem dX9_factor_67 : decode cX9_factor 67 = .ok (.iconst 1, 1) := by decide +kernel
theorem dX9_factor_68 : decode cX9_factor 68 = .ok (.iadd, 1) := by decide +kernel
theorem dX9_factor_69 : decode cX9_factor 69 = .ok (.putfield 120, 3) := by decide +kernel
theorem dX9_factor_72 : decode cX9_factor 72 = .ok (.iload_n 1, 1) := by decide +kernel
theorem dX9_factor_73 : decode cX9_factor 73 = .ok (.bipush 33, 2) := by decide +kernel
theorem dX9_factor_75 : decode cX9_factor 75 = .ok (.if_icmp .ne 10, 3) := by decide +kernel
theorem dX9_factor_78 : decode cX9_factor 78 = .ok (.aload_n 0, 1) := by decide +kernel
theorem dX9_factor_79 : decode cX9_factor 79 = .ok (.invokevirtual 151, 3) := by decide +kernel
theorem dX9_factor_82 : decode cX9_factor 82 = .ok (.goto 7, 3) := by decide +kernel
theorem dX9_factor_85 : decode cX9_factor 85 = .ok (.aload_n 0, 1) := by decide +kernel
theorem dX9_factor_86 : decode cX9_factor 86 = .ok (.invokevirtual 154, 3) := by decide +kernel
theorem dX9_factor_89 : decode cX9_factor 89 = .ok (.istore_n 2, 1) := by decide +kernel
theorem dX9_factor_90 : decode cX9_factor 90 = .ok (.aload_n 0, 1) := by decide +kernel
theorem dX9_factor_91 : decode cX9_factor 91 = .ok (.dup, 1) := by decide +kernel
theorem dX9_factor_92 : decode cX9_factor 92 = .ok (.getfield 148, 3) := by decide +kernel
theorem dX9_factor_95 : decode cX9_factor 95 = .ok (.iconst 1, 1) := by decide +kernel
theorem dX9_factor_96 : decode cX9_factor 96 = .ok (.isub, 1) := by decide +kernel
theorem dX9_factor_97 : decode cX9_factor 97 = .ok (.putfield 148, 3) := by decide +kernel
theorem dX9_factor_100 : decode cX9_factor 100 = .ok (.iload_n 1, 1) := by decide +kernel
theorem dX9_factor_101 : decode cX9_factor 101 = .ok (.bipush 33, 2) := by decide +kernel
theorem dX9_factor_103 : decode cX9_factor 103 = .ok (.if_icmp .ne 13, 3) := by decide +kernel
theorem dX9_factor_106 : decode cX9_factor 106 = .ok (.iload_n 2, 1) := by decide +kernel
theorem dX9_factor_107 : decode cX9_factor 107 = .ok (.ifCond .ne 7, 3) := by decide +kernel
theorem dX9_factor_110 : decode cX9_factor 110 = .ok (.iconst 1, 1) := by decide +kernel
theorem dX9_factor_111 : decode cX9_factor 111 = .ok (.goto 4, 3) := by decide +kernel
theorem dX9_factor_114 : decode cX9_factor 114 = .ok (.iconst 0, 1) := by decide +kernel
theorem dX9_factor_115 : decode cX9_factor 115 = .ok (.ireturn, 1) := by decide +kernel
theorem dX9_factor_116 : decode cX9_factor 116 = .ok (.aload_n 0, 1) := by decide +kernel
theorem dX9_factor_117 : decode cX9_factor 117 = .ok (.getfield 116, 3) := by decide +kernel
theorem dX9_factor_120 : decode cX9_factor 120 = .ok (.ifCond .eq 28, 3) := by decide +kernel
theorem dX9_factor_123 : decode cX9_factor 123 = .ok (.aload_n 0, 1) := by decide +kernel
theorem dX9_factor_124 : decode cX9_factor 124 = .ok (.aload_n 0, 1) := by decide +kernel
theorem dX9_factor_125 : decode cX9_factor 125 = .ok (.getfield 120, 3) := by decide +kernel
theorem dX9_factor_128 : decode cX9_factor 128 = .ok (.invokevirtual 123, 3) := by decide +kernel
theorem dX9_factor_131 : decode cX9_factor 131 = .ok (.bipush 41, 2) := by decide +kernel
theorem dX9_factor_133 : decode cX9_factor 133 = .ok (.if_icmp .ne 15, 3) := by decide +kernel
theorem dX9_factor_136 : decode cX9_factor 136 = .ok (.aload_n 0, 1) := by decide +kernel
theorem dX9_factor_137 : decode cX9_factor 137 = .ok (.dup, 1) := by decide +kernel
theorem dX9_factor_138 : decode cX9_factor 138 = .ok (.getfield 120, 3) := by decide +kernel
theorem dX9_factor_141 : decode cX9_factor 141 = .ok (.iconst 1, 1) := by decide +kernel
theorem dX9_factor_142 : decode cX9_factor 142 = .ok (.iadd, 1) := by decide +kernel
theorem dX9_factor_143 : decode cX9_factor 143 = .ok (.putfield 120, 3) := by decide +kernel
theorem dX9_factor_146 : decode cX9_factor 146 = .ok (.iload_n 2, 1) := by decide +kernel
theorem dX9_factor_147 : decode cX9_factor 147 = .ok (.ireturn, 1) := by decide +kernel
theorem dX9_factor_148 : decode cX9_factor 148 = .ok (.aload_n 0, 1) := by decide +kernel
theorem dX9_factor_149 : decode cX9_factor 149 = .ok (.invokevirtual 129, 3) := by decide +kernel
theorem dX9_factor_152 : decode cX9_factor 152 = .ok (.ireturn, 1) := by decide +kernel
set_option maxRecDepth 20000 in
theorem ggX9_product_X9_factor : GoodIn wsX9_product wsX9_factor := goodIn_r _ [22, 2, 23, 1, 7, 8, 9, 6, 10, 11, 12, 13, 24, 25, 26, 27, 28, 29, 30, 31, 32, 33, 34, 35, 36, 37, 38, 39, 40, 41, 42, 43, 44, 3, 4, 5, 45, 46, 47, 14, 15, 16, 17, 18, 19, 20, 21, 0, 48, 49, 50, 51, 52, 53, 54, 55, 56, 57, 58, 59, 60, 61, 62, 63, 64, 65, 66, 67, 68, 69, 70, 71, 72, 73, 74, 75, 76, 77, 78, 79, 80, 81, 82, 83] (by decide +kernel) (by decide +kernel)
set_option maxRecDepth 20000 in
theorem gX9_product_X9_factor : GoodIn wsX9_product (wsV RX9 151 RX9 yX9_factor wsX9_factor) := goodIn_app (goodIn_of _ (by decide +kernel)) ggX9_product_X9_factor
set_option maxRecDepth 20000 in
theorem ggX9_product_X9_byteAt : GoodIn wsX9_product wsX9_byteAt := goodIn_r _ [10, 11, 12, 13, 56, 57, 58, 59, 60, 61, 62, 63, 64, 65, 66, 67, 68, 69, 70, 71, 72, 73, 74, 75, 76, 77, 78, 79, 80, 81, 82, 83] (by decide +kernel) (by decide +kernel)
set_option maxRecDepth 20000 in
theorem gX9_product_X9_byteAt : GoodIn wsX9_product (wsV RX9 123 RX9 yX9_byteAt wsX9_byteAt) := goodIn_app (goodIn_of _ (by decide +kernel)) ggX9_product_X9_byteAt
theorem dX9_product_0 : decode cX9_product 0 = .ok (.aload_n 0, 1) := by decide +kernel
theorem dX9_product_1 : decode cX9_product 1 = .ok (.invokevirtual 151, 3) := by decide +kernel
theorem dX9_product_4 : decode cX9_product 4 = .ok (.istore_n 1, 1) := by decide +kernel
theorem dX9_product_5 : decode cX9_product 5 = .ok (.aload_n 0, 1) := by decide +kernel
theorem dX9_product_6 : decode cX9_product 6 = .ok (.getfield 116, 3) := by decide +kernel
theorem dX9_product_9 : decode cX9_product 9 = .ok (.ifCond .eq 105, 3) := by decide +kernel
theorem dX9_product_12 : decode cX9_product 12 = .ok (.aload_n 0, 1) := by decide +kernel
theorem dX9_product_13 : decode cX9_product 13 = .ok (.aload_n 0, 1) := by decide +kernel
theorem dX9_product_14 : decode cX9_product 14 = .ok (.getfield 120, 3) := by decide +kernel
theorem dX9_product_17 : decode cX9_product 17 = .ok (.invokevirtual 123, 3) := by decide +kernel
theorem dX9_product_20 : decode cX9_product 20 = .ok (.bipush 42, 2) := by decide +kernel
theorem dX9_product_22 : decode cX9_product 22 = .ok (.if_icmp .eq 29, 3) := by decide +kernel
theorem dX9_product_25 : decode cX9_product 25 = .ok (.aload_n 0, 1) := by decide +kernel
theorem dX9_product_26 : decode cX9_product 26 = .ok (.aload_n 0, 1) := by decide +kernel
theorem dX9_product_27 : decode cX9_product 27 = .ok (.getfield 120, 3) := by decide +kernel
theorem dX9_product_30 : decode cX9_product 30 = .ok (.invokevirtual 123, 3) := by decide +kernel
theorem dX9_product_33 : decode cX9_product 33 = .ok (.bipush 47, 2) := by decide +kernel
theorem dX9_product_35 : decode cX9_product 35 = .ok (.if_icmp .eq 16, 3) := by decide +kernel
theorem dX9_product_38 : decode cX9_product 38 = .ok (.aload_n 0, 1) := by decide +kernel
theorem dX9_product_39 : decode cX9_product 39 = .ok (.aload_n 0, 1) := by decide +kernel
theorem dX9_product_40 : decode cX9_product 40 = .ok (.getfield 120, 3) := by decide +kernel
theorem dX9_product_43 : decode cX9_product 43 = .ok (.invokevirtual 123, 3) := by decide +kernel
theorem dX9_product_46 : decode cX9_product 46 = .ok (.bipush 37, 2) := by decide +kernel
theorem dX9_product_48 : decode cX9_product 48 = .ok (.if_icmp .ne 66, 3) := by decide +kernel
theorem dX9_product_51 : decode cX9_product 51 = .ok (.aload_n 0, 1) := by decide +kernel
theorem dX9_product_52 : decode cX9_product 52 = .ok (.aload_n 0, 1) := by decide +kernel
theorem dX9_product_53 : decode cX9_product 53 = .ok (.getfield 120, 3) := by decide +kernel
theorem dX9_product_56 : decode cX9_product 56 = .ok (.invokevirtual 123, 3) := by decide +kernel
theorem dX9_product_59 : decode cX9_product 59 = .ok (.istore_n 2, 1) := by decide +kernel
theorem dX9_product_60 : decode cX9_product 60 = .ok (.aload_n 0, 1) := by decide +kernel
theorem dX9_product_61 : decode cX9_product 61 = .ok (.dup, 1) := by decide +kernel
theorem dX9_product_62 : decode cX9_product 62 = .ok (.getfield 120, 3) := by decide +kernel
theorem dX9_product_65 : decode cX9_product 65 = .ok (.iconst 1, 1) := by decide +kernel
theorem dX9_product_66 : decode cX9_product 66 = .ok (.iadd, 1) := by decide +kernel
theorem dX9_product_67 : decode cX9_product 67 = .ok (.putfield 120, 3) := by decide +kernel
theorem dX9_product_70 : decode cX9_product 70 = .ok (.aload_n 0, 1) := by decide +kernel
theorem dX9_product_71 : decode cX9_product 71 = .ok (.invokevirtual 151, 3) := by decide +kernel
theorem dX9_product_74 : decode cX9_product 74 = .ok (.istore_n 3, 1) := by decide +kernel
theorem dX9_product_75 : decode cX9_product 75 = .ok (.iload_n 2, 1) := by decide +kernel
theorem dX9_product_76 : decode cX9_product 76 = .ok (.bipush 42, 2) := by decide +kernel
theorem dX9_product_78 : decode cX9_product 78 = .ok (.if_icmp .ne 9, 3) := by decide +kernel
theorem dX9_product_81 : decode cX9_product 81 = .ok (.iload_n 1, 1) := by decide +kernel
theorem dX9_product_82 : decode cX9_product 82 = .ok (.iload_n 3, 1) := by decide +kernel
theorem dX9_product_83 : decode cX9_product 83 = .ok (.imul, 1) := by decide +kernel
theorem dX9_product_84 : decode cX9_product 84 = .ok (.goto 26, 3) := by decide +kernel
theorem dX9_product_87 : decode cX9_product 87 = .ok (.iload_n 3, 1) := by decide +kernel
theorem dX9_product_88 : decode cX9_product 88 = .ok (.ifCond .ne 7, 3) := by decide +kernel
theorem dX9_product_91 : decode cX9_product 91 = .ok (.iconst 0, 1) := by decide +kernel
theorem dX9_product_92 : decode cX9_product 92 = .ok (.goto 18, 3) := by decide +kernel
theorem dX9_product_95 : decode cX9_product 95 = .ok (.iload_n 2, 1) := by decide +kernel
theorem dX9_product_96 : decode cX9_product 96 = .ok (.bipush 47, 2) := by decide +kernel
theorem dX9_product_98 : decode cX9_product 98 = .ok (.if_icmp .ne 9, 3) := by decide +kernel
theorem dX9_product_101 : decode cX9_product 101 = .ok (.iload_n 1, 1) := by decide +kernel
theorem dX9_product_102 : decode cX9_product 102 = .ok (.iload_n 3, 1) := by decide +kernel
theorem dX9_product_103 : decode cX9_product 103 = .ok (.idiv, 1) := by decide +kernel
theorem dX9_product_104 : decode cX9_product 104 = .ok (.goto 6, 3) := by decide +kernel
theorem dX9_product_107 : decode cX9_product 107 = .ok (.iload_n 1, 1) := by decide +kernel
theorem dX9_product_108 : decode cX9_product 108 = .ok (.iload_n 3, 1) := by decide +kernel
theorem dX9_product_109 : decode cX9_product 109 = .ok (.irem, 1) := by decide +kernel
theorem dX9_product_110 : decode cX9_product 110 = .ok (.istore_n 1, 1) := by decide +kernel
theorem dX9_product_111 : decode cX9_product 111 = .ok (.goto (-106), 3) := by decide +kernel
theorem dX9_product_114 : decode cX9_product 114 = .ok (.iload_n 1, 1) := by decide +kernel
theorem dX9_product_115 : decode cX9_product 115 = .ok (.ireturn, 1) := by decide +kernel
set_option maxRecDepth 20000 in
theorem ggX9_sum_X9_product : GoodIn wsX9_sum wsX9_product := goodIn_r _ [51, 1, 2, 45, 46, 47, 6, 7, 8, 9, 10, 11, 12, 13, 14, 15, 16, 17, 18, 19, 20, 21, 22, 23, 24, 25, 26, 27, 28, 29, 30, 31, 32, 33, 34, 35, 36, 37, 38, 39, 40, 41, 42, 43, 44, 48, 49, 50, 0, 3, 4, 5, 52, 53, 54, 55, 56, 57, 58, 59, 60, 61, 62, 63, 64, 65, 66, 67, 68, 69, 70, 71, 72, 73, 74, 75, 76, 77, 78, 79, 80, 81, 82, 83] (by decide +kernel) (by decide +kernel)
set_option maxRecDepth 20000 in
theorem gX9_sum_X9_product : GoodIn wsX9_sum (wsV RX9 157 RX9 yX9_product wsX9_product) := goodIn_app (goodIn_of _ (by decide +kernel)) ggX9_sum_X9_product
set_option maxRecDepth 20000 in
theorem ggX9_sum_X9_byteAt : GoodIn wsX9_sum wsX9_byteAt := goodIn_r _ [10, 11, 12, 13, 56, 57, 58, 59, 60, 61, 62, 63, 64, 65, 66, 67, 68, 69, 70, 71, 72, 73, 74, 75, 76, 77, 78, 79, 80, 81, 82, 83] (by decide +kernel) (by decide +kernel)
set_option maxRecDepth 20000 in
theorem gX9_sum_X9_byteAt : GoodIn wsX9_sum (wsV RX9 123 RX9 yX9_byteAt wsX9_byteAt) := goodIn_app (goodIn_of _ (by decide +kernel)) ggX9_sum_X9_byteAt
theorem dX9_sum_0 : decode cX9_sum 0 = .ok (.aload_n 0, 1) := by decide +kernel
theorem dX9_sum_1 : decode cX9_sum 1 = .ok (.invokevirtual 157, 3) := by decide +kernel
theorem dX9_sum_4 : decode cX9_sum 4 = .ok (.istore_n 1, 1) := by decide +kernel
theorem dX9_sum_5 : decode cX9_sum 5 = .ok (.aload_n 0, 1) := by decide +kernel
theorem dX9_sum_6 : decode cX9_sum 6 = .ok (.getfield 116, 3) := by decide +kernel
theorem dX9_sum_9 : decode cX9_sum 9 = .ok (.ifCond .eq 72, 3) := by decide +kernel
theorem dX9_sum_12 : decode cX9_sum 12 = .ok (.aload_n 0, 1) := by decide +kernel
theorem dX9_sum_13 : decode cX9_sum 13 = .ok (.aload_n 0, 1) := by decide +kernel
theorem dX9_sum_14 : decode cX9_sum 14 = .ok (.getfield 120, 3) := by decide +kernel
theorem dX9_sum_17 : decode cX9_sum 17 = .ok (.invokevirtual 123, 3) := by decide +kernel
theorem dX9_sum_20 : decode cX9_sum 20 = .ok (.bipush 43, 2) := by decide +kernel
theorem dX9_sum_22 : decode cX9_sum 22 = .ok (.if_icmp .eq 16, 3) := by decide +kernel
theorem dX9_sum_25 : decode cX9_sum 25 = .ok (.aload_n 0, 1) := by decide +kernel
theorem dX9_sum_26 : decode cX9_sum 26 = .ok (.aload_n 0, 1) := by decide +kernel
theorem dX9_sum_27 : decode cX9_sum 27 = .ok (.getfield 120, 3) := by decide +kernel
theorem dX9_sum_30 : decode cX9_sum 30 = .ok (.invokevirtual 123, 3) := by decide +kernel
theorem dX9_sum_33 : decode cX9_sum 33 = .ok (.bipush 45, 2) := by decide +kernel
theorem dX9_sum_35 : decode cX9_sum 35 = .ok (.if_icmp .ne 46, 3) := by decide +kernel
theorem dX9_sum_38 : decode cX9_sum 38 = .ok (.aload_n 0, 1) := by decide +kernel
theorem dX9_sum_39 : decode cX9_sum 39 = .ok (.aload_n 0, 1) := by decide +kernel
theorem dX9_sum_40 : decode cX9_sum 40 = .ok (.getfield 120, 3) := by decide +kernel
theorem dX9_sum_43 : decode cX9_sum 43 = .ok (.invokevirtual 123, 3) := by decide +kernel
theorem dX9_sum_46 : decode cX9_sum 46 = .ok (.istore_n 2, 1) := by decide +kernel
theorem dX9_sum_47 : decode cX9_sum 47 = .ok (.aload_n 0, 1) := by decide +kernel
theorem dX9_sum_48 : decode cX9_sum 48 = .ok (.dup, 1) := by decide +kernel
theorem dX9_sum_49 : decode cX9_sum 49 = .ok (.getfield 120, 3) := by decide +kernel
theorem dX9_sum_52 : decode cX9_sum 52 = .ok (.iconst 1, 1) := by decide +kernel
theorem dX9_sum_53 : decode cX9_sum 53 = .ok (.iadd, 1) := by decide +kernel
theorem dX9_sum_54 : decode cX9_sum 54 = .ok (.putfield 120, 3) := by decide +kernel
theorem dX9_sum_57 : decode cX9_sum 57 = .ok (.aload_n 0, 1) := by decide +kernel
theorem dX9_sum_58 : decode cX9_sum 58 = .ok (.invokevirtual 157, 3) := by decide +kernel
theorem dX9_sum_61 : decode cX9_sum 61 = .ok (.istore_n 3, 1) := by decide +kernel
theorem dX9_sum_62 : decode cX9_sum 62 = .ok (.iload_n 2, 1) := by decide +kernel
theorem dX9_sum_63 : decode cX9_sum 63 = .ok (.bipush 43, 2) := by decide +kernel
theorem dX9_sum_65 : decode cX9_sum 65 = .ok (.if_icmp .ne 9, 3) := by decide +kernel
theorem dX9_sum_68 : decode cX9_sum 68 = .ok (.iload_n 1, 1) := by decide +kernel
theorem dX9_sum_69 : decode cX9_sum 69 = .ok (.iload_n 3, 1) := by decide +kernel
theorem dX9_sum_70 : decode cX9_sum 70 = .ok (.iadd, 1) := by decide +kernel
theorem dX9_sum_71 : decode cX9_sum 71 = .ok (.goto 6, 3) := by decide +kernel
theorem dX9_sum_74 : decode cX9_sum 74 = .ok (.iload_n 1, 1) := by decide +kernel
theorem dX9_sum_75 : decode cX9_sum 75 = .ok (.iload_n 3, 1) := by decide +kernel
theorem dX9_sum_76 : decode cX9_sum 76 = .ok (.isub, 1) := by decide +kernel
theorem dX9_sum_77 : decode cX9_sum 77 = .ok (.istore_n 1, 1) := by decide +kernel
theorem dX9_sum_78 : decode cX9_sum 78 = .ok (.goto (-73), 3) := by decide +kernel
theorem dX9_sum_81 : decode cX9_sum 81 = .ok (.iload_n 1, 1) := by decide +kernel
theorem dX9_sum_82 : decode cX9_sum 82 = .ok (.ireturn, 1) := by decide +kernel
set_option maxRecDepth 20000 in
theorem ggX9_compared_X9_sum : GoodIn wsX9_compared wsX9_sum := goodIn_r _ [48, 1, 2, 49, 50, 51, 6, 7, 8, 9, 10, 11, 12, 13, 14, 15, 16, 17, 0, 3, 4, 5, 18, 19, 20, 21, 22, 23, 24, 25, 26, 27, 28, 29, 30, 31, 32, 33, 34, 35, 36, 37, 38, 39, 40, 41, 42, 43, 44, 45, 46, 47, 52, 53, 54, 55, 56, 57, 58, 59, 60, 61, 62, 63, 64, 65, 66, 67, 68, 69, 70, 71, 72, 73, 74, 75, 76, 77, 78, 79, 80, 81, 82, 83] (by decide +kernel) (by decide +kernel)
set_option maxRecDepth 20000 in
theorem gX9_compared_X9_sum : GoodIn wsX9_compared (wsV RX9 160 RX9 yX9_sum wsX9_sum) := goodIn_app (goodIn_of _ (by decide +kernel)) ggX9_compared_X9_sum
set_option maxRecDepth 20000 in
theorem ggX9_compared_X9_byteAt : GoodIn wsX9_compared wsX9_byteAt := goodIn_r _ [10, 11, 12, 13, 56, 57, 58, 59, 60, 61, 62, 63, 64, 65, 66, 67, 68, 69, 70, 71, 72, 73, 74, 75, 76, 77, 78, 79, 80, 81, 82, 83] (by decide +kernel) (by decide +kernel)
set_option maxRecDepth 20000 in
theorem gX9_compared_X9_byteAt : GoodIn wsX9_compared (wsV RX9 123 RX9 yX9_byteAt wsX9_byteAt) := goodIn_app (goodIn_of _ (by decide +kernel)) ggX9_compared_X9_byteAt
theorem dX9_compared_0 : decode cX9_compared 0 = .ok (.aload_n 0, 1) := by decide +kernel
theorem dX9_compared_1 : decode cX9_compared 1 = .ok (.invokevirtual 160, 3) := by decide +kernel
theorem dX9_compared_4 : decode cX9_compared 4 = .ok (.istore_n 1, 1) := by decide +kernel
theorem dX9_compared_5 : decode cX9_compared 5 = .ok (.aload_n 0, 1) := by decide +kernel
theorem dX9_compared_6 : decode cX9_compared 6 = .ok (.getfield 116, 3) := by decide +kernel
theorem dX9_compared_9 : decode cX9_compared 9 = .ok (.ifCond .eq 14, 3) := by decide +kernel
theorem dX9_compared_12 : decode cX9_compared 12 = .ok (.aload_n 0, 1) := by decide +kernel
theorem dX9_compared_13 : decode cX9_compared 13 = .ok (.aload_n 0, 1) := by decide +kernel
theorem dX9_compared_14 : decode cX9_compared 14 = .ok (.getfield 120, 3) := by decide +kernel
theorem dX9_compared_17 : decode cX9_compared 17 = .ok (.invokevirtual 123, 3) := by decide +kernel
theorem dX9_compared_20 : decode cX9_compared 20 = .ok (.goto 4, 3) := by decide +kernel
theorem dX9_compared_23 : decode cX9_compared 23 = .ok (.iconst (-1), 1) := by decide +kernel
theorem dX9_compared_24 : decode cX9_compared 24 = .ok (.istore_n 2, 1) := by decide +kernel
theorem dX9_compared_25 : decode cX9_compared 25 = .ok (.iload_n 2, 1) := by decide +kernel
theorem dX9_compared_26 : decode cX9_compared 26 = .ok (.bipush 60, 2) := by decide +kernel
theorem dX9_compared_28 : decode cX9_compared 28 = .ok (.if_icmp .eq 17, 3) := by decide +kernel
theorem dX9_compared_31 : decode cX9_compared 31 = .ok (.iload_n 2, 1) := by decide +kernel
theorem dX9_compared_32 : decode cX9_compared 32 = .ok (.bipush 61, 2) := by decide +kernel
theorem dX9_compared_34 : decode cX9_compared 34 = .ok (.if_icmp .eq 11, 3) := by decide +kernel
theorem dX9_compared_37 : decode cX9_compared 37 = .ok (.iload_n 2, 1) := by decide +kernel
theorem dX9_compared_38 : decode cX9_compared 38 = .ok (.bipush 62, 2) := by decide +kernel
theorem dX9_compared_40 : decode cX9_compared 40 = .ok (.if_icmp .eq 5, 3) := by decide +kernel
theorem dX9_compared_43 : decode cX9_compared 43 = .ok (.iload_n 1, 1) := by decide +kernel
theorem dX9_compared_44 : decode cX9_compared 44 = .ok (.ireturn, 1) := by decide +kernel
theorem dX9_compared_45 : decode cX9_compared 45 = .ok (.aload_n 0, 1) := by decide +kernel
theorem dX9_compared_46 : decode cX9_compared 46 = .ok (.dup, 1) := by decide +kernel
theorem dX9_compared_47 : decode cX9_compared 47 = .ok (.getfield 120, 3) := by decide +kernel
theorem dX9_compared_50 : decode cX9_compared 50 = .ok (.iconst 1, 1) := by decide +kernel
theorem dX9_compared_51 : decode cX9_compared 51 = .ok (.iadd, 1) := by decide +kernel
theorem dX9_compared_52 : decode cX9_compared 52 = .ok (.putfield 120, 3) := by decide +kernel
theorem dX9_compared_55 : decode cX9_compared 55 = .ok (.aload_n 0, 1) := by decide +kernel
theorem dX9_compared_56 : decode cX9_compared 56 = .ok (.invokevirtual 160, 3) := by decide +kernel
theorem dX9_compared_59 : decode cX9_compared 59 = .ok (.istore_n 3, 1) := by decide +kernel
theorem dX9_compared_60 : decode cX9_compared 60 = .ok (.iload_n 2, 1) := by decide +kernel
theorem dX9_compared_61 : decode cX9_compared 61 = .ok (.bipush 60, 2) := by decide +kernel
theorem dX9_compared_63 : decode cX9_compared 63 = .ok (.if_icmp .ne 16, 3) := by decide +kernel
theorem dX9_compared_66 : decode cX9_compared 66 = .ok (.iload_n 1, 1) := by decide +kernel
theorem dX9_compared_67 : decode cX9_compared 67 = .ok (.iload_n 3, 1) := by decide +kernel
theorem dX9_compared_68 : decode cX9_compared 68 = .ok (.if_icmp .ge 7, 3) := by decide +kernel
theorem dX9_compared_71 : decode cX9_compared 71 = .ok (.iconst 1, 1) := by decide +kernel
theorem dX9_compared_72 : decode cX9_compared 72 = .ok (.goto 36, 3) := by decide +kernel
theorem dX9_compared_75 : decode cX9_compared 75 = .ok (.iconst 0, 1) := by decide +kernel
theorem dX9_compared_76 : decode cX9_compared 76 = .ok (.goto 32, 3) := by decide +kernel
theorem dX9_compared_79 : decode cX9_compared 79 = .ok (.iload_n 2, 1) := by decide +kernel
theorem dX9_compared_80 : decode cX9_compared 80 = .ok (.bipush 61, 2) := by decide +kernel
theorem dX9_compared_82 : decode cX9_compared 82 = .ok (.if_icmp .ne 16, 3) := by decide +kernel
theorem dX9_compared_85 : decode cX9_compared 85 = .ok (.iload_n 1, 1) := by decide +kernel
theorem dX9_compared_86 : decode cX9_compared 86 = .ok (.iload_n 3, 1) := by decide +kernel
theorem dX9_compared_87 : decode cX9_compared 87 = .ok (.if_icmp .ne 7, 3) := by decide +kernel
theorem dX9_compared_90 : decode cX9_compared 90 = .ok (.iconst 1, 1) := by decide +kernel
theorem dX9_compared_91 : decode cX9_compared 91 = .ok (.goto 17, 3) := by decide +kernel
theorem dX9_compared_94 : decode cX9_compared 94 = .ok (.iconst 0, 1) := by decide +kernel
theorem dX9_compared_95 : decode cX9_compared 95 = .ok (.goto 13, 3) := by decide +kernel
theorem dX9_compared_98 : decode cX9_compared 98 = .ok (.iload_n 1, 1) := by decide +kernel
theorem dX9_compared_99 : decode cX9_compared 99 = .ok (.iload_n 3, 1) := by decide +kernel
theorem dX9_compared_100 : decode cX9_compared 100 = .ok (.if_icmp .le 7, 3) := by decide +kernel
theorem dX9_compared_103 : decode cX9_compared 103 = .ok (.iconst 1, 1) := by decide +kernel
theorem dX9_compared_104 : decode cX9_compared 104 = .ok (.goto 4, 3) := by decide +kernel
theorem dX9_compared_107 : decode cX9_compared 107 = .ok (.iconst 0, 1) := by decide +kernel
theorem dX9_compared_108 : decode cX9_compared 108 = .ok (.istore 4, 2) := by decide +kernel
theorem dX9_compared_110 : decode cX9_compared 110 = .ok (.iload 4, 2) := by decide +kernel
theorem dX9_compared_112 : decode cX9_compared 112 = .ok (.ifCond .eq 7, 3) := by decide +kernel
theorem dX9_compared_115 : decode cX9_compared 115 = .ok (.iconst 1, 1) := by decide +kernel
theorem dX9_compared_116 : decode cX9_compared 116 = .ok (.goto 4, 3) := by decide +kernel
theorem dX9_compared_119 : decode cX9_compared 119 = .ok (.iconst 0, 1) := by decide +kernel
theorem dX9_compared_120 : decode cX9_compared 120 = .ok (.ireturn, 1) := by decide +kernel
set_option maxRecDepth 20000 in
theorem ggX9_both_X9_compared : GoodIn wsX9_both wsX9_compared := goodIn_r _ [14, 1, 2, 15, 16, 17, 6, 7, 8, 9, 10, 11, 12, 13, 0, 3, 4, 5, 18, 19, 20, 21, 22, 23, 24, 25, 26, 27, 28, 29, 30, 31, 32, 33, 34, 35, 36, 37, 38, 39, 40, 41, 42, 43, 44, 45, 46, 47, 48, 49, 50, 51, 52, 53, 54, 55, 56, 57, 58, 59, 60, 61, 62, 63, 64, 65, 66, 67, 68, 69, 70, 71, 72, 73, 74, 75, 76, 77, 78, 79, 80, 81, 82, 83] (by decide +kernel) (by decide +kernel)
set_option maxRecDepth 20000 in
theorem gX9_both_X9_compared : GoodIn wsX9_both (wsV RX9 163 RX9 yX9_compared wsX9_compared) := goodIn_app (goodIn_of _ (by decide +kernel)) ggX9_both_X9_compared
set_option maxRecDepth 20000 in
theorem ggX9_both_X9_byteAt : GoodIn wsX9_both wsX9_byteAt := goodIn_r _ [10, 11, 12, 13, 56, 57, 58, 59, 60, 61, 62, 63, 64, 65, 66, 67, 68, 69, 70, 71, 72, 73, 74, 75, 76, 77, 78, 79, 80, 81, 82, 83] (by decide +kernel) (by decide +kernel)
set_option maxRecDepth 20000 in
theorem gX9_both_X9_byteAt : GoodIn wsX9_both (wsV RX9 123 RX9 yX9_byteAt wsX9_byteAt) := goodIn_app (goodIn_of _ (by decide +kernel)) ggX9_both_X9_byteAt
theorem dX9_both_0 : decode cX9_both 0 = .ok (.aload_n 0, 1) := by decide +kernel
theorem dX9_both_1 : decode cX9_both 1 = .ok (.invokevirtual 163, 3) := by decide +kernel
theorem dX9_both_4 : decode cX9_both 4 = .ok (.istore_n 1, 1) := by decide +kernel
theorem dX9_both_5 : decode cX9_both 5 = .ok (.aload_n 0, 1) := by decide +kernel
theorem dX9_both_6 : decode cX9_both 6 = .ok (.getfield 116, 3) := by decide +kernel
theorem dX9_both_9 : decode cX9_both 9 = .ok (.ifCond .eq 48, 3) := by decide +kernel
theorem dX9_both_12 : decode cX9_both 12 = .ok (.aload_n 0, 1) := by decide +kernel
theorem dX9_both_13 : decode cX9_both 13 = .ok (.aload_n 0, 1) := by decide +kernel
theorem dX9_both_14 : decode cX9_both 14 = .ok (.getfield 120, 3) := by decide +kernel
theorem dX9_both_17 : decode cX9_both 17 = .ok (.invokevirtual 123, 3) := by decide +kernel
theorem dX9_both_20 : decode cX9_both 20 = .ok (.bipush 38, 2) := by decide +kernel
theorem dX9_both_22 : decode cX9_both 22 = .ok (.if_icmp .ne 35, 3) := by decide +kernel
theorem dX9_both_25 : decode cX9_both 25 = .ok (.aload_n 0, 1) := by decide +kernel
theorem dX9_both_26 : decode cX9_both 26 = .ok (.dup, 1) := by decide +kernel
theorem dX9_both_27 : decode cX9_both 27 = .ok (.getfield 120, 3) := by decide +kernel
theorem dX9_both_30 : decode cX9_both 30 = .ok (.iconst 1, 1) := by decide +kernel
theorem dX9_both_31 : decode cX9_both 31 = .ok (.iadd, 1) := by decide +kernel
theorem dX9_both_32 : decode cX9_both 32 = .ok (.putfield 120, 3) := by decide +kernel
theorem dX9_both_35 : decode cX9_both 35 = .ok (.aload_n 0, 1) := by decide +kernel
theorem dX9_both_36 : decode cX9_both 36 = .ok (.invokevirtual 163, 3) := by decide +kernel
theorem dX9_both_39 : decode cX9_both 39 = .ok (.istore_n 2, 1) := by decide +kernel
theorem dX9_both_40 : decode cX9_both 40 = .ok (.iload_n 1, 1) := by decide +kernel
theorem dX9_both_41 : decode cX9_both 41 = .ok (.ifCond .eq 11, 3) := by decide +kernel
theorem dX9_both_44 : decode cX9_both 44 = .ok (.iload_n 2, 1) := by decide +kernel
theorem dX9_both_45 : decode cX9_both 45 = .ok (.ifCond .eq 7, 3) := by decide +kernel
theorem dX9_both_48 : decode cX9_both 48 = .ok (.iconst 1, 1) := by decide +kernel
theorem dX9_both_49 : decode cX9_both 49 = .ok (.goto 4, 3) := by decide +kernel
theorem dX9_both_52 : decode cX9_both 52 = .ok (.iconst 0, 1) := by decide +kernel
theorem dX9_both_53 : decode cX9_both 53 = .ok (.istore_n 1, 1) := by decide +kernel
theorem dX9_both_54 : decode cX9_both 54 = .ok (.goto (-49), 3) := by decide +kernel
theorem dX9_both_57 : decode cX9_both 57 = .ok (.iload_n 1, 1) := by decide +kernel
theorem dX9_both_58 : decode cX9_both 58 = .ok (.ireturn, 1) := by decide +kernel
set_option maxRecDepth 20000 in
theorem ggX9_whole_X9_both : GoodIn wsX9_whole wsX9_both := goodIn_r _ [14, 1, 2, 15, 16, 17, 6, 7, 8, 9, 10, 11, 12, 13, 18, 19, 20, 21, 22, 23, 24, 25, 26, 27, 28, 29, 30, 31, 32, 33, 34, 35, 36, 37, 38, 39, 40, 41, 42, 43, 44, 45, 46, 47, 48, 49, 50, 51, 52, 53, 54, 55, 0, 3, 4, 5, 56, 57, 58, 59, 60, 61, 62, 63, 64, 65, 66, 67, 68, 69, 70, 71, 72, 73, 74, 75, 76, 77, 78, 79, 80, 81, 82, 83] (by decide +kernel) (by decide +kernel)
set_option maxRecDepth 20000 in
theorem gX9_whole_X9_both : GoodIn wsX9_whole (wsV RX9 166 RX9 yX9_both wsX9_both) := goodIn_app (goodIn_of _ (by decide +kernel)) ggX9_whole_X9_both
set_option maxRecDepth 20000 in
theorem ggX9_whole_X9_byteAt : GoodIn wsX9_whole wsX9_byteAt := goodIn_r _ [10, 11, 12, 13, 56, 57, 58, 59, 60, 61, 62, 63, 64, 65, 66, 67, 68, 69, 70, 71, 72, 73, 74, 75, 76, 77, 78, 79, 80, 81, 82, 83] (by decide +kernel) (by decide +kernel)
set_option maxRecDepth 20000 in
theorem gX9_whole_X9_byteAt : GoodIn wsX9_whole (wsV RX9 123 RX9 yX9_byteAt wsX9_byteAt) := goodIn_app (goodIn_of _ (by decide +kernel)) ggX9_whole_X9_byteAt
theorem dX9_whole_0 : decode cX9_whole 0 = .ok (.aload_n 0, 1) := by decide +kernel
theorem dX9_whole_1 : decode cX9_whole 1 = .ok (.invokevirtual 166, 3) := by decide +kernel
theorem dX9_whole_4 : decode cX9_whole 4 = .ok (.istore_n 1, 1) := by decide +kernel
theorem dX9_whole_5 : decode cX9_whole 5 = .ok (.aload_n 0, 1) := by decide +kernel
theorem dX9_whole_6 : decode cX9_whole 6 = .ok (.getfield 116, 3) := by decide +kernel
theorem dX9_whole_9 : decode cX9_whole 9 = .ok (.ifCond .eq 48, 3) := by decide +kernel
theorem dX9_whole_12 : decode cX9_whole 12 = .ok (.aload_n 0, 1) := by decide +kernel
theorem dX9_whole_13 : decode cX9_whole 13 = .ok (.aload_n 0, 1) := by decide +kernel
theorem dX9_whole_14 : decode cX9_whole 14 = .ok (.getfield 120, 3) := by decide +kernel
theorem dX9_whole_17 : decode cX9_whole 17 = .ok (.invokevirtual 123, 3) := by decide +kernel
theorem dX9_whole_20 : decode cX9_whole 20 = .ok (.bipush 124, 2) := by decide +kernel
theorem dX9_whole_22 : decode cX9_whole 22 = .ok (.if_icmp .ne 35, 3) := by decide +kernel
theorem dX9_whole_25 : decode cX9_whole 25 = .ok (.aload_n 0, 1) := by decide +kernel
theorem dX9_whole_26 : decode cX9_whole 26 = .ok (.dup, 1) := by decide +kernel
theorem dX9_whole_27 : decode cX9_whole 27 = .ok (.getfield 120, 3) := by decide +kernel
theorem dX9_whole_30 : decode cX9_whole 30 = .ok (.iconst 1, 1) := by decide +kernel
theorem dX9_whole_31 : decode cX9_whole 31 = .ok (.iadd, 1) := by decide +kernel
theorem dX9_whole_32 : decode cX9_whole 32 = .ok (.putfield 120, 3) := by decide +kernel
theorem dX9_whole_35 : decode cX9_whole 35 = .ok (.aload_n 0, 1) := by decide +kernel
theorem dX9_whole_36 : decode cX9_whole 36 = .ok (.invokevirtual 166, 3) := by decide +kernel
theorem dX9_whole_39 : decode cX9_whole 39 = .ok (.istore_n 2, 1) := by decide +kernel
theorem dX9_whole_40 : decode cX9_whole 40 = .ok (.iload_n 1, 1) := by decide +kernel
theorem dX9_whole_41 : decode cX9_whole 41 = .ok (.ifCond .ne 7, 3) := by decide +kernel
theorem dX9_whole_44 : decode cX9_whole 44 = .ok (.iload_n 2, 1) := by decide +kernel
theorem dX9_whole_45 : decode cX9_whole 45 = .ok (.ifCond .eq 7, 3) := by decide +kernel
theorem dX9_whole_48 : decode cX9_whole 48 = .ok (.iconst 1, 1) := by decide +kernel
theorem dX9_whole_49 : decode cX9_whole 49 = .ok (.goto 4, 3) := by decide +kernel
theorem dX9_whole_52 : decode cX9_whole 52 = .ok (.iconst 0, 1) := by decide +kernel
theorem dX9_whole_53 : decode cX9_whole 53 = .ok (.istore_n 1, 1) := by decide +kernel
theorem dX9_whole_54 : decode cX9_whole 54 = .ok (.goto (-49), 3) := by decide +kernel
theorem dX9_whole_57 : decode cX9_whole 57 = .ok (.iload_n 1, 1) := by decide +kernel
theorem dX9_whole_58 : decode cX9_whole 58 = .ok (.ireturn, 1) := by decide +kernel
set_option maxRecDepth 20000 in
theorem ggX9_walks_X9_whole : GoodIn wsX9_walks wsX9_whole := goodIn_r _ [14, 6, 2, 15, 16, 17, 13, 18, 19, 20, 21, 4, 3, 1, 22, 23, 24, 25, 26, 27, 28, 29, 30, 5, 31, 32, 33, 34, 35, 36, 37, 38, 39, 40, 41, 42, 43, 44, 7, 8, 9, 45, 46, 47, 48, 49, 50, 51, 10, 11, 12, 52, 53, 54, 55, 56, 57, 58, 59, 60, 61, 62, 63, 64, 65, 66, 67, 68, 69, 70, 71, 72, 73, 74, 75, 76, 77, 78, 79, 80, 81, 82, 83, 84] (by decide +kernel) (by decide +kernel)
set_option maxRecDepth 20000 in
theorem gX9_walks_X9_whole : GoodIn wsX9_walks (wsV RX9 154 RX9 yX9_whole wsX9_whole) := goodIn_app (goodIn_of _ (by decide +kernel)) ggX9_walks_X9_whole
theorem dX9_walks_0 : decode cX9_walks 0 = .ok (.aload_n 0, 1) := by decide +kernel
theorem dX9_walks_1 : decode cX9_walks 1 = .ok (.iload_n 1, 1) := by decide +kernel
theorem dX9_walks_2 : decode cX9_walks 2 = .ok (.putfield 113, 3) := by decide +kernel
theorem dX9_walks_5 : decode cX9_walks 5 = .ok (.aload_n 0, 1) := by decide +kernel
theorem dX9_walks_6 : decode cX9_walks 6 = .ok (.iconst 0, 1) := by decide +kernel
theorem dX9_walks_7 : decode cX9_walks 7 = .ok (.putfield 120, 3) := by decide +kernel
theorem dX9_walks_10 : decode cX9_walks 10 = .ok (.aload_n 0, 1) := by decide +kernel
theorem dX9_walks_11 : decode cX9_walks 11 = .ok (.aload_n 0, 1) := by decide +kernel
theorem dX9_walks_12 : decode cX9_walks 12 = .ok (.getfield 7, 3) := by decide +kernel
theorem dX9_walks_15 : decode cX9_walks 15 = .ok (.bipush 6, 2) := by decide +kernel
theorem dX9_walks_17 : decode cX9_walks 17 = .ok (.iload_n 1, 1) := by decide +kernel
theorem dX9_walks_18 : decode cX9_walks 18 = .ok (.iadd, 1) := by decide +kernel
theorem dX9_walks_19 : decode cX9_walks 19 = .ok (.iaload, 1) := by decide +kernel
theorem dX9_walks_20 : decode cX9_walks 20 = .ok (.putfield 110, 3) := by decide +kernel
theorem dX9_walks_23 : decode cX9_walks 23 = .ok (.aload_n 0, 1) := by decide +kernel
theorem dX9_walks_24 : decode cX9_walks 24 = .ok (.iconst 0, 1) := by decide +kernel
theorem dX9_walks_25 : decode cX9_walks 25 = .ok (.putfield 148, 3) := by decide +kernel
theorem dX9_walks_28 : decode cX9_walks 28 = .ok (.aload_n 0, 1) := by decide +kernel
theorem dX9_walks_29 : decode cX9_walks 29 = .ok (.iconst 1, 1) := by decide +kernel
theorem dX9_walks_30 : decode cX9_walks 30 = .ok (.putfield 116, 3) := by decide +kernel
theorem dX9_walks_33 : decode cX9_walks 33 = .ok (.aload_n 0, 1) := by decide +kernel
theorem dX9_walks_34 : decode cX9_walks 34 = .ok (.iload_n 2, 1) := by decide +kernel
theorem dX9_walks_35 : decode cX9_walks 35 = .ok (.putfield 133, 3) := by decide +kernel
theorem dX9_walks_38 : decode cX9_walks 38 = .ok (.aload_n 0, 1) := by decide +kernel
theorem dX9_walks_39 : decode cX9_walks 39 = .ok (.iload_n 3, 1) := by decide +kernel
theorem dX9_walks_40 : decode cX9_walks 40 = .ok (.putfield 136, 3) := by decide +kernel
theorem dX9_walks_43 : decode cX9_walks 43 = .ok (.aload_n 0, 1) := by decide +kernel
theorem dX9_walks_44 : decode cX9_walks 44 = .ok (.iload 4, 2) := by decide +kernel
theorem dX9_walks_46 : decode cX9_walks 46 = .ok (.putfield 139, 3) := by decide +kernel
theorem dX9_walks_49 : decode cX9_walks 49 = .ok (.aload_n 0, 1) := by decide +kernel
theorem dX9_walks_50 : decode cX9_walks 50 = .ok (.invokevirtual 154, 3) := by decide +kernel
theorem dX9_walks_53 : decode cX9_walks 53 = .ok (.istore 5, 2) := by decide +kernel
theorem dX9_walks_55 : decode cX9_walks 55 = .ok (.aload_n 0, 1) := by decide +kernel
theorem dX9_walks_56 : decode cX9_walks 56 = .ok (.aload_n 0, 1) := by decide +kernel
theorem dX9_walks_57 : decode cX9_walks 57 = .ok (.getfield 116, 3) := by decide +kernel
theorem dX9_walks_60 : decode cX9_walks 60 = .ok (.ifCond .eq 18, 3) := by decide +kernel
theorem dX9_walks_63 : decode cX9_walks 63 = .ok (.aload_n 0, 1) := by decide +kernel
theorem dX9_walks_64 : decode cX9_walks 64 = .ok (.getfield 120, 3) := by decide +kernel
theorem dX9_walks_67 : decode cX9_walks 67 = .ok (.aload_n 0, 1) := by decide +kernel
theorem dX9_walks_68 : decode cX9_walks 68 = .ok (.getfield 110, 3) := by decide +kernel
theorem dX9_walks_71 : decode cX9_walks 71 = .ok (.if_icmp .ne 7, 3) := by decide +kernel
theorem dX9_walks_74 : decode cX9_walks 74 = .ok (.iconst 1, 1) := by decide +kernel
theorem dX9_walks_75 : decode cX9_walks 75 = .ok (.goto 4, 3) := by decide +kernel
theorem dX9_walks_78 : decode cX9_walks 78 = .ok (.iconst 0, 1) := by decide +kernel
theorem dX9_walks_79 : decode cX9_walks 79 = .ok (.putfield 116, 3) := by decide +kernel
theorem dX9_walks_82 : decode cX9_walks 82 = .ok (.iload 5, 2) := by decide +kernel
theorem dX9_walks_84 : decode cX9_walks 84 = .ok (.ireturn, 1) := by decide +kernel
set_option maxRecDepth 20000 in
theorem ggX9_lawOf_X9_walks : GoodIn wsX9_lawOf wsX9_walks := goodIn_r _ [6, 7, 8, 1, 9, 10, 11, 12, 13, 14, 15, 16, 17, 5, 18, 19, 20, 21, 22, 23, 24, 25, 26, 27, 28, 29, 30, 31, 32, 33, 34, 35, 36, 37, 38, 39, 40, 41, 42, 43, 44, 45, 46, 47, 48, 49, 50, 51, 52, 53, 54, 55, 56, 57, 58, 59, 60, 64, 65, 66, 67, 68, 69, 70, 71, 72, 73, 74, 75, 76, 77, 78, 79, 80, 81, 82, 83, 84, 85, 86, 87, 88, 89, 90, 91] (by decide +kernel) (by decide +kernel)
set_option maxRecDepth 20000 in
theorem gX9_lawOf_X9_walks : GoodIn wsX9_lawOf (wsV RX9 169 RX9 yX9_walks wsX9_walks) := goodIn_app (goodIn_of _ (by decide +kernel)) ggX9_lawOf_X9_walks
set_option maxRecDepth 20000 in
theorem ggX9_lawOf_X9_held : GoodIn wsX9_lawOf wsX9_held := goodIn_r _ [63] (by decide +kernel) (by decide +kernel)
set_option maxRecDepth 20000 in
theorem gX9_lawOf_X9_held : GoodIn wsX9_lawOf (va_wsS RX9 173 yX9_held wsX9_held) := goodIn_app (goodIn_of _ (by decide +kernel)) ggX9_lawOf_X9_held
theorem dX9_lawOf_0 : decode cX9_lawOf 0 = .ok (.iload_n 1, 1) := by decide +kernel
theorem dX9_lawOf_1 : decode cX9_lawOf 1 = .ok (.ifCond .ne 8, 3) := by decide +kernel
theorem dX9_lawOf_4 : decode cX9_lawOf 4 = .ok (.bipush 9, 2) := by decide +kernel
theorem dX9_lawOf_6 : decode cX9_lawOf 6 = .ok (.goto 5, 3) := by decide +kernel
theorem dX9_lawOf_9 : decode cX9_lawOf 9 = .ok (.bipush 99, 2) := by decide +kernel
theorem dX9_lawOf_11 : decode cX9_lawOf 11 = .ok (.istore 5, 2) := by decide +kernel
theorem dX9_lawOf_13 : decode cX9_lawOf 13 = .ok (.aload_n 0, 1) := by decide +kernel
theorem dX9_lawOf_14 : decode cX9_lawOf 14 = .ok (.getfield 7, 3) := by decide +kernel
theorem dX9_lawOf_17 : decode cX9_lawOf 17 = .ok (.bipush 6, 2) := by decide +kernel
theorem dX9_lawOf_19 : decode cX9_lawOf 19 = .ok (.iload_n 1, 1) := by decide +kernel
theorem dX9_lawOf_20 : decode cX9_lawOf 20 = .ok (.iadd, 1) := by decide +kernel
theorem dX9_lawOf_21 : decode cX9_lawOf 21 = .ok (.iaload, 1) := by decide +kernel
theorem dX9_lawOf_22 : decode cX9_lawOf 22 = .ok (.ifCond .lt 19, 3) := by decide +kernel
theorem dX9_lawOf_25 : decode cX9_lawOf 25 = .ok (.aload_n 0, 1) := by decide +kernel
theorem dX9_lawOf_26 : decode cX9_lawOf 26 = .ok (.iload_n 1, 1) := by decide +kernel
theorem dX9_lawOf_27 : decode cX9_lawOf 27 = .ok (.iload_n 2, 1) := by decide +kernel
theorem dX9_lawOf_28 : decode cX9_lawOf 28 = .ok (.iload_n 3, 1) := by decide +kernel
theorem dX9_lawOf_29 : decode cX9_lawOf 29 = .ok (.iload 4, 2) := by decide +kernel
theorem dX9_lawOf_31 : decode cX9_lawOf 31 = .ok (.invokevirtual 169, 3) := by decide +kernel
theorem dX9_lawOf_34 : decode cX9_lawOf 34 = .ok (.iconst 0, 1) := by decide +kernel
theorem dX9_lawOf_35 : decode cX9_lawOf 35 = .ok (.iload 5, 2) := by decide +kernel
theorem dX9_lawOf_37 : decode cX9_lawOf 37 = .ok (.invokestatic 173, 3) := by decide +kernel
theorem dX9_lawOf_40 : decode cX9_lawOf 40 = .ok (.ireturn, 1) := by decide +kernel
theorem dX9_lawOf_41 : decode cX9_lawOf 41 = .ok (.iload_n 1, 1) := by decide +kernel
theorem dX9_lawOf_42 : decode cX9_lawOf 42 = .ok (.ifCond .ne 11, 3) := by decide +kernel
theorem dX9_lawOf_45 : decode cX9_lawOf 45 = .ok (.iconst 3, 1) := by decide +kernel
theorem dX9_lawOf_46 : decode cX9_lawOf 46 = .ok (.iload_n 3, 1) := by decide +kernel
theorem dX9_lawOf_47 : decode cX9_lawOf 47 = .ok (.iconst 3, 1) := by decide +kernel
theorem dX9_lawOf_48 : decode cX9_lawOf 48 = .ok (.idiv, 1) := by decide +kernel
theorem dX9_lawOf_49 : decode cX9_lawOf 49 = .ok (.isub, 1) := by decide +kernel
theorem dX9_lawOf_50 : decode cX9_lawOf 50 = .ok (.goto 4, 3) := by decide +kernel
theorem dX9_lawOf_53 : decode cX9_lawOf 53 = .ok (.iload_n 2, 1) := by decide +kernel
theorem dX9_lawOf_54 : decode cX9_lawOf 54 = .ok (.iconst 0, 1) := by decide +kernel
theorem dX9_lawOf_55 : decode cX9_lawOf 55 = .ok (.iload 5, 2) := by decide +kernel
theorem dX9_lawOf_57 : decode cX9_lawOf 57 = .ok (.invokestatic 173, 3) := by decide +kernel
theorem dX9_lawOf_60 : decode cX9_lawOf 60 = .ok (.ireturn, 1) := by decide +kernel
set_option maxRecDepth 20000 in
theorem ggX9_law_X9_in : GoodIn wsX9_law wsX9_in := goodIn_r _ [5] (by decide +kernel) (by decide +kernel)
set_option maxRecDepth 20000 in
theorem gX9_law_X9_in : GoodIn wsX9_law (va_wsS RX9 54 yX9_in wsX9_in) := goodIn_app (goodIn_of _ (by decide +kernel)) ggX9_law_X9_in
set_option maxRecDepth 20000 in
theorem ggX9_law_X9_lawOf : GoodIn wsX9_law wsX9_lawOf := goodIn_r _ [9, 10, 11, 12, 13, 4, 14, 15, 16, 17, 18, 19, 20, 21, 22, 23, 24, 25, 26, 27, 28, 29, 30, 31, 32, 33, 34, 35, 36, 37, 38, 39, 40, 41, 42, 43, 44, 45, 2, 3, 5, 46, 47, 48, 49, 50, 51, 52, 53, 54, 55, 56, 57, 58, 59, 60, 61, 62, 63, 64, 65, 66, 67, 68, 75, 76, 77, 78, 79, 80, 81, 82, 83, 84, 85, 86, 87, 88, 89, 90, 91, 92, 93, 94, 95, 96, 97, 98, 99, 100, 101, 102] (by decide +kernel) (by decide +kernel)
set_option maxRecDepth 20000 in
theorem gX9_law_X9_lawOf : GoodIn wsX9_law (wsV RX9 177 RX9 yX9_lawOf wsX9_lawOf) := goodIn_app (goodIn_of _ (by decide +kernel)) ggX9_law_X9_lawOf
set_option maxRecDepth 20000 in
theorem ggX9_law_X9_errs : GoodIn wsX9_law wsX9_errs := goodIn_r _ [72, 73, 74, 75, 76, 77, 78, 79, 80, 81, 82, 83, 84, 85, 86, 87, 88, 89, 90, 91, 92, 93, 94, 95, 96, 97, 98, 99, 100, 101, 102] (by decide +kernel) (by decide +kernel)
set_option maxRecDepth 20000 in
theorem gX9_law_X9_errs : GoodIn wsX9_law (wsV RX9 59 RX9 yX9_errs wsX9_errs) := goodIn_app (goodIn_of _ (by decide +kernel)) ggX9_law_X9_errs
theorem dX9_law_0 : decode cX9_law 0 = .ok (.iload_n 1, 1) := by decide +kernel
theorem dX9_law_1 : decode cX9_law 1 = .ok (.iconst 0, 1) := by decide +kernel
theorem dX9_law_2 : decode cX9_law 2 = .ok (.iconst 1, 1) := by decide +kernel
theorem dX9_law_3 : decode cX9_law 3 = .ok (.invokestatic 54, 3) := by decide +kernel
theorem dX9_law_6 : decode cX9_law 6 = .ok (.ifCond .eq 15, 3) := by decide +kernel
theorem dX9_law_9 : decode cX9_law 9 = .ok (.aload_n 0, 1) := by decide +kernel
theorem dX9_law_10 : decode cX9_law 10 = .ok (.iload_n 1, 1) := by decide +kernel
theorem dX9_law_11 : decode cX9_law 11 = .ok (.iload_n 2, 1) := by decide +kernel
theorem dX9_law_12 : decode cX9_law 12 = .ok (.iload_n 3, 1) := by decide +kernel
theorem dX9_law_13 : decode cX9_law 13 = .ok (.iload 4, 2) := by decide +kernel
theorem dX9_law_15 : decode cX9_law 15 = .ok (.invokevirtual 177, 3) := by decide +kernel
theorem dX9_law_18 : decode cX9_law 18 = .ok (.goto 9, 3) := by decide +kernel
theorem dX9_law_21 : decode cX9_law 21 = .ok (.aload_n 0, 1) := by decide +kernel
theorem dX9_law_22 : decode cX9_law 22 = .ok (.ldc 58, 2) := by decide +kernel
theorem dX9_law_24 : decode cX9_law 24 = .ok (.invokevirtual 59, 3) := by decide +kernel
theorem dX9_law_27 : decode cX9_law 27 = .ok (.ireturn, 1) := by decide +kernel
set_option maxRecDepth 20000 in
theorem ggX9_feed_X9_in : GoodIn wsX9_feed wsX9_in := goodIn_r _ [8] (by decide +kernel) (by decide +kernel)
set_option maxRecDepth 20000 in
theorem gX9_feed_X9_in : GoodIn wsX9_feed (va_wsS RX9 54 yX9_in wsX9_in) := goodIn_app (goodIn_of _ (by decide +kernel)) ggX9_feed_X9_in
set_option maxRecDepth 20000 in
theorem ggX9_feed_X9_errs : GoodIn wsX9_feed wsX9_errs := goodIn_r _ [12, 13, 14, 15, 16, 17, 18, 19, 20, 21, 22, 23, 24, 25, 26, 27, 28, 29, 30, 31, 32, 33, 34, 35, 36, 37, 38, 39, 40, 41, 42] (by decide +kernel) (by decide +kernel)
set_option maxRecDepth 20000 in
theorem gX9_feed_X9_errs : GoodIn wsX9_feed (wsV RX9 59 RX9 yX9_errs wsX9_errs) := goodIn_app (goodIn_of _ (by decide +kernel)) ggX9_feed_X9_errs
theorem dX9_feed_0 : decode cX9_feed 0 = .ok (.iload_n 3, 1) := by decide +kernel
theorem dX9_feed_1 : decode cX9_feed 1 = .ok (.iconst 1, 1) := by decide +kernel
theorem dX9_feed_2 : decode cX9_feed 2 = .ok (.bipush 8, 2) := by decide +kernel
theorem dX9_feed_4 : decode cX9_feed 4 = .ok (.invokestatic 54, 3) := by decide +kernel
theorem dX9_feed_7 : decode cX9_feed 7 = .ok (.ifCond .ne 10, 3) := by decide +kernel
theorem dX9_feed_10 : decode cX9_feed 10 = .ok (.aload_n 0, 1) := by decide +kernel
theorem dX9_feed_11 : decode cX9_feed 11 = .ok (.ldc 58, 2) := by decide +kernel
theorem dX9_feed_13 : decode cX9_feed 13 = .ok (.invokevirtual 59, 3) := by decide +kernel
theorem dX9_feed_16 : decode cX9_feed 16 = .ok (.ireturn, 1) := by decide +kernel
theorem dX9_feed_17 : decode cX9_feed 17 = .ok (.aload_n 0, 1) := by decide +kernel
theorem dX9_feed_18 : decode cX9_feed 18 = .ok (.getfield 7, 3) := by decide +kernel
theorem dX9_feed_21 : decode cX9_feed 21 = .ok (.iconst 4, 1) := by decide +kernel
theorem dX9_feed_22 : decode cX9_feed 22 = .ok (.iaload, 1) := by decide +kernel
theorem dX9_feed_23 : decode cX9_feed 23 = .ok (.iload_n 3, 1) := by decide +kernel
theorem dX9_feed_24 : decode cX9_feed 24 = .ok (.iadd, 1) := by decide +kernel
theorem dX9_feed_25 : decode cX9_feed 25 = .ok (.bipush 50, 2) := by decide +kernel
theorem dX9_feed_27 : decode cX9_feed 27 = .ok (.if_icmp .le 10, 3) := by decide +kernel
theorem dX9_feed_30 : decode cX9_feed 30 = .ok (.aload_n 0, 1) := by decide +kernel
theorem dX9_feed_31 : decode cX9_feed 31 = .ok (.ldc 89, 2) := by decide +kernel
theorem dX9_feed_33 : decode cX9_feed 33 = .ok (.invokevirtual 59, 3) := by decide +kernel
theorem dX9_feed_36 : decode cX9_feed 36 = .ok (.ireturn, 1) := by decide +kernel
theorem dX9_feed_37 : decode cX9_feed 37 = .ok (.iconst 0, 1) := by decide +kernel
theorem dX9_feed_38 : decode cX9_feed 38 = .ok (.istore 4, 2) := by decide +kernel
theorem dX9_feed_40 : decode cX9_feed 40 = .ok (.iload 4, 2) := by decide +kernel
theorem dX9_feed_42 : decode cX9_feed 42 = .ok (.iload_n 3, 1) := by decide +kernel
theorem dX9_feed_43 : decode cX9_feed 43 = .ok (.if_icmp .ge 45, 3) := by decide +kernel
theorem dX9_feed_46 : decode cX9_feed 46 = .ok (.aload_n 0, 1) := by decide +kernel
theorem dX9_feed_47 : decode cX9_feed 47 = .ok (.getfield 7, 3) := by decide +kernel
theorem dX9_feed_50 : decode cX9_feed 50 = .ok (.bipush 64, 2) := by decide +kernel
theorem dX9_feed_52 : decode cX9_feed 52 = .ok (.aload_n 0, 1) := by decide +kernel
theorem dX9_feed_53 : decode cX9_feed 53 = .ok (.getfield 7, 3) := by decide +kernel
theorem dX9_feed_56 : decode cX9_feed 56 = .ok (.iconst 4, 1) := by decide +kernel
theorem dX9_feed_57 : decode cX9_feed 57 = .ok (.iaload, 1) := by decide +kernel
theorem dX9_feed_58 : decode cX9_feed 58 = .ok (.iadd, 1) := by decide +kernel
theorem dX9_feed_59 : decode cX9_feed 59 = .ok (.lload_n 1, 1) := by decide +kernel
theorem dX9_feed_60 : decode cX9_feed 60 = .ok (.bipush 8, 2) := by decide +kernel
theorem dX9_feed_62 : decode cX9_feed 62 = .ok (.iload 4, 2) := by decide +kernel
theorem dX9_feed_64 : decode cX9_feed 64 = .ok (.imul, 1) := by decide +kernel
theorem dX9_feed_65 : decode cX9_feed 65 = .ok (.lshr, 1) := by decide +kernel
theorem dX9_feed_66 : decode cX9_feed 66 = .ok (.ldc2_w 180, 3) := by decide +kernel
theorem dX9_feed_69 : decode cX9_feed 69 = .ok (.land, 1) := by decide +kernel
theorem dX9_feed_70 : decode cX9_feed 70 = .ok (.l2i, 1) := by decide +kernel
theorem dX9_feed_71 : decode cX9_feed 71 = .ok (.iastore, 1) := by decide +kernel
theorem dX9_feed_72 : decode cX9_feed 72 = .ok (.aload_n 0, 1) := by decide +kernel
theorem dX9_feed_73 : decode cX9_feed 73 = .ok (.getfield 7, 3) := by decide +kernel
theorem dX9_feed_76 : decode cX9_feed 76 = .ok (.iconst 4, 1) := by decide +kernel
theorem dX9_feed_77 : decode cX9_feed 77 = .ok (.dup2, 1) := by decide +kernel
theorem dX9_feed_78 : decode cX9_feed 78 = .ok (.iaload, 1) := by decide +kernel
theorem dX9_feed_79 : decode cX9_feed 79 = .ok (.iconst 1, 1) := by decide +kernel
theorem dX9_feed_80 : decode cX9_feed 80 = .ok (.iadd, 1) := by decide +kernel
theorem dX9_feed_81 : decode cX9_feed 81 = .ok (.iastore, 1) := by decide +kernel
theorem dX9_feed_82 : decode cX9_feed 82 = .ok (.iinc 4 1, 3) := by decide +kernel
theorem dX9_feed_85 : decode cX9_feed 85 = .ok (.goto (-45), 3) := by decide +kernel
theorem dX9_feed_88 : decode cX9_feed 88 = .ok (.aload_n 0, 1) := by decide +kernel
theorem dX9_feed_89 : decode cX9_feed 89 = .ok (.getfield 7, 3) := by decide +kernel
theorem dX9_feed_92 : decode cX9_feed 92 = .ok (.iconst 4, 1) := by decide +kernel
theorem dX9_feed_93 : decode cX9_feed 93 = .ok (.iaload, 1) := by decide +kernel
theorem dX9_feed_94 : decode cX9_feed 94 = .ok (.ireturn, 1) := by decide +kernel
set_option maxRecDepth 20000 in
theorem ggX9_text_X9_in : GoodIn wsX9_text wsX9_in := goodIn_r _ [9] (by decide +kernel) (by decide +kernel)
set_option maxRecDepth 20000 in
theorem gX9_text_X9_in : GoodIn wsX9_text (va_wsS RX9 54 yX9_in wsX9_in) := goodIn_app (goodIn_of _ (by decide +kernel)) ggX9_text_X9_in
set_option maxRecDepth 20000 in
theorem ggX9_text_X9_errs : GoodIn wsX9_text wsX9_errs := goodIn_r _ [13, 14, 15, 73, 74, 75, 76, 77, 78, 79, 80, 81, 82, 83, 84, 85, 86, 87, 88, 89, 90, 91, 92, 93, 94, 95, 96, 97, 98, 99, 100] (by decide +kernel) (by decide +kernel)
set_option maxRecDepth 20000 in
theorem gX9_text_X9_errs : GoodIn wsX9_text (wsV RX9 59 RX9 yX9_errs wsX9_errs) := goodIn_app (goodIn_of _ (by decide +kernel)) ggX9_text_X9_errs
set_option maxRecDepth 20000 in
theorem ggX9_text_X9_moveAll : GoodIn wsX9_text wsX9_moveAll := goodIn_r _ [19] (by decide +kernel) (by decide +kernel)
set_option maxRecDepth 20000 in
theorem gX9_text_X9_moveAll : GoodIn wsX9_text (wsV RX9 182 RX9 yX9_moveAll wsX9_moveAll) := goodIn_app (goodIn_of _ (by decide +kernel)) ggX9_text_X9_moveAll
set_option maxRecDepth 20000 in
theorem ggX9_text_X9_walks : GoodIn wsX9_text wsX9_walks := goodIn_r _ [23, 24, 5, 2, 25, 26, 4, 27, 28, 29, 30, 31, 32, 8, 33, 34, 35, 36, 37, 38, 39, 40, 41, 42, 43, 44, 45, 46, 47, 48, 49, 50, 51, 52, 6, 7, 9, 53, 54, 55, 56, 57, 58, 59, 60, 61, 62, 63, 64, 65, 66, 67, 68, 69, 70, 71, 72, 73, 74, 75, 76, 77, 78, 79, 80, 81, 82, 83, 84, 85, 86, 87, 88, 89, 90, 91, 92, 93, 94, 95, 96, 97, 98, 99, 100] (by decide +kernel) (by decide +kernel)
set_option maxRecDepth 20000 in
theorem gX9_text_X9_walks : GoodIn wsX9_text (wsV RX9 169 RX9 yX9_walks wsX9_walks) := goodIn_app (goodIn_of _ (by decide +kernel)) ggX9_text_X9_walks
theorem dX9_text_0 : decode cX9_text 0 = .ok (.iload_n 1, 1) := by decide +kernel
theorem dX9_text_1 : decode cX9_text 1 = .ok (.iconst 0, 1) := by decide +kernel
theorem dX9_text_2 : decode cX9_text 2 = .ok (.iconst 1, 1) := by decide +kernel
theorem dX9_text_3 : decode cX9_text 3 = .ok (.invokestatic 54, 3) := by decide +kernel
theorem dX9_text_6 : decode cX9_text 6 = .ok (.ifCond .ne 10, 3) := by decide +kernel
theorem dX9_text_9 : decode cX9_text 9 = .ok (.aload_n 0, 1) := by decide +kernel
theorem dX9_text_10 : decode cX9_text 10 = .ok (.ldc 58, 2) := by decide +kernel
theorem dX9_text_12 : decode cX9_text 12 = .ok (.invokevirtual 59, 3) := by decide +kernel
theorem dX9_text_15 : decode cX9_text 15 = .ok (.ireturn, 1) := by decide +kernel
theorem dX9_text_16 : decode cX9_text 16 = .ok (.aload_n 0, 1) := by decide +kernel
theorem dX9_text_17 : decode cX9_text 17 = .ok (.aload_n 0, 1) := by decide +kernel
theorem dX9_text_18 : decode cX9_text 18 = .ok (.getfield 7, 3) := by decide +kernel
theorem dX9_text_21 : decode cX9_text 21 = .ok (.aload_n 0, 1) := by decide +kernel
theorem dX9_text_22 : decode cX9_text 22 = .ok (.getfield 19, 3) := by decide +kernel
theorem dX9_text_25 : decode cX9_text 25 = .ok (.invokevirtual 182, 3) := by decide +kernel
theorem dX9_text_28 : decode cX9_text 28 = .ok (.iconst 0, 1) := by decide +kernel
theorem dX9_text_29 : decode cX9_text 29 = .ok (.istore_n 2, 1) := by decide +kernel
theorem dX9_text_30 : decode cX9_text 30 = .ok (.iload_n 2, 1) := by decide +kernel
theorem dX9_text_31 : decode cX9_text 31 = .ok (.bipush 50, 2) := by decide +kernel
theorem dX9_text_33 : decode cX9_text 33 = .ok (.if_icmp .ge 33, 3) := by decide +kernel
theorem dX9_text_36 : decode cX9_text 36 = .ok (.aload_n 0, 1) := by decide +kernel
theorem dX9_text_37 : decode cX9_text 37 = .ok (.getfield 7, 3) := by decide +kernel
theorem dX9_text_40 : decode cX9_text 40 = .ok (.sipush 134, 3) := by decide +kernel
theorem dX9_text_43 : decode cX9_text 43 = .ok (.bipush 50, 2) := by decide +kernel
theorem dX9_text_45 : decode cX9_text 45 = .ok (.iload_n 1, 1) := by decide +kernel
theorem dX9_text_46 : decode cX9_text 46 = .ok (.imul, 1) := by decide +kernel
theorem dX9_text_47 : decode cX9_text 47 = .ok (.iadd, 1) := by decide +kernel
theorem dX9_text_48 : decode cX9_text 48 = .ok (.iload_n 2, 1) := by decide +kernel
theorem dX9_text_49 : decode cX9_text 49 = .ok (.iadd, 1) := by decide +kernel
theorem dX9_text_50 : decode cX9_text 50 = .ok (.aload_n 0, 1) := by decide +kernel
theorem dX9_text_51 : decode cX9_text 51 = .ok (.getfield 7, 3) := by decide +kernel
theorem dX9_text_54 : decode cX9_text 54 = .ok (.bipush 64, 2) := by decide +kernel
theorem dX9_text_56 : decode cX9_text 56 = .ok (.iload_n 2, 1) := by decide +kernel
theorem dX9_text_57 : decode cX9_text 57 = .ok (.iadd, 1) := by decide +kernel
theorem dX9_text_58 : decode cX9_text 58 = .ok (.iaload, 1) := by decide +kernel
theorem dX9_text_59 : decode cX9_text 59 = .ok (.iastore, 1) := by decide +kernel
theorem dX9_text_60 : decode cX9_text 60 = .ok (.iinc 2 1, 3) := by decide +kernel
theorem dX9_text_63 : decode cX9_text 63 = .ok (.goto (-33), 3) := by decide +kernel
theorem dX9_text_66 : decode cX9_text 66 = .ok (.aload_n 0, 1) := by decide +kernel
theorem dX9_text_67 : decode cX9_text 67 = .ok (.getfield 7, 3) := by decide +kernel
theorem dX9_text_70 : decode cX9_text 70 = .ok (.bipush 6, 2) := by decide +kernel
theorem dX9_text_72 : decode cX9_text 72 = .ok (.iload_n 1, 1) := by decide +kernel
theorem dX9_text_73 : decode cX9_text 73 = .ok (.iadd, 1) := by decide +kernel
theorem dX9_text_74 : decode cX9_text 74 = .ok (.aload_n 0, 1) := by decide +kernel
theorem dX9_text_75 : decode cX9_text 75 = .ok (.getfield 7, 3) := by decide +kernel
theorem dX9_text_78 : decode cX9_text 78 = .ok (.iconst 4, 1) := by decide +kernel
theorem dX9_text_79 : decode cX9_text 79 = .ok (.iaload, 1) := by decide +kernel
theorem dX9_text_80 : decode cX9_text 80 = .ok (.iastore, 1) := by decide +kernel
theorem dX9_text_81 : decode cX9_text 81 = .ok (.aload_n 0, 1) := by decide +kernel
theorem dX9_text_82 : decode cX9_text 82 = .ok (.iload_n 1, 1) := by decide +kernel
theorem dX9_text_83 : decode cX9_text 83 = .ok (.iconst 1, 1) := by decide +kernel
theorem dX9_text_84 : decode cX9_text 84 = .ok (.iconst 1, 1) := by decide +kernel
theorem dX9_text_85 : decode cX9_text 85 = .ok (.iconst 1, 1) := by decide +kernel
theorem dX9_text_86 : decode cX9_text 86 = .ok (.invokevirtual 169, 3) := by decide +kernel
theorem dX9_text_89 : decode cX9_text 89 = .ok (.istore_n 2, 1) := by decide +kernel
theorem dX9_text_90 : decode cX9_text 90 = .ok (.aload_n 0, 1) := by decide +kernel
theorem dX9_text_91 : decode cX9_text 91 = .ok (.getfield 116, 3) := by decide +kernel
theorem dX9_text_94 : decode cX9_text 94 = .ok (.ifCond .eq 12, 3) := by decide +kernel
theorem dX9_text_97 : decode cX9_text 97 = .ok (.iload_n 2, 1) := by decide +kernel
theorem dX9_text_98 : decode cX9_text 98 = .ok (.iload_n 2, 1) := by decide +kernel
theorem dX9_text_99 : decode cX9_text 99 = .ok (.if_icmp .ne 7, 3) := by decide +kernel
theorem dX9_text_102 : decode cX9_text 102 = .ok (.iconst 1, 1) := by decide +kernel
theorem dX9_text_103 : decode cX9_text 103 = .ok (.goto 4, 3) := by decide +kernel
theorem dX9_text_106 : decode cX9_text 106 = .ok (.iconst 0, 1) := by decide +kernel
theorem dX9_text_107 : decode cX9_text 107 = .ok (.istore_n 3, 1) := by decide +kernel
theorem dX9_text_108 : decode cX9_text 108 = .ok (.aload_n 0, 1) := by decide +kernel
theorem dX9_text_109 : decode cX9_text 109 = .ok (.getfield 120, 3) := by decide +kernel
theorem dX9_text_112 : decode cX9_text 112 = .ok (.istore 4, 2) := by decide +kernel
theorem dX9_text_114 : decode cX9_text 114 = .ok (.iload_n 3, 1) := by decide +kernel
theorem dX9_text_115 : decode cX9_text 115 = .ok (.ifCond .ne 15, 3) := by decide +kernel
theorem dX9_text_118 : decode cX9_text 118 = .ok (.aload_n 0, 1) := by decide +kernel
theorem dX9_text_119 : decode cX9_text 119 = .ok (.aload_n 0, 1) := by decide +kernel
theorem dX9_text_120 : decode cX9_text 120 = .ok (.getfield 19, 3) := by decide +kernel
theorem dX9_text_123 : decode cX9_text 123 = .ok (.aload_n 0, 1) := by decide +kernel
theorem dX9_text_124 : decode cX9_text 124 = .ok (.getfield 7, 3) := by decide +kernel
theorem dX9_text_127 : decode cX9_text 127 = .ok (.invokevirtual 182, 3) := by decide +kernel
theorem dX9_text_130 : decode cX9_text 130 = .ok (.aload_n 0, 1) := by decide +kernel
theorem dX9_text_131 : decode cX9_text 131 = .ok (.getfield 7, 3) := by decide +kernel
theorem dX9_text_134 : decode cX9_text 134 = .ok (.iconst 4, 1) := by decide +kernel
theorem dX9_text_135 : decode cX9_text 135 = .ok (.iconst 0, 1) := by decide +kernel
theorem dX9_text_136 : decode cX9_text 136 = .ok (.iastore, 1) := by decide +kernel
theorem dX9_text_137 : decode cX9_text 137 = .ok (.iload_n 3, 1) := by decide +kernel
theorem dX9_text_138 : decode cX9_text 138 = .ok (.ifCond .eq 7, 3) := by decide +kernel
theorem dX9_text_141 : decode cX9_text 141 = .ok (.iconst 1, 1) := by decide +kernel
theorem dX9_text_142 : decode cX9_text 142 = .ok (.goto 8, 3) := by decide +kernel
theorem dX9_text_145 : decode cX9_text 145 = .ok (.bipush (-10), 2) := by decide +kernel
theorem dX9_text_147 : decode cX9_text 147 = .ok (.iload 4, 2) := by decide +kernel
theorem dX9_text_149 : decode cX9_text 149 = .ok (.isub, 1) := by decide +kernel
theorem dX9_text_150 : decode cX9_text 150 = .ok (.ireturn, 1) := by decide +kernel
set_option maxRecDepth 20000 in
theorem ggX9_sight_X9_its : GoodIn wsX9_sight wsX9_its := goodIn_r _ [6, 1, 72, 73, 74, 75, 76, 77, 78, 79, 80, 81, 82, 83, 84, 85, 86, 87, 88, 89, 90, 91, 92, 93, 94, 95, 96, 97, 98, 99] (by decide +kernel) (by decide +kernel)
set_option maxRecDepth 20000 in
theorem gX9_sight_X9_its : GoodIn wsX9_sight (wsV RX9 80 RX9 yX9_its wsX9_its) := goodIn_app (goodIn_of _ (by decide +kernel)) ggX9_sight_X9_its
set_option maxRecDepth 20000 in
theorem ggX9_sight_X9_lawOf : GoodIn wsX9_sight wsX9_lawOf := goodIn_r _ [10, 1, 11, 12, 13, 5, 14, 15, 16, 17, 18, 19, 20, 21, 22, 23, 24, 25, 26, 27, 28, 29, 30, 31, 32, 33, 34, 35, 36, 37, 38, 39, 40, 41, 42, 43, 44, 45, 46, 47, 48, 49, 50, 51, 52, 53, 54, 55, 56, 57, 58, 59, 60, 61, 62, 63, 64, 65, 66, 67, 68, 69, 70, 71, 72, 73, 74, 75, 76, 77, 78, 79, 80, 81, 82, 83, 84, 85, 86, 87, 88, 89, 90, 91, 92, 93, 94, 95, 96, 97, 98, 99] (by decide +kernel) (by decide +kernel)
set_option maxRecDepth 20000 in
theorem gX9_sight_X9_lawOf : GoodIn wsX9_sight (wsV RX9 177 RX9 yX9_lawOf wsX9_lawOf) := goodIn_app (goodIn_of _ (by decide +kernel)) ggX9_sight_X9_lawOf
theorem dX9_sight_0 : decode cX9_sight 0 = .ok (.aload_n 0, 1) := by decide +kernel
theorem dX9_sight_1 : decode cX9_sight 1 = .ok (.iconst 0, 1) := by decide +kernel
theorem dX9_sight_2 : decode cX9_sight 2 = .ok (.aload_n 0, 1) := by decide +kernel
theorem dX9_sight_3 : decode cX9_sight 3 = .ok (.iload_n 1, 1) := by decide +kernel
theorem dX9_sight_4 : decode cX9_sight 4 = .ok (.iconst 1, 1) := by decide +kernel
theorem dX9_sight_5 : decode cX9_sight 5 = .ok (.invokevirtual 80, 3) := by decide +kernel
theorem dX9_sight_8 : decode cX9_sight 8 = .ok (.aload_n 0, 1) := by decide +kernel
theorem dX9_sight_9 : decode cX9_sight 9 = .ok (.getfield 7, 3) := by decide +kernel
theorem dX9_sight_12 : decode cX9_sight 12 = .ok (.iconst 1, 1) := by decide +kernel
theorem dX9_sight_13 : decode cX9_sight 13 = .ok (.iaload, 1) := by decide +kernel
theorem dX9_sight_14 : decode cX9_sight 14 = .ok (.aload_n 0, 1) := by decide +kernel
theorem dX9_sight_15 : decode cX9_sight 15 = .ok (.getfield 7, 3) := by decide +kernel
theorem dX9_sight_18 : decode cX9_sight 18 = .ok (.iconst 0, 1) := by decide +kernel
theorem dX9_sight_19 : decode cX9_sight 19 = .ok (.iaload, 1) := by decide +kernel
theorem dX9_sight_20 : decode cX9_sight 20 = .ok (.invokevirtual 177, 3) := by decide +kernel
theorem dX9_sight_23 : decode cX9_sight 23 = .ok (.istore_n 2, 1) := by decide +kernel
theorem dX9_sight_24 : decode cX9_sight 24 = .ok (.aload_n 0, 1) := by decide +kernel
theorem dX9_sight_25 : decode cX9_sight 25 = .ok (.iload_n 1, 1) := by decide +kernel
theorem dX9_sight_26 : decode cX9_sight 26 = .ok (.iconst 0, 1) := by decide +kernel
theorem dX9_sight_27 : decode cX9_sight 27 = .ok (.invokevirtual 80, 3) := by decide +kernel
theorem dX9_sight_30 : decode cX9_sight 30 = .ok (.tableswitch 53 2 6 #[34, 53, 38, 34, 42], 34) := by decide +kernel
theorem dX9_sight_64 : decode cX9_sight 64 = .ok (.iload_n 2, 1) := by decide +kernel
theorem dX9_sight_65 : decode cX9_sight 65 = .ok (.iconst 2, 1) := by decide +kernel
theorem dX9_sight_66 : decode cX9_sight 66 = .ok (.idiv, 1) := by decide +kernel
theorem dX9_sight_67 : decode cX9_sight 67 = .ok (.ireturn, 1) := by decide +kernel
theorem dX9_sight_68 : decode cX9_sight 68 = .ok (.iload_n 2, 1) := by decide +kernel
theorem dX9_sight_69 : decode cX9_sight 69 = .ok (.iconst 1, 1) := by decide +kernel
theorem dX9_sight_70 : decode cX9_sight 70 = .ok (.iadd, 1) := by decide +kernel
theorem dX9_sight_71 : decode cX9_sight 71 = .ok (.ireturn, 1) := by decide +kernel
theorem dX9_sight_72 : decode cX9_sight 72 = .ok (.iload_n 2, 1) := by decide +kernel
theorem dX9_sight_73 : decode cX9_sight 73 = .ok (.aload_n 0, 1) := by decide +kernel
theorem dX9_sight_74 : decode cX9_sight 74 = .ok (.iload_n 1, 1) := by decide +kernel
theorem dX9_sight_75 : decode cX9_sight 75 = .ok (.iconst 1, 1) := by decide +kernel
theorem dX9_sight_76 : decode cX9_sight 76 = .ok (.invokevirtual 80, 3) := by decide +kernel
theorem dX9_sight_79 : decode cX9_sight 79 = .ok (.iconst 3, 1) := by decide +kernel
theorem dX9_sight_80 : decode cX9_sight 80 = .ok (.irem, 1) := by decide +kernel
theorem dX9_sight_81 : decode cX9_sight 81 = .ok (.iadd, 1) := by decide +kernel
theorem dX9_sight_82 : decode cX9_sight 82 = .ok (.ireturn, 1) := by decide +kernel
theorem dX9_sight_83 : decode cX9_sight 83 = .ok (.iload_n 2, 1) := by decide +kernel
theorem dX9_sight_84 : decode cX9_sight 84 = .ok (.ireturn, 1) := by decide +kernel
set_option maxRecDepth 20000 in
theorem ggX9_seesOf_X9_its : GoodIn wsX9_seesOf wsX9_its := goodIn_r _ [6, 1, 79, 80, 81, 82, 83, 84, 85, 86, 87, 88, 89, 90, 91, 92, 93, 94, 95, 96, 97, 98, 99, 100, 101, 102, 103, 104, 105, 106] (by decide +kernel) (by decide +kernel)
set_option maxRecDepth 20000 in
theorem gX9_seesOf_X9_its : GoodIn wsX9_seesOf (wsV RX9 80 RX9 yX9_its wsX9_its) := goodIn_app (goodIn_of _ (by decide +kernel)) ggX9_seesOf_X9_its
set_option maxRecDepth 20000 in
theorem ggX9_seesOf_X9_sight : GoodIn wsX9_seesOf wsX9_sight := goodIn_r _ [10, 1, 2, 3, 4, 5, 6, 11, 12, 13, 14, 15, 16, 17, 18, 19, 20, 21, 22, 23, 24, 25, 26, 27, 28, 29, 30, 31, 32, 33, 34, 35, 36, 37, 38, 39, 40, 41, 42, 43, 44, 45, 46, 47, 48, 49, 50, 51, 52, 53, 54, 55, 56, 57, 58, 59, 60, 61, 62, 63, 64, 65, 66, 67, 68, 69, 70, 71, 72, 73, 74, 75, 79, 80, 81, 82, 83, 84, 85, 86, 87, 88, 89, 90, 91, 92, 93, 94, 95, 96, 97, 98, 99, 100, 101, 102, 103, 104, 105, 106] (by decide +kernel) (by decide +kernel)
set_option maxRecDepth 20000 in
theorem gX9_seesOf_X9_sight : GoodIn wsX9_seesOf (wsV RX9 97 RX9 yX9_sight wsX9_sight) := goodIn_app (goodIn_of _ (by decide +kernel)) ggX9_seesOf_X9_sight
set_option maxRecDepth 20000 in
theorem ggX9_seesOf_X9_has : GoodIn wsX9_seesOf wsX9_has := goodIn_r _ [78] (by decide +kernel) (by decide +kernel)
set_option maxRecDepth 20000 in
theorem gX9_seesOf_X9_has : GoodIn wsX9_seesOf (va_wsS RX9 76 yX9_has wsX9_has) := goodIn_app (goodIn_of _ (by decide +kernel)) ggX9_seesOf_X9_has
theorem dX9_seesOf_0 : decode cX9_seesOf 0 = .ok (.aload_n 0, 1) := by decide +kernel
theorem dX9_seesOf_1 : decode cX9_seesOf 1 = .ok (.iload_n 1, 1) := by decide +kernel
theorem dX9_seesOf_2 : decode cX9_seesOf 2 = .ok (.iconst 2, 1) := by decide +kernel
theorem dX9_seesOf_3 : decode cX9_seesOf 3 = .ok (.invokevirtual 80, 3) := by decide +kernel
theorem dX9_seesOf_6 : decode cX9_seesOf 6 = .ok (.istore_n 2, 1) := by decide +kernel
theorem dX9_seesOf_7 : decode cX9_seesOf 7 = .ok (.aload_n 0, 1) := by decide +kernel
theorem dX9_seesOf_8 : decode cX9_seesOf 8 = .ok (.iload_n 1, 1) := by decide +kernel
theorem dX9_seesOf_9 : decode cX9_seesOf 9 = .ok (.invokevirtual 97, 3) := by decide +kernel
theorem dX9_seesOf_12 : decode cX9_seesOf 12 = .ok (.istore_n 3, 1) := by decide +kernel
theorem dX9_seesOf_13 : decode cX9_seesOf 13 = .ok (.iconst 1, 1) := by decide +kernel
theorem dX9_seesOf_14 : decode cX9_seesOf 14 = .ok (.iload_n 2, 1) := by decide +kernel
theorem dX9_seesOf_15 : decode cX9_seesOf 15 = .ok (.ishl, 1) := by decide +kernel
theorem dX9_seesOf_16 : decode cX9_seesOf 16 = .ok (.istore 4, 2) := by decide +kernel
theorem dX9_seesOf_18 : decode cX9_seesOf 18 = .ok (.iload_n 2, 1) := by decide +kernel
theorem dX9_seesOf_19 : decode cX9_seesOf 19 = .ok (.istore 5, 2) := by decide +kernel
theorem dX9_seesOf_21 : decode cX9_seesOf 21 = .ok (.iload 5, 2) := by decide +kernel
theorem dX9_seesOf_23 : decode cX9_seesOf 23 = .ok (.aload_n 0, 1) := by decide +kernel
theorem dX9_seesOf_24 : decode cX9_seesOf 24 = .ok (.getfield 7, 3) := by decide +kernel
theorem dX9_seesOf_27 : decode cX9_seesOf 27 = .ok (.iconst 3, 1) := by decide +kernel
theorem dX9_seesOf_28 : decode cX9_seesOf 28 = .ok (.iaload, 1) := by decide +kernel
theorem dX9_seesOf_29 : decode cX9_seesOf 29 = .ok (.iconst 1, 1) := by decide +kernel
theorem dX9_seesOf_30 : decode cX9_seesOf 30 = .ok (.isub, 1) := by decide +kernel
theorem dX9_seesOf_31 : decode cX9_seesOf 31 = .ok (.if_icmp .ge 43, 3) := by decide +kernel
theorem dX9_seesOf_34 : decode cX9_seesOf 34 = .ok (.iload 5, 2) := by decide +kernel
theorem dX9_seesOf_36 : decode cX9_seesOf 36 = .ok (.iload_n 2, 1) := by decide +kernel
theorem dX9_seesOf_37 : decode cX9_seesOf 37 = .ok (.iload_n 3, 1) := by decide +kernel
theorem dX9_seesOf_38 : decode cX9_seesOf 38 = .ok (.iadd, 1) := by decide +kernel
theorem dX9_seesOf_39 : decode cX9_seesOf 39 = .ok (.if_icmp .ge 35, 3) := by decide +kernel
theorem dX9_seesOf_42 : decode cX9_seesOf 42 = .ok (.aload_n 0, 1) := by decide +kernel
theorem dX9_seesOf_43 : decode cX9_seesOf 43 = .ok (.getfield 7, 3) := by decide +kernel
theorem dX9_seesOf_46 : decode cX9_seesOf 46 = .ok (.bipush 9, 2) := by decide +kernel
theorem dX9_seesOf_48 : decode cX9_seesOf 48 = .ok (.iaload, 1) := by decide +kernel
theorem dX9_seesOf_49 : decode cX9_seesOf 49 = .ok (.iload 5, 2) := by decide +kernel
theorem dX9_seesOf_51 : decode cX9_seesOf 51 = .ok (.invokestatic 76, 3) := by decide +kernel
theorem dX9_seesOf_54 : decode cX9_seesOf 54 = .ok (.ifCond .ne 20, 3) := by decide +kernel
theorem dX9_seesOf_57 : decode cX9_seesOf 57 = .ok (.iload 4, 2) := by decide +kernel
theorem dX9_seesOf_59 : decode cX9_seesOf 59 = .ok (.iconst 1, 1) := by decide +kernel
theorem dX9_seesOf_60 : decode cX9_seesOf 60 = .ok (.iload 5, 2) := by decide +kernel
theorem dX9_seesOf_62 : decode cX9_seesOf 62 = .ok (.iconst 1, 1) := by decide +kernel
theorem dX9_seesOf_63 : decode cX9_seesOf 63 = .ok (.iadd, 1) := by decide +kernel
theorem dX9_seesOf_64 : decode cX9_seesOf 64 = .ok (.ishl, 1) := by decide +kernel
theorem dX9_seesOf_65 : decode cX9_seesOf 65 = .ok (.ior, 1) := by decide +kernel
theorem dX9_seesOf_66 : decode cX9_seesOf 66 = .ok (.istore 4, 2) := by decide +kernel
theorem dX9_seesOf_68 : decode cX9_seesOf 68 = .ok (.iinc 5 1, 3) := by decide +kernel
theorem dX9_seesOf_71 : decode cX9_seesOf 71 = .ok (.goto (-50), 3) := by decide +kernel
theorem dX9_seesOf_74 : decode cX9_seesOf 74 = .ok (.iload_n 2, 1) := by decide +kernel
theorem dX9_seesOf_75 : decode cX9_seesOf 75 = .ok (.istore 5, 2) := by decide +kernel
theorem dX9_seesOf_77 : decode cX9_seesOf 77 = .ok (.iload 5, 2) := by decide +kernel
theorem dX9_seesOf_79 : decode cX9_seesOf 79 = .ok (.ifCond .le 45, 3) := by decide +kernel
theorem dX9_seesOf_82 : decode cX9_seesOf 82 = .ok (.iload 5, 2) := by decide +kernel
theorem dX9_seesOf_84 : decode cX9_seesOf 84 = .ok (.iload_n 2, 1) := by decide +kernel
theorem dX9_seesOf_85 : decode cX9_seesOf 85 = .ok (.iload_n 3, 1) := by decide +kernel
theorem dX9_seesOf_86 : decode cX9_seesOf 86 = .ok (.isub, 1) := by decide +kernel
theorem dX9_seesOf_87 : decode cX9_seesOf 87 = .ok (.if_icmp .le 37, 3) := by decide +kernel
theorem dX9_seesOf_90 : decode cX9_seesOf 90 = .ok (.aload_n 0, 1) := by decide +kernel
theorem dX9_seesOf_91 : decode cX9_seesOf 91 = .ok (.getfield 7, 3) := by decide +kernel
theorem dX9_seesOf_94 : decode cX9_seesOf 94 = .ok (.bipush 9, 2) := by decide +kernel
theorem dX9_seesOf_96 : decode cX9_seesOf 96 = .ok (.iaload, 1) := by decide +kernel
theorem dX9_seesOf_97 : decode cX9_seesOf 97 = .ok (.iload 5, 2) := by decide +kernel
theorem dX9_seesOf_99 : decode cX9_seesOf 99 = .ok (.iconst 1, 1) := by decide +kernel
theorem dX9_seesOf_100 : decode cX9_seesOf 100 = .ok (.isub, 1) := by decide +kernel
theorem dX9_seesOf_101 : decode cX9_seesOf 101 = .ok (.invokestatic 76, 3) := by decide +kernel
theorem dX9_seesOf_104 : decode cX9_seesOf 104 = .ok (.ifCond .ne 20, 3) := by decide +kernel
theorem dX9_seesOf_107 : decode cX9_seesOf 107 = .ok (.iload 4, 2) := by decide +kernel
theorem dX9_seesOf_109 : decode cX9_seesOf 109 = .ok (.iconst 1, 1) := by decide +kernel
theorem dX9_seesOf_110 : decode cX9_seesOf 110 = .ok (.iload 5, 2) := by decide +kernel
theorem dX9_seesOf_112 : decode cX9_seesOf 112 = .ok (.iconst 1, 1) := by decide +kernel
theorem dX9_seesOf_113 : decode cX9_seesOf 113 = .ok (.isub, 1) := by decide +kernel
theorem dX9_seesOf_114 : decode cX9_seesOf 114 = .ok (.ishl, 1) := by decide +kernel
theorem dX9_seesOf_115 : decode cX9_seesOf 115 = .ok (.ior, 1) := by decide +kernel
theorem dX9_seesOf_116 : decode cX9_seesOf 116 = .ok (.istore 4, 2) := by decide +kernel
theorem dX9_seesOf_118 : decode cX9_seesOf 118 = .ok (.iinc 5 (-1), 3) := by decide +kernel
theorem dX9_seesOf_121 : decode cX9_seesOf 121 = .ok (.goto (-44), 3) := by decide +kernel
theorem dX9_seesOf_124 : decode cX9_seesOf 124 = .ok (.iload 4, 2) := by decide +kernel
theorem dX9_seesOf_126 : decode cX9_seesOf 126 = .ok (.istore 5, 2) := by decide +kernel
theorem dX9_seesOf_128 : decode cX9_seesOf 128 = .ok (.iconst 0, 1) := by decide +kernel
theorem dX9_seesOf_129 : decode cX9_seesOf 129 = .ok (.istore 6, 2) := by decide +kernel
theorem dX9_seesOf_131 : decode cX9_seesOf 131 = .ok (.iload 6, 2) := by decide +kernel
theorem dX9_seesOf_133 : decode cX9_seesOf 133 = .ok (.aload_n 0, 1) := by decide +kernel
theorem dX9_seesOf_134 : decode cX9_seesOf 134 = .ok (.getfield 7, 3) := by decide +kernel
theorem dX9_seesOf_137 : decode cX9_seesOf 137 = .ok (.iconst 3, 1) := by decide +kernel
theorem dX9_seesOf_138 : decode cX9_seesOf 138 = .ok (.iaload, 1) := by decide +kernel
theorem dX9_seesOf_139 : decode cX9_seesOf 139 = .ok (.if_icmp .ge 51, 3) := by decide +kernel
theorem dX9_seesOf_142 : decode cX9_seesOf 142 = .ok (.aload_n 0, 1) := by decide +kernel
theorem dX9_seesOf_143 : decode cX9_seesOf 143 = .ok (.iload_n 1, 1) := by decide +kernel
theorem dX9_seesOf_144 : decode cX9_seesOf 144 = .ok (.iconst 0, 1) := by decide +kernel
theorem dX9_seesOf_145 : decode cX9_seesOf 145 = .ok (.invokevirtual 80, 3) := by decide +kernel
theorem dX9_seesOf_148 : decode cX9_seesOf 148 = .ok (.iconst 5, 1) := by decide +kernel
theorem dX9_seesOf_149 : decode cX9_seesOf 149 = .ok (.if_icmp .ne 41, 3) := by decide +kernel
theorem dX9_seesOf_152 : decode cX9_seesOf 152 = .ok (.iload 5, 2) := by decide +kernel
theorem dX9_seesOf_154 : decode cX9_seesOf 154 = .ok (.iload 4, 2) := by decide +kernel
theorem dX9_seesOf_156 : decode cX9_seesOf 156 = .ok (.iload 6, 2) := by decide +kernel
theorem dX9_seesOf_158 : decode cX9_seesOf 158 = .ok (.invokestatic 76, 3) := by decide +kernel
theorem dX9_seesOf_161 : decode cX9_seesOf 161 = .ok (.ifCond .eq 19, 3) := by decide +kernel
theorem dX9_seesOf_164 : decode cX9_seesOf 164 = .ok (.iconst 1, 1) := by decide +kernel
theorem dX9_seesOf_165 : decode cX9_seesOf 165 = .ok (.aload_n 0, 1) := by decide +kernel
theorem dX9_seesOf_166 : decode cX9_seesOf 166 = .ok (.getfield 7, 3) := by decide +kernel
theorem dX9_seesOf_169 : decode cX9_seesOf 169 = .ok (.iconst 3, 1) := by decide +kernel
theorem dX9_seesOf_170 : decode cX9_seesOf 170 = .ok (.iaload, 1) := by decide +kernel
theorem dX9_seesOf_171 : decode cX9_seesOf 171 = .ok (.iconst 1, 1) := by decide +kernel
theorem dX9_seesOf_172 : decode cX9_seesOf 172 = .ok (.isub, 1) := by decide +kernel
theorem dX9_seesOf_173 : decode cX9_seesOf 173 = .ok (.iload 6, 2) := by decide +kernel
theorem dX9_seesOf_175 : decode cX9_seesOf 175 = .ok (.isub, 1) := by decide +kernel
theorem dX9_seesOf_176 : decode cX9_seesOf 176 = .ok (.ishl, 1) := by decide +kernel
theorem dX9_seesOf_177 : decode cX9_seesOf 177 = .ok (.goto 4, 3) := by decide +kernel
theorem dX9_seesOf_180 : decode cX9_seesOf 180 = .ok (.iconst 0, 1) := by decide +kernel
theorem dX9_seesOf_181 : decode cX9_seesOf 181 = .ok (.ior, 1) := by decide +kernel
theorem dX9_seesOf_182 : decode cX9_seesOf 182 = .ok (.istore 5, 2) := by decide +kernel
theorem dX9_seesOf_184 : decode cX9_seesOf 184 = .ok (.iinc 6 1, 3) := by decide +kernel
theorem dX9_seesOf_187 : decode cX9_seesOf 187 = .ok (.goto (-56), 3) := by decide +kernel
theorem dX9_seesOf_190 : decode cX9_seesOf 190 = .ok (.iload 5, 2) := by decide +kernel
theorem dX9_seesOf_192 : decode cX9_seesOf 192 = .ok (.ireturn, 1) := by decide +kernel
set_option maxRecDepth 20000 in
theorem ggX9_counts_X9_its : GoodIn wsX9_counts wsX9_its := goodIn_r _ [5, 6, 7, 8, 9, 10, 11, 12, 13, 14, 15, 16, 17, 18, 19, 20, 21, 22, 23, 24, 25, 26, 27, 28, 29, 30, 31, 32, 33, 34] (by decide +kernel) (by decide +kernel)
set_option maxRecDepth 20000 in
theorem gX9_counts_X9_its : GoodIn wsX9_counts (wsV RX9 80 RX9 yX9_its wsX9_its) := goodIn_app (goodIn_of _ (by decide +kernel)) ggX9_counts_X9_its
theorem dX9_counts_0 : decode cX9_counts 0 = .ok (.aload_n 0, 1) := by decide +kernel
theorem dX9_counts_1 : decode cX9_counts 1 = .ok (.iload_n 1, 1) := by decide +kernel
theorem dX9_counts_2 : decode cX9_counts 2 = .ok (.iconst 0, 1) := by decide +kernel
theorem dX9_counts_3 : decode cX9_counts 3 = .ok (.invokevirtual 80, 3) := by decide +kernel
theorem dX9_counts_6 : decode cX9_counts 6 = .ok (.tableswitch 51 1 5 #[34, 36, 49, 34, 38], 34) := by decide +kernel
theorem dX9_counts_40 : decode cX9_counts 40 = .ok (.iconst 4, 1) := by decide +kernel
theorem dX9_counts_41 : decode cX9_counts 41 = .ok (.ireturn, 1) := by decide +kernel
theorem dX9_counts_42 : decode cX9_counts 42 = .ok (.iconst 1, 1) := by decide +kernel
theorem dX9_counts_43 : decode cX9_counts 43 = .ok (.ireturn, 1) := by decide +kernel
theorem dX9_counts_44 : decode cX9_counts 44 = .ok (.iconst 1, 1) := by decide +kernel
theorem dX9_counts_45 : decode cX9_counts 45 = .ok (.aload_n 0, 1) := by decide +kernel
theorem dX9_counts_46 : decode cX9_counts 46 = .ok (.iload_n 1, 1) := by decide +kernel
theorem dX9_counts_47 : decode cX9_counts 47 = .ok (.iconst 1, 1) := by decide +kernel
theorem dX9_counts_48 : decode cX9_counts 48 = .ok (.invokevirtual 80, 3) := by decide +kernel
theorem dX9_counts_51 : decode cX9_counts 51 = .ok (.iconst 2, 1) := by decide +kernel
theorem dX9_counts_52 : decode cX9_counts 52 = .ok (.irem, 1) := by decide +kernel
theorem dX9_counts_53 : decode cX9_counts 53 = .ok (.iadd, 1) := by decide +kernel
theorem dX9_counts_54 : decode cX9_counts 54 = .ok (.ireturn, 1) := by decide +kernel
theorem dX9_counts_55 : decode cX9_counts 55 = .ok (.iconst 0, 1) := by decide +kernel
theorem dX9_counts_56 : decode cX9_counts 56 = .ok (.ireturn, 1) := by decide +kernel
theorem dX9_counts_57 : decode cX9_counts 57 = .ok (.iconst 2, 1) := by decide +kernel
theorem dX9_counts_58 : decode cX9_counts 58 = .ok (.ireturn, 1) := by decide +kernel
set_option maxRecDepth 20000 in
theorem ggX9_takes_X9_its : GoodIn wsX9_takes wsX9_its := goodIn_r _ [6, 1, 72, 73, 74, 75, 76, 77, 78, 79, 80, 81, 82, 83, 84, 85, 86, 87, 88, 89, 90, 91, 92, 93, 94, 95, 96, 97, 98, 99] (by decide +kernel) (by decide +kernel)
set_option maxRecDepth 20000 in
theorem gX9_takes_X9_its : GoodIn wsX9_takes (wsV RX9 80 RX9 yX9_its wsX9_its) := goodIn_app (goodIn_of _ (by decide +kernel)) ggX9_takes_X9_its
set_option maxRecDepth 20000 in
theorem ggX9_takes_X9_lawOf : GoodIn wsX9_takes wsX9_lawOf := goodIn_r _ [10, 1, 11, 12, 13, 5, 14, 15, 16, 17, 18, 19, 20, 21, 22, 23, 24, 25, 26, 27, 28, 29, 30, 31, 32, 33, 34, 35, 36, 37, 38, 39, 40, 41, 42, 43, 44, 45, 46, 47, 48, 49, 50, 51, 52, 53, 54, 55, 56, 57, 58, 59, 60, 61, 62, 63, 64, 65, 66, 67, 68, 69, 70, 71, 72, 73, 74, 75, 76, 77, 78, 79, 80, 81, 82, 83, 84, 85, 86, 87, 88, 89, 90, 91, 92, 93, 94, 95, 96, 97, 98, 99] (by decide +kernel) (by decide +kernel)
set_option maxRecDepth 20000 in
theorem gX9_takes_X9_lawOf : GoodIn wsX9_takes (wsV RX9 177 RX9 yX9_lawOf wsX9_lawOf) := goodIn_app (goodIn_of _ (by decide +kernel)) ggX9_takes_X9_lawOf
theorem dX9_takes_0 : decode cX9_takes 0 = .ok (.aload_n 0, 1) := by decide +kernel
theorem dX9_takes_1 : decode cX9_takes 1 = .ok (.iload_n 1, 1) := by decide +kernel
theorem dX9_takes_2 : decode cX9_takes 2 = .ok (.iconst 0, 1) := by decide +kernel
theorem dX9_takes_3 : decode cX9_takes 3 = .ok (.invokevirtual 80, 3) := by decide +kernel
theorem dX9_takes_6 : decode cX9_takes 6 = .ok (.istore_n 2, 1) := by decide +kernel
theorem dX9_takes_7 : decode cX9_takes 7 = .ok (.iload_n 2, 1) := by decide +kernel
theorem dX9_takes_8 : decode cX9_takes 8 = .ok (.iconst 3, 1) := by decide +kernel
theorem dX9_takes_9 : decode cX9_takes 9 = .ok (.if_icmp .eq 11, 3) := by decide +kernel
theorem dX9_takes_12 : decode cX9_takes 12 = .ok (.iload_n 2, 1) := by decide +kernel
theorem dX9_takes_13 : decode cX9_takes 13 = .ok (.bipush 6, 2) := by decide +kernel
theorem dX9_takes_15 : decode cX9_takes 15 = .ok (.if_icmp .eq 5, 3) := by decide +kernel
theorem dX9_takes_18 : decode cX9_takes 18 = .ok (.iconst 0, 1) := by decide +kernel
theorem dX9_takes_19 : decode cX9_takes 19 = .ok (.ireturn, 1) := by decide +kernel
theorem dX9_takes_20 : decode cX9_takes 20 = .ok (.aload_n 0, 1) := by decide +kernel
theorem dX9_takes_21 : decode cX9_takes 21 = .ok (.iconst 1, 1) := by decide +kernel
theorem dX9_takes_22 : decode cX9_takes 22 = .ok (.aload_n 0, 1) := by decide +kernel
theorem dX9_takes_23 : decode cX9_takes 23 = .ok (.iload_n 1, 1) := by decide +kernel
theorem dX9_takes_24 : decode cX9_takes 24 = .ok (.iconst 1, 1) := by decide +kernel
theorem dX9_takes_25 : decode cX9_takes 25 = .ok (.invokevirtual 80, 3) := by decide +kernel
theorem dX9_takes_28 : decode cX9_takes 28 = .ok (.aload_n 0, 1) := by decide +kernel
theorem dX9_takes_29 : decode cX9_takes 29 = .ok (.getfield 7, 3) := by decide +kernel
theorem dX9_takes_32 : decode cX9_takes 32 = .ok (.bipush 12, 2) := by decide +kernel
theorem dX9_takes_34 : decode cX9_takes 34 = .ok (.aload_n 0, 1) := by decide +kernel
theorem dX9_takes_35 : decode cX9_takes 35 = .ok (.iload_n 1, 1) := by decide +kernel
theorem dX9_takes_36 : decode cX9_takes 36 = .ok (.iconst 2, 1) := by decide +kernel
theorem dX9_takes_37 : decode cX9_takes 37 = .ok (.invokevirtual 80, 3) := by decide +kernel
theorem dX9_takes_40 : decode cX9_takes 40 = .ok (.iadd, 1) := by decide +kernel
theorem dX9_takes_41 : decode cX9_takes 41 = .ok (.iaload, 1) := by decide +kernel
theorem dX9_takes_42 : decode cX9_takes 42 = .ok (.aload_n 0, 1) := by decide +kernel
theorem dX9_takes_43 : decode cX9_takes 43 = .ok (.getfield 7, 3) := by decide +kernel
theorem dX9_takes_46 : decode cX9_takes 46 = .ok (.iconst 0, 1) := by decide +kernel
theorem dX9_takes_47 : decode cX9_takes 47 = .ok (.iaload, 1) := by decide +kernel
theorem dX9_takes_48 : decode cX9_takes 48 = .ok (.invokevirtual 177, 3) := by decide +kernel
theorem dX9_takes_51 : decode cX9_takes 51 = .ok (.istore_n 3, 1) := by decide +kernel
theorem dX9_takes_52 : decode cX9_takes 52 = .ok (.iload_n 2, 1) := by decide +kernel
theorem dX9_takes_53 : decode cX9_takes 53 = .ok (.iconst 3, 1) := by decide +kernel
theorem dX9_takes_54 : decode cX9_takes 54 = .ok (.if_icmp .ne 7, 3) := by decide +kernel
theorem dX9_takes_57 : decode cX9_takes 57 = .ok (.iload_n 3, 1) := by decide +kernel
theorem dX9_takes_58 : decode cX9_takes 58 = .ok (.goto 6, 3) := by decide +kernel
theorem dX9_takes_61 : decode cX9_takes 61 = .ok (.iload_n 3, 1) := by decide +kernel
theorem dX9_takes_62 : decode cX9_takes 62 = .ok (.iconst 2, 1) := by decide +kernel
theorem dX9_takes_63 : decode cX9_takes 63 = .ok (.idiv, 1) := by decide +kernel
theorem dX9_takes_64 : decode cX9_takes 64 = .ok (.ireturn, 1) := by decide +kernel
set_option maxRecDepth 20000 in
theorem ggX9_oneHour_X9_seesOf : GoodIn wsX9_oneHour wsX9_seesOf := goodIn_r _ [9, 1, 10, 11, 12, 8, 13, 14, 15, 16, 17, 18, 19, 20, 21, 22, 23, 24, 25, 26, 27, 28, 29, 30, 31, 32, 33, 34, 35, 36, 37, 38, 39, 40, 41, 42, 43, 44, 45, 46, 47, 48, 49, 50, 51, 52, 53, 54, 55, 56, 57, 58, 59, 60, 61, 62, 63, 64, 65, 66, 67, 68, 69, 70, 71, 72, 73, 74, 75, 76, 77, 78, 79, 80, 81, 82, 83, 84, 85, 106, 107, 108, 109, 110, 111, 112, 113, 114, 115, 116, 117, 118, 119, 120, 121, 122, 123, 124, 125, 126, 127, 128, 129, 130, 131, 132, 133] (by decide +kernel) (by decide +kernel)
set_option maxRecDepth 20000 in
theorem gX9_oneHour_X9_seesOf : GoodIn wsX9_oneHour (wsV RX9 73 RX9 yX9_seesOf wsX9_seesOf) := goodIn_app (goodIn_of _ (by decide +kernel)) ggX9_oneHour_X9_seesOf
set_option maxRecDepth 20000 in
theorem ggX9_oneHour_X9_has : GoodIn wsX9_oneHour wsX9_has := goodIn_r _ [85] (by decide +kernel) (by decide +kernel)
set_option maxRecDepth 20000 in
theorem gX9_oneHour_X9_has : GoodIn wsX9_oneHour (va_wsS RX9 76 yX9_has wsX9_has) := goodIn_app (goodIn_of _ (by decide +kernel)) ggX9_oneHour_X9_has
set_option maxRecDepth 20000 in
theorem ggX9_oneHour_X9_counts : GoodIn wsX9_oneHour wsX9_counts := goodIn_r _ [89, 10, 11, 12, 8, 13, 1, 106, 107, 108, 109, 110, 111, 112, 113, 114, 115, 116, 117, 118, 119, 120, 121, 122, 123, 124, 125, 126, 127, 128, 129, 130, 131, 132, 133] (by decide +kernel) (by decide +kernel)
set_option maxRecDepth 20000 in
theorem gX9_oneHour_X9_counts : GoodIn wsX9_oneHour (wsV RX9 100 RX9 yX9_counts wsX9_counts) := goodIn_app (goodIn_of _ (by decide +kernel)) ggX9_oneHour_X9_counts
set_option maxRecDepth 20000 in
theorem ggX9_oneHour_X9_held : GoodIn wsX9_oneHour wsX9_held := goodIn_r _ [82] (by decide +kernel) (by decide +kernel)
set_option maxRecDepth 20000 in
theorem gX9_oneHour_X9_held : GoodIn wsX9_oneHour (va_wsS RX9 173 yX9_held wsX9_held) := goodIn_app (goodIn_of _ (by decide +kernel)) ggX9_oneHour_X9_held
set_option maxRecDepth 20000 in
theorem ggX9_oneHour_X9_takesAndGoes : GoodIn wsX9_oneHour wsX9_takesAndGoes := goodIn_r _ [93, 1, 4, 10, 11, 12, 8, 13, 94, 95, 96, 97, 18, 19, 20, 21, 22, 23, 24, 25, 26, 27, 28, 29, 30, 31, 32, 33, 34, 35, 36, 37, 38, 39, 40, 41, 42, 43, 44, 45, 46, 47, 48, 49, 50, 51, 52, 53, 54, 55, 56, 57, 58, 59, 60, 61, 62, 63, 64, 65, 66, 67, 68, 69, 70, 71, 72, 73, 74, 75, 76, 77, 78, 79, 80, 81, 82, 98, 99, 100, 101, 102, 103, 104, 105, 106, 107, 108, 109, 110, 111, 112, 113, 114, 115, 116, 117, 118, 119, 120, 121, 122, 123, 124, 125, 126, 127, 128, 129, 130, 131, 132, 133] (by decide +kernel) (by decide +kernel)
set_option maxRecDepth 20000 in
theorem gX9_oneHour_X9_takesAndGoes : GoodIn wsX9_oneHour (wsV RX9 186 RX9 yX9_takesAndGoes wsX9_takesAndGoes) := goodIn_app (goodIn_of _ (by decide +kernel)) ggX9_oneHour_X9_takesAndGoes
theorem dX9_oneHour_0 : decode cX9_oneHour 0 = .ok (.iconst 0, 1) := by decide +kernel
theorem dX9_oneHour_1 : decode cX9_oneHour 1 = .ok (.istore_n 1, 1) := by decide +kernel
theorem dX9_oneHour_2 : decode cX9_oneHour 2 = .ok (.iload_n 1, 1) := by decide +kernel
theorem dX9_oneHour_3 : decode cX9_oneHour 3 = .ok (.aload_n 0, 1) := by decide +kernel
theorem dX9_oneHour_4 : decode cX9_oneHour 4 = .ok (.getfield 7, 3) := by decide +kernel
theorem dX9_oneHour_7 : decode cX9_oneHour 7 = .ok (.iconst 3, 1) := by decide +kernel
theorem dX9_oneHour_8 : decode cX9_oneHour 8 = .ok (.iaload, 1) := by decide +kernel
theorem dX9_oneHour_9 : decode cX9_oneHour 9 = .ok (.if_icmp .ge 16, 3) := by decide +kernel
theorem dX9_oneHour_12 : decode cX9_oneHour 12 = .ok (.aload_n 0, 1) := by decide +kernel
theorem dX9_oneHour_13 : decode cX9_oneHour 13 = .ok (.getfield 29, 3) := by decide +kernel
theorem dX9_oneHour_16 : decode cX9_oneHour 16 = .ok (.iload_n 1, 1) := by decide +kernel
theorem dX9_oneHour_17 : decode cX9_oneHour 17 = .ok (.iconst 0, 1) := by decide +kernel
theorem dX9_oneHour_18 : decode cX9_oneHour 18 = .ok (.iastore, 1) := by decide +kernel
theorem dX9_oneHour_19 : decode cX9_oneHour 19 = .ok (.iinc 1 1, 3) := by decide +kernel
theorem dX9_oneHour_22 : decode cX9_oneHour 22 = .ok (.goto (-20), 3) := by decide +kernel
theorem dX9_oneHour_25 : decode cX9_oneHour 25 = .ok (.iconst 0, 1) := by decide +kernel
theorem dX9_oneHour_26 : decode cX9_oneHour 26 = .ok (.istore_n 1, 1) := by decide +kernel
theorem dX9_oneHour_27 : decode cX9_oneHour 27 = .ok (.iload_n 1, 1) := by decide +kernel
theorem dX9_oneHour_28 : decode cX9_oneHour 28 = .ok (.aload_n 0, 1) := by decide +kernel
theorem dX9_oneHour_29 : decode cX9_oneHour 29 = .ok (.getfield 7, 3) := by decide +kernel
theorem dX9_oneHour_32 : decode cX9_oneHour 32 = .ok (.bipush 8, 2) := by decide +kernel
theorem dX9_oneHour_34 : decode cX9_oneHour 34 = .ok (.iaload, 1) := by decide +kernel
theorem dX9_oneHour_35 : decode cX9_oneHour 35 = .ok (.if_icmp .ge 71, 3) := by decide +kernel
theorem dX9_oneHour_38 : decode cX9_oneHour 38 = .ok (.iload_n 1, 1) := by decide +kernel
theorem dX9_oneHour_39 : decode cX9_oneHour 39 = .ok (.aload_n 0, 1) := by decide +kernel
theorem dX9_oneHour_40 : decode cX9_oneHour 40 = .ok (.getfield 25, 3) := by decide +kernel
theorem dX9_oneHour_43 : decode cX9_oneHour 43 = .ok (.if_icmp .ne 7, 3) := by decide +kernel
theorem dX9_oneHour_46 : decode cX9_oneHour 46 = .ok (.iconst 0, 1) := by decide +kernel
theorem dX9_oneHour_47 : decode cX9_oneHour 47 = .ok (.goto 8, 3) := by decide +kernel
theorem dX9_oneHour_50 : decode cX9_oneHour 50 = .ok (.aload_n 0, 1) := by decide +kernel
theorem dX9_oneHour_51 : decode cX9_oneHour 51 = .ok (.iload_n 1, 1) := by decide +kernel
theorem dX9_oneHour_52 : decode cX9_oneHour 52 = .ok (.invokevirtual 73, 3) := by decide +kernel
theorem dX9_oneHour_55 : decode cX9_oneHour 55 = .ok (.istore_n 2, 1) := by decide +kernel
theorem dX9_oneHour_56 : decode cX9_oneHour 56 = .ok (.iconst 0, 1) := by decide +kernel
theorem dX9_oneHour_57 : decode cX9_oneHour 57 = .ok (.istore_n 3, 1) := by decide +kernel
theorem dX9_oneHour_58 : decode cX9_oneHour 58 = .ok (.iload_n 3, 1) := by decide +kernel
theorem dX9_oneHour_59 : decode cX9_oneHour 59 = .ok (.aload_n 0, 1) := by decide +kernel
theorem dX9_oneHour_60 : decode cX9_oneHour 60 = .ok (.getfield 7, 3) := by decide +kernel
theorem dX9_oneHour_63 : decode cX9_oneHour 63 = .ok (.iconst 3, 1) := by decide +kernel
theorem dX9_oneHour_64 : decode cX9_oneHour 64 = .ok (.iaload, 1) := by decide +kernel
theorem dX9_oneHour_65 : decode cX9_oneHour 65 = .ok (.if_icmp .ge 35, 3) := by decide +kernel
theorem dX9_oneHour_68 : decode cX9_oneHour 68 = .ok (.aload_n 0, 1) := by decide +kernel
theorem dX9_oneHour_69 : decode cX9_oneHour 69 = .ok (.getfield 29, 3) := by decide +kernel
theorem dX9_oneHour_72 : decode cX9_oneHour 72 = .ok (.iload_n 3, 1) := by decide +kernel
theorem dX9_oneHour_73 : decode cX9_oneHour 73 = .ok (.dup2, 1) := by decide +kernel
theorem dX9_oneHour_74 : decode cX9_oneHour 74 = .ok (.iaload, 1) := by decide +kernel
theorem dX9_oneHour_75 : decode cX9_oneHour 75 = .ok (.iload_n 2, 1) := by decide +kernel
theorem dX9_oneHour_76 : decode cX9_oneHour 76 = .ok (.iload_n 3, 1) := by decide +kernel
theorem dX9_oneHour_77 : decode cX9_oneHour 77 = .ok (.invokestatic 76, 3) := by decide +kernel
theorem dX9_oneHour_80 : decode cX9_oneHour 80 = .ok (.ifCond .eq 11, 3) := by decide +kernel
theorem dX9_oneHour_83 : decode cX9_oneHour 83 = .ok (.aload_n 0, 1) := by decide +kernel
theorem dX9_oneHour_84 : decode cX9_oneHour 84 = .ok (.iload_n 1, 1) := by decide +kernel
theorem dX9_oneHour_85 : decode cX9_oneHour 85 = .ok (.invokevirtual 100, 3) := by decide +kernel
theorem dX9_oneHour_88 : decode cX9_oneHour 88 = .ok (.goto 4, 3) := by decide +kernel
theorem dX9_oneHour_91 : decode cX9_oneHour 91 = .ok (.iconst 0, 1) := by decide +kernel
theorem dX9_oneHour_92 : decode cX9_oneHour 92 = .ok (.iadd, 1) := by decide +kernel
theorem dX9_oneHour_93 : decode cX9_oneHour 93 = .ok (.iastore, 1) := by decide +kernel
theorem dX9_oneHour_94 : decode cX9_oneHour 94 = .ok (.iinc 3 1, 3) := by decide +kernel
theorem dX9_oneHour_97 : decode cX9_oneHour 97 = .ok (.goto (-39), 3) := by decide +kernel
theorem dX9_oneHour_100 : decode cX9_oneHour 100 = .ok (.iinc 1 1, 3) := by decide +kernel
theorem dX9_oneHour_103 : decode cX9_oneHour 103 = .ok (.goto (-76), 3) := by decide +kernel
theorem dX9_oneHour_106 : decode cX9_oneHour 106 = .ok (.iconst 0, 1) := by decide +kernel
theorem dX9_oneHour_107 : decode cX9_oneHour 107 = .ok (.istore_n 1, 1) := by decide +kernel
theorem dX9_oneHour_108 : decode cX9_oneHour 108 = .ok (.iload_n 1, 1) := by decide +kernel
theorem dX9_oneHour_109 : decode cX9_oneHour 109 = .ok (.aload_n 0, 1) := by decide +kernel
theorem dX9_oneHour_110 : decode cX9_oneHour 110 = .ok (.getfield 7, 3) := by decide +kernel
theorem dX9_oneHour_113 : decode cX9_oneHour 113 = .ok (.iconst 3, 1) := by decide +kernel
theorem dX9_oneHour_114 : decode cX9_oneHour 114 = .ok (.iaload, 1) := by decide +kernel
theorem dX9_oneHour_115 : decode cX9_oneHour 115 = .ok (.if_icmp .ge 52, 3) := by decide +kernel
theorem dX9_oneHour_118 : decode cX9_oneHour 118 = .ok (.aload_n 0, 1) := by decide +kernel
theorem dX9_oneHour_119 : decode cX9_oneHour 119 = .ok (.getfield 7, 3) := by decide +kernel
theorem dX9_oneHour_122 : decode cX9_oneHour 122 = .ok (.bipush 12, 2) := by decide +kernel
theorem dX9_oneHour_124 : decode cX9_oneHour 124 = .ok (.iload_n 1, 1) := by decide +kernel
theorem dX9_oneHour_125 : decode cX9_oneHour 125 = .ok (.iadd, 1) := by decide +kernel
theorem dX9_oneHour_126 : decode cX9_oneHour 126 = .ok (.aload_n 0, 1) := by decide +kernel
theorem dX9_oneHour_127 : decode cX9_oneHour 127 = .ok (.getfield 7, 3) := by decide +kernel
theorem dX9_oneHour_130 : decode cX9_oneHour 130 = .ok (.bipush 12, 2) := by decide +kernel
theorem dX9_oneHour_132 : decode cX9_oneHour 132 = .ok (.iload_n 1, 1) := by decide +kernel
theorem dX9_oneHour_133 : decode cX9_oneHour 133 = .ok (.iadd, 1) := by decide +kernel
theorem dX9_oneHour_134 : decode cX9_oneHour 134 = .ok (.iaload, 1) := by decide +kernel
theorem dX9_oneHour_135 : decode cX9_oneHour 135 = .ok (.aload_n 0, 1) := by decide +kernel
theorem dX9_oneHour_136 : decode cX9_oneHour 136 = .ok (.getfield 29, 3) := by decide +kernel
theorem dX9_oneHour_139 : decode cX9_oneHour 139 = .ok (.iload_n 1, 1) := by decide +kernel
theorem dX9_oneHour_140 : decode cX9_oneHour 140 = .ok (.iaload, 1) := by decide +kernel
theorem dX9_oneHour_141 : decode cX9_oneHour 141 = .ok (.iconst 2, 1) := by decide +kernel
theorem dX9_oneHour_142 : decode cX9_oneHour 142 = .ok (.idiv, 1) := by decide +kernel
theorem dX9_oneHour_143 : decode cX9_oneHour 143 = .ok (.iadd, 1) := by decide +kernel
theorem dX9_oneHour_144 : decode cX9_oneHour 144 = .ok (.aload_n 0, 1) := by decide +kernel
theorem dX9_oneHour_145 : decode cX9_oneHour 145 = .ok (.getfield 7, 3) := by decide +kernel
theorem dX9_oneHour_148 : decode cX9_oneHour 148 = .ok (.bipush 22, 2) := by decide +kernel
theorem dX9_oneHour_150 : decode cX9_oneHour 150 = .ok (.iload_n 1, 1) := by decide +kernel
theorem dX9_oneHour_151 : decode cX9_oneHour 151 = .ok (.iadd, 1) := by decide +kernel
theorem dX9_oneHour_152 : decode cX9_oneHour 152 = .ok (.iaload, 1) := by decide +kernel
theorem dX9_oneHour_153 : decode cX9_oneHour 153 = .ok (.isub, 1) := by decide +kernel
theorem dX9_oneHour_154 : decode cX9_oneHour 154 = .ok (.iconst 0, 1) := by decide +kernel
theorem dX9_oneHour_155 : decode cX9_oneHour 155 = .ok (.ldc 72, 2) := by decide +kernel
theorem dX9_oneHour_157 : decode cX9_oneHour 157 = .ok (.invokestatic 173, 3) := by decide +kernel
theorem dX9_oneHour_160 : decode cX9_oneHour 160 = .ok (.iastore, 1) := by decide +kernel
theorem dX9_oneHour_161 : decode cX9_oneHour 161 = .ok (.iinc 1 1, 3) := by decide +kernel
theorem dX9_oneHour_164 : decode cX9_oneHour 164 = .ok (.goto (-56), 3) := by decide +kernel
theorem dX9_oneHour_167 : decode cX9_oneHour 167 = .ok (.iconst 0, 1) := by decide +kernel
theorem dX9_oneHour_168 : decode cX9_oneHour 168 = .ok (.istore_n 1, 1) := by decide +kernel
theorem dX9_oneHour_169 : decode cX9_oneHour 169 = .ok (.iload_n 1, 1) := by decide +kernel
theorem dX9_oneHour_170 : decode cX9_oneHour 170 = .ok (.aload_n 0, 1) := by decide +kernel
theorem dX9_oneHour_171 : decode cX9_oneHour 171 = .ok (.getfield 7, 3) := by decide +kernel
theorem dX9_oneHour_174 : decode cX9_oneHour 174 = .ok (.bipush 8, 2) := by decide +kernel
theorem dX9_oneHour_176 : decode cX9_oneHour 176 = .ok (.iaload, 1) := by decide +kernel
theorem dX9_oneHour_177 : decode cX9_oneHour 177 = .ok (.if_icmp .ge 22, 3) := by decide +kernel
theorem dX9_oneHour_180 : decode cX9_oneHour 180 = .ok (.iload_n 1, 1) := by decide +kernel
theorem dX9_oneHour_181 : decode cX9_oneHour 181 = .ok (.aload_n 0, 1) := by decide +kernel
theorem dX9_oneHour_182 : decode cX9_oneHour 182 = .ok (.getfield 25, 3) := by decide +kernel
theorem dX9_oneHour_185 : decode cX9_oneHour 185 = .ok (.if_icmp .eq 8, 3) := by decide +kernel
theorem dX9_oneHour_188 : decode cX9_oneHour 188 = .ok (.aload_n 0, 1) := by decide +kernel
theorem dX9_oneHour_189 : decode cX9_oneHour 189 = .ok (.iload_n 1, 1) := by decide +kernel
theorem dX9_oneHour_190 : decode cX9_oneHour 190 = .ok (.invokevirtual 186, 3) := by decide +kernel
theorem dX9_oneHour_193 : decode cX9_oneHour 193 = .ok (.iinc 1 1, 3) := by decide +kernel
theorem dX9_oneHour_196 : decode cX9_oneHour 196 = .ok (.goto (-27), 3) := by decide +kernel
theorem dX9_oneHour_199 : decode cX9_oneHour 199 = .ok (.aload_n 0, 1) := by decide +kernel
theorem dX9_oneHour_200 : decode cX9_oneHour 200 = .ok (.getfield 7, 3) := by decide +kernel
theorem dX9_oneHour_203 : decode cX9_oneHour 203 = .ok (.iconst 0, 1) := by decide +kernel
theorem dX9_oneHour_204 : decode cX9_oneHour 204 = .ok (.dup2, 1) := by decide +kernel
theorem dX9_oneHour_205 : decode cX9_oneHour 205 = .ok (.iaload, 1) := by decide +kernel
theorem dX9_oneHour_206 : decode cX9_oneHour 206 = .ok (.iconst 1, 1) := by decide +kernel
theorem dX9_oneHour_207 : decode cX9_oneHour 207 = .ok (.iadd, 1) := by decide +kernel
theorem dX9_oneHour_208 : decode cX9_oneHour 208 = .ok (.iastore, 1) := by decide +kernel
theorem dX9_oneHour_209 : decode cX9_oneHour 209 = .ok (.return_, 1) := by decide +kernel
set_option maxRecDepth 20000 in
theorem ggX9_takesAndGoes_X9_its : GoodIn wsX9_takesAndGoes wsX9_its := goodIn_r _ [7, 1, 85, 86, 87, 88, 89, 90, 91, 92, 93, 94, 95, 96, 97, 98, 99, 100, 101, 102, 103, 104, 105, 106, 107, 108, 109, 110, 111, 112] (by decide +kernel) (by decide +kernel)
set_option maxRecDepth 20000 in
theorem gX9_takesAndGoes_X9_its : GoodIn wsX9_takesAndGoes (wsV RX9 80 RX9 yX9_its wsX9_its) := goodIn_app (goodIn_of _ (by decide +kernel)) ggX9_takesAndGoes_X9_its
set_option maxRecDepth 20000 in
theorem ggX9_takesAndGoes_X9_takes : GoodIn wsX9_takesAndGoes wsX9_takes := goodIn_r _ [11, 1, 3, 4, 5, 6, 7, 12, 13, 14, 15, 16, 17, 18, 19, 20, 21, 22, 23, 24, 25, 26, 27, 28, 29, 30, 31, 32, 33, 34, 35, 36, 37, 38, 39, 40, 41, 42, 43, 44, 45, 46, 47, 48, 49, 50, 51, 52, 53, 54, 55, 56, 57, 58, 59, 60, 61, 62, 63, 64, 65, 66, 67, 68, 69, 70, 71, 72, 73, 74, 75, 76, 85, 86, 87, 88, 89, 90, 91, 92, 93, 94, 95, 96, 97, 98, 99, 100, 101, 102, 103, 104, 105, 106, 107, 108, 109, 110, 111, 112] (by decide +kernel) (by decide +kernel)
set_option maxRecDepth 20000 in
theorem gX9_takesAndGoes_X9_takes : GoodIn wsX9_takesAndGoes (wsV RX9 103 RX9 yX9_takes wsX9_takes) := goodIn_app (goodIn_of _ (by decide +kernel)) ggX9_takesAndGoes_X9_takes
set_option maxRecDepth 20000 in
theorem ggX9_takesAndGoes_X9_held : GoodIn wsX9_takesAndGoes wsX9_held := goodIn_r _ [76] (by decide +kernel) (by decide +kernel)
set_option maxRecDepth 20000 in
theorem gX9_takesAndGoes_X9_held : GoodIn wsX9_takesAndGoes (va_wsS RX9 173 yX9_held wsX9_held) := goodIn_app (goodIn_of _ (by decide +kernel)) ggX9_takesAndGoes_X9_held
set_option maxRecDepth 20000 in
theorem ggX9_takesAndGoes_X9_isCell : GoodIn wsX9_takesAndGoes wsX9_isCell := goodIn_r _ [80, 1, 51, 52, 6, 53, 85, 86, 87, 88, 89, 90, 91, 92, 93, 94, 95, 96, 97, 98, 99, 100, 101, 102, 103, 104, 105, 106, 107, 108, 109, 110, 111, 112] (by decide +kernel) (by decide +kernel)
set_option maxRecDepth 20000 in
theorem gX9_takesAndGoes_X9_isCell : GoodIn wsX9_takesAndGoes (wsV RX9 68 RX9 yX9_isCell wsX9_isCell) := goodIn_app (goodIn_of _ (by decide +kernel)) ggX9_takesAndGoes_X9_isCell
set_option maxRecDepth 20000 in
theorem ggX9_takesAndGoes_X9_gets : GoodIn wsX9_takesAndGoes wsX9_gets := goodIn_r _ [84, 1, 85, 86, 87, 88, 89, 90, 91, 92, 93, 94, 95, 96, 97, 98, 99, 100, 101, 102, 103, 104, 105, 106, 107, 108, 109, 110, 111, 112] (by decide +kernel) (by decide +kernel)
set_option maxRecDepth 20000 in
theorem gX9_takesAndGoes_X9_gets : GoodIn wsX9_takesAndGoes (wsV RX9 90 RX9 yX9_gets wsX9_gets) := goodIn_app (goodIn_of _ (by decide +kernel)) ggX9_takesAndGoes_X9_gets
theorem dX9_takesAndGoes_0 : decode cX9_takesAndGoes 0 = .ok (.bipush 12, 2) := by decide +kernel
theorem dX9_takesAndGoes_2 : decode cX9_takesAndGoes 2 = .ok (.aload_n 0, 1) := by decide +kernel
theorem dX9_takesAndGoes_3 : decode cX9_takesAndGoes 3 = .ok (.iload_n 1, 1) := by decide +kernel
theorem dX9_takesAndGoes_4 : decode cX9_takesAndGoes 4 = .ok (.iconst 2, 1) := by decide +kernel
theorem dX9_takesAndGoes_5 : decode cX9_takesAndGoes 5 = .ok (.invokevirtual 80, 3) := by decide +kernel
theorem dX9_takesAndGoes_8 : decode cX9_takesAndGoes 8 = .ok (.iadd, 1) := by decide +kernel
theorem dX9_takesAndGoes_9 : decode cX9_takesAndGoes 9 = .ok (.istore_n 2, 1) := by decide +kernel
theorem dX9_takesAndGoes_10 : decode cX9_takesAndGoes 10 = .ok (.aload_n 0, 1) := by decide +kernel
theorem dX9_takesAndGoes_11 : decode cX9_takesAndGoes 11 = .ok (.iload_n 1, 1) := by decide +kernel
theorem dX9_takesAndGoes_12 : decode cX9_takesAndGoes 12 = .ok (.invokevirtual 103, 3) := by decide +kernel
theorem dX9_takesAndGoes_15 : decode cX9_takesAndGoes 15 = .ok (.istore_n 3, 1) := by decide +kernel
theorem dX9_takesAndGoes_16 : decode cX9_takesAndGoes 16 = .ok (.iload_n 3, 1) := by decide +kernel
theorem dX9_takesAndGoes_17 : decode cX9_takesAndGoes 17 = .ok (.aload_n 0, 1) := by decide +kernel
theorem dX9_takesAndGoes_18 : decode cX9_takesAndGoes 18 = .ok (.getfield 7, 3) := by decide +kernel
theorem dX9_takesAndGoes_21 : decode cX9_takesAndGoes 21 = .ok (.iload_n 2, 1) := by decide +kernel
theorem dX9_takesAndGoes_22 : decode cX9_takesAndGoes 22 = .ok (.iaload, 1) := by decide +kernel
theorem dX9_takesAndGoes_23 : decode cX9_takesAndGoes 23 = .ok (.if_icmp .le 12, 3) := by decide +kernel
theorem dX9_takesAndGoes_26 : decode cX9_takesAndGoes 26 = .ok (.aload_n 0, 1) := by decide +kernel
theorem dX9_takesAndGoes_27 : decode cX9_takesAndGoes 27 = .ok (.getfield 7, 3) := by decide +kernel
theorem dX9_takesAndGoes_30 : decode cX9_takesAndGoes 30 = .ok (.iload_n 2, 1) := by decide +kernel
theorem dX9_takesAndGoes_31 : decode cX9_takesAndGoes 31 = .ok (.iaload, 1) := by decide +kernel
theorem dX9_takesAndGoes_32 : decode cX9_takesAndGoes 32 = .ok (.goto 4, 3) := by decide +kernel
theorem dX9_takesAndGoes_35 : decode cX9_takesAndGoes 35 = .ok (.iload_n 3, 1) := by decide +kernel
theorem dX9_takesAndGoes_36 : decode cX9_takesAndGoes 36 = .ok (.istore_n 3, 1) := by decide +kernel
theorem dX9_takesAndGoes_37 : decode cX9_takesAndGoes 37 = .ok (.aload_n 0, 1) := by decide +kernel
theorem dX9_takesAndGoes_38 : decode cX9_takesAndGoes 38 = .ok (.getfield 7, 3) := by decide +kernel
theorem dX9_takesAndGoes_41 : decode cX9_takesAndGoes 41 = .ok (.iload_n 2, 1) := by decide +kernel
theorem dX9_takesAndGoes_42 : decode cX9_takesAndGoes 42 = .ok (.dup2, 1) := by decide +kernel
theorem dX9_takesAndGoes_43 : decode cX9_takesAndGoes 43 = .ok (.iaload, 1) := by decide +kernel
theorem dX9_takesAndGoes_44 : decode cX9_takesAndGoes 44 = .ok (.iload_n 3, 1) := by decide +kernel
theorem dX9_takesAndGoes_45 : decode cX9_takesAndGoes 45 = .ok (.isub, 1) := by decide +kernel
theorem dX9_takesAndGoes_46 : decode cX9_takesAndGoes 46 = .ok (.iastore, 1) := by decide +kernel
theorem dX9_takesAndGoes_47 : decode cX9_takesAndGoes 47 = .ok (.aload_n 0, 1) := by decide +kernel
theorem dX9_takesAndGoes_48 : decode cX9_takesAndGoes 48 = .ok (.getfield 7, 3) := by decide +kernel
theorem dX9_takesAndGoes_51 : decode cX9_takesAndGoes 51 = .ok (.bipush 11, 2) := by decide +kernel
theorem dX9_takesAndGoes_53 : decode cX9_takesAndGoes 53 = .ok (.aload_n 0, 1) := by decide +kernel
theorem dX9_takesAndGoes_54 : decode cX9_takesAndGoes 54 = .ok (.getfield 7, 3) := by decide +kernel
theorem dX9_takesAndGoes_57 : decode cX9_takesAndGoes 57 = .ok (.bipush 11, 2) := by decide +kernel
theorem dX9_takesAndGoes_59 : decode cX9_takesAndGoes 59 = .ok (.iaload, 1) := by decide +kernel
theorem dX9_takesAndGoes_60 : decode cX9_takesAndGoes 60 = .ok (.iload_n 3, 1) := by decide +kernel
theorem dX9_takesAndGoes_61 : decode cX9_takesAndGoes 61 = .ok (.iadd, 1) := by decide +kernel
theorem dX9_takesAndGoes_62 : decode cX9_takesAndGoes 62 = .ok (.iconst 0, 1) := by decide +kernel
theorem dX9_takesAndGoes_63 : decode cX9_takesAndGoes 63 = .ok (.ldc 72, 2) := by decide +kernel
theorem dX9_takesAndGoes_65 : decode cX9_takesAndGoes 65 = .ok (.invokestatic 173, 3) := by decide +kernel
theorem dX9_takesAndGoes_68 : decode cX9_takesAndGoes 68 = .ok (.iastore, 1) := by decide +kernel
theorem dX9_takesAndGoes_69 : decode cX9_takesAndGoes 69 = .ok (.aload_n 0, 1) := by decide +kernel
theorem dX9_takesAndGoes_70 : decode cX9_takesAndGoes 70 = .ok (.iload_n 1, 1) := by decide +kernel
theorem dX9_takesAndGoes_71 : decode cX9_takesAndGoes 71 = .ok (.iconst 2, 1) := by decide +kernel
theorem dX9_takesAndGoes_72 : decode cX9_takesAndGoes 72 = .ok (.invokevirtual 80, 3) := by decide +kernel
theorem dX9_takesAndGoes_75 : decode cX9_takesAndGoes 75 = .ok (.aload_n 0, 1) := by decide +kernel
theorem dX9_takesAndGoes_76 : decode cX9_takesAndGoes 76 = .ok (.iload_n 1, 1) := by decide +kernel
theorem dX9_takesAndGoes_77 : decode cX9_takesAndGoes 77 = .ok (.iconst 3, 1) := by decide +kernel
theorem dX9_takesAndGoes_78 : decode cX9_takesAndGoes 78 = .ok (.invokevirtual 80, 3) := by decide +kernel
theorem dX9_takesAndGoes_81 : decode cX9_takesAndGoes 81 = .ok (.iadd, 1) := by decide +kernel
theorem dX9_takesAndGoes_82 : decode cX9_takesAndGoes 82 = .ok (.istore 4, 2) := by decide +kernel
theorem dX9_takesAndGoes_84 : decode cX9_takesAndGoes 84 = .ok (.aload_n 0, 1) := by decide +kernel
theorem dX9_takesAndGoes_85 : decode cX9_takesAndGoes 85 = .ok (.iload 4, 2) := by decide +kernel
theorem dX9_takesAndGoes_87 : decode cX9_takesAndGoes 87 = .ok (.invokevirtual 68, 3) := by decide +kernel
theorem dX9_takesAndGoes_90 : decode cX9_takesAndGoes 90 = .ok (.ifCond .eq 14, 3) := by decide +kernel
theorem dX9_takesAndGoes_93 : decode cX9_takesAndGoes 93 = .ok (.aload_n 0, 1) := by decide +kernel
theorem dX9_takesAndGoes_94 : decode cX9_takesAndGoes 94 = .ok (.iload_n 1, 1) := by decide +kernel
theorem dX9_takesAndGoes_95 : decode cX9_takesAndGoes 95 = .ok (.iconst 2, 1) := by decide +kernel
theorem dX9_takesAndGoes_96 : decode cX9_takesAndGoes 96 = .ok (.iload 4, 2) := by decide +kernel
theorem dX9_takesAndGoes_98 : decode cX9_takesAndGoes 98 = .ok (.invokevirtual 90, 3) := by decide +kernel
theorem dX9_takesAndGoes_101 : decode cX9_takesAndGoes 101 = .ok (.goto 16, 3) := by decide +kernel
theorem dX9_takesAndGoes_104 : decode cX9_takesAndGoes 104 = .ok (.aload_n 0, 1) := by decide +kernel
theorem dX9_takesAndGoes_105 : decode cX9_takesAndGoes 105 = .ok (.iload_n 1, 1) := by decide +kernel
theorem dX9_takesAndGoes_106 : decode cX9_takesAndGoes 106 = .ok (.iconst 3, 1) := by decide +kernel
theorem dX9_takesAndGoes_107 : decode cX9_takesAndGoes 107 = .ok (.aload_n 0, 1) := by decide +kernel
theorem dX9_takesAndGoes_108 : decode cX9_takesAndGoes 108 = .ok (.iload_n 1, 1) := by decide +kernel
theorem dX9_takesAndGoes_109 : decode cX9_takesAndGoes 109 = .ok (.iconst 3, 1) := by decide +kernel
theorem dX9_takesAndGoes_110 : decode cX9_takesAndGoes 110 = .ok (.invokevirtual 80, 3) := by decide +kernel
theorem dX9_takesAndGoes_113 : decode cX9_takesAndGoes 113 = .ok (.ineg, 1) := by decide +kernel
theorem dX9_takesAndGoes_114 : decode cX9_takesAndGoes 114 = .ok (.invokevirtual 90, 3) := by decide +kernel
theorem dX9_takesAndGoes_117 : decode cX9_takesAndGoes 117 = .ok (.return_, 1) := by decide +kernel
set_option maxRecDepth 20000 in
theorem ggX9_passes_X9_oneHour : GoodIn wsX9_passes wsX9_oneHour := goodIn_r _ [5, 6, 7, 8, 9, 10, 11, 12, 4, 13, 14, 15, 16, 17, 18, 19, 20, 21, 22, 23, 24, 25, 26, 27, 28, 29, 30, 31, 32, 33, 34, 35, 36, 37, 38, 39, 40, 41, 42, 43, 44, 45, 46, 47, 48, 49, 50, 51, 52, 53, 54, 55, 56, 57, 58, 59, 60, 61, 62, 63, 64, 65, 66, 67, 68, 69, 70, 71, 72, 73, 74, 75, 76, 77, 78, 79, 80, 81, 82, 83, 84, 85, 86, 87, 88, 89, 90, 91, 92, 93, 94, 95, 96, 97, 98, 99, 100, 101, 102, 103, 104, 105, 106, 107, 108, 109, 110, 111, 112, 113, 114, 115, 116, 117, 118, 119, 120, 121, 122, 123, 124, 125, 126, 127, 128, 129, 130, 131, 132, 133, 134, 135, 136, 137] (by decide +kernel) (by decide +kernel)
set_option maxRecDepth 20000 in
theorem gX9_passes_X9_oneHour : GoodIn wsX9_passes (wsV RX9 190 RX9 yX9_oneHour wsX9_oneHour) := goodIn_app (goodIn_of _ (by decide +kernel)) ggX9_passes_X9_oneHour
theorem dX9_passes_0 : decode cX9_passes 0 = .ok (.iconst 0, 1) := by decide +kernel
theorem dX9_passes_1 : decode cX9_passes 1 = .ok (.istore_n 2, 1) := by decide +kernel
theorem dX9_passes_2 : decode cX9_passes 2 = .ok (.iload_n 2, 1) := by decide +kernel
theorem dX9_passes_3 : decode cX9_passes 3 = .ok (.iload_n 1, 1) := by decide +kernel
theorem dX9_passes_4 : decode cX9_passes 4 = .ok (.if_icmp .ge 13, 3) := by decide +kernel
theorem dX9_passes_7 : decode cX9_passes 7 = .ok (.aload_n 0, 1) := by decide +kernel
theorem dX9_passes_8 : decode cX9_passes 8 = .ok (.invokevirtual 190, 3) := by decide +kernel
theorem dX9_passes_11 : decode cX9_passes 11 = .ok (.iinc 2 1, 3) := by decide +kernel
theorem dX9_passes_14 : decode cX9_passes 14 = .ok (.goto (-12), 3) := by decide +kernel
theorem dX9_passes_17 : decode cX9_passes 17 = .ok (.return_, 1) := by decide +kernel
theorem dX9_grains_0 : decode cX9_grains 0 = .ok (.iconst 0, 1) := by decide +kernel
theorem dX9_grains_1 : decode cX9_grains 1 = .ok (.istore_n 1, 1) := by decide +kernel
theorem dX9_grains_2 : decode cX9_grains 2 = .ok (.iconst 0, 1) := by decide +kernel
theorem dX9_grains_3 : decode cX9_grains 3 = .ok (.istore_n 2, 1) := by decide +kernel
theorem dX9_grains_4 : decode cX9_grains 4 = .ok (.iload_n 2, 1) := by decide +kernel
theorem dX9_grains_5 : decode cX9_grains 5 = .ok (.aload_n 0, 1) := by decide +kernel
theorem dX9_grains_6 : decode cX9_grains 6 = .ok (.getfield 7, 3) := by decide +kernel
theorem dX9_grains_9 : decode cX9_grains 9 = .ok (.iconst 3, 1) := by decide +kernel
theorem dX9_grains_10 : decode cX9_grains 10 = .ok (.iaload, 1) := by decide +kernel
theorem dX9_grains_11 : decode cX9_grains 11 = .ok (.if_icmp .ge 21, 3) := by decide +kernel
theorem dX9_grains_14 : decode cX9_grains 14 = .ok (.iload_n 1, 1) := by decide +kernel
theorem dX9_grains_15 : decode cX9_grains 15 = .ok (.aload_n 0, 1) := by decide +kernel
theorem dX9_grains_16 : decode cX9_grains 16 = .ok (.getfield 7, 3) := by decide +kernel
theorem dX9_grains_19 : decode cX9_grains 19 = .ok (.bipush 12, 2) := by decide +kernel
theorem dX9_grains_21 : decode cX9_grains 21 = .ok (.iload_n 2, 1) := by decide +kernel
theorem dX9_grains_22 : decode cX9_grains 22 = .ok (.iadd, 1) := by decide +kernel
theorem dX9_grains_23 : decode cX9_grains 23 = .ok (.iaload, 1) := by decide +kernel
theorem dX9_grains_24 : decode cX9_grains 24 = .ok (.iadd, 1) := by decide +kernel
theorem dX9_grains_25 : decode cX9_grains 25 = .ok (.istore_n 1, 1) := by decide +kernel
theorem dX9_grains_26 : decode cX9_grains 26 = .ok (.iinc 2 1, 3) := by decide +kernel
theorem dX9_grains_29 : decode cX9_grains 29 = .ok (.goto (-25), 3) := by decide +kernel
theorem dX9_grains_32 : decode cX9_grains 32 = .ok (.iload_n 1, 1) := by decide +kernel
theorem dX9_grains_33 : decode cX9_grains 33 = .ok (.ireturn, 1) := by decide +kernel
set_option maxRecDepth 20000 in
theorem ggX9_hours_X9_in : GoodIn wsX9_hours wsX9_in := goodIn_r _ [7] (by decide +kernel) (by decide +kernel)
set_option maxRecDepth 20000 in
theorem gX9_hours_X9_in : GoodIn wsX9_hours (va_wsS RX9 54 yX9_in wsX9_in) := goodIn_app (goodIn_of _ (by decide +kernel)) ggX9_hours_X9_in
set_option maxRecDepth 20000 in
theorem ggX9_hours_X9_errs : GoodIn wsX9_hours wsX9_errs := goodIn_r _ [11, 12, 13, 126, 127, 128, 129, 130, 131, 132, 133, 134, 135, 136, 137, 138, 139, 140, 141, 142, 143, 144, 145, 146, 147, 148, 149, 150, 151, 152, 153] (by decide +kernel) (by decide +kernel)
set_option maxRecDepth 20000 in
theorem gX9_hours_X9_errs : GoodIn wsX9_hours (wsV RX9 59 RX9 yX9_errs wsX9_errs) := goodIn_app (goodIn_of _ (by decide +kernel)) ggX9_hours_X9_errs
set_option maxRecDepth 20000 in
theorem ggX9_hours_X9_passes : GoodIn wsX9_hours wsX9_passes := goodIn_r _ [17, 18, 19, 20, 6, 21, 2, 22, 23, 24, 25, 26, 27, 28, 29, 30, 31, 32, 33, 34, 35, 36, 37, 38, 39, 40, 41, 42, 43, 44, 45, 46, 47, 48, 49, 50, 51, 52, 53, 54, 55, 56, 57, 58, 59, 60, 61, 62, 63, 64, 65, 66, 67, 68, 69, 70, 71, 72, 73, 74, 75, 4, 5, 7, 76, 77, 78, 79, 80, 81, 82, 83, 84, 85, 86, 87, 88, 89, 90, 91, 92, 93, 94, 95, 96, 97, 98, 99, 100, 101, 102, 103, 104, 105, 106, 107, 108, 109, 110, 111, 112, 113, 114, 115, 116, 117, 118, 119, 120, 121, 126, 127, 128, 129, 130, 131, 132, 133, 134, 135, 136, 137, 138, 139, 140, 141, 142, 143, 144, 145, 146, 147, 148, 149, 150, 151, 152, 153] (by decide +kernel) (by decide +kernel)
set_option maxRecDepth 20000 in
theorem gX9_hours_X9_passes : GoodIn wsX9_hours (wsV RX9 193 RX9 yX9_passes wsX9_passes) := goodIn_app (goodIn_of _ (by decide +kernel)) ggX9_hours_X9_passes
set_option maxRecDepth 20000 in
theorem ggX9_hours_X9_grains : GoodIn wsX9_hours wsX9_grains := goodIn_r _ [125, 2, 126, 127, 128, 129, 130, 131, 132, 133, 134, 135, 136, 137, 138, 139, 140, 141, 142, 143, 144, 145, 146, 147, 148, 149, 150, 151, 152, 153] (by decide +kernel) (by decide +kernel)
set_option maxRecDepth 20000 in
theorem gX9_hours_X9_grains : GoodIn wsX9_hours (wsV RX9 196 RX9 yX9_grains wsX9_grains) := goodIn_app (goodIn_of _ (by decide +kernel)) ggX9_hours_X9_grains
theorem dX9_hours_0 : decode cX9_hours 0 = .ok (.iload_n 1, 1) := by decide +kernel
theorem dX9_hours_1 : decode cX9_hours 1 = .ok (.iconst 1, 1) := by decide +kernel
theorem dX9_hours_2 : decode cX9_hours 2 = .ok (.bipush 50, 2) := by decide +kernel
theorem dX9_hours_4 : decode cX9_hours 4 = .ok (.invokestatic 54, 3) := by decide +kernel
theorem dX9_hours_7 : decode cX9_hours 7 = .ok (.ifCond .ne 10, 3) := by decide +kernel
theorem dX9_hours_10 : decode cX9_hours 10 = .ok (.aload_n 0, 1) := by decide +kernel
theorem dX9_hours_11 : decode cX9_hours 11 = .ok (.ldc 58, 2) := by decide +kernel
theorem dX9_hours_13 : decode cX9_hours 13 = .ok (.invokevirtual 59, 3) := by decide +kernel
theorem dX9_hours_16 : decode cX9_hours 16 = .ok (.ireturn, 1) := by decide +kernel
theorem dX9_hours_17 : decode cX9_hours 17 = .ok (.aload_n 0, 1) := by decide +kernel
theorem dX9_hours_18 : decode cX9_hours 18 = .ok (.getfield 7, 3) := by decide +kernel
theorem dX9_hours_21 : decode cX9_hours 21 = .ok (.iconst 0, 1) := by decide +kernel
theorem dX9_hours_22 : decode cX9_hours 22 = .ok (.iaload, 1) := by decide +kernel
theorem dX9_hours_23 : decode cX9_hours 23 = .ok (.iload_n 1, 1) := by decide +kernel
theorem dX9_hours_24 : decode cX9_hours 24 = .ok (.iadd, 1) := by decide +kernel
theorem dX9_hours_25 : decode cX9_hours 25 = .ok (.sipush 9999, 3) := by decide +kernel
theorem dX9_hours_28 : decode cX9_hours 28 = .ok (.if_icmp .le 10, 3) := by decide +kernel
theorem dX9_hours_31 : decode cX9_hours 31 = .ok (.aload_n 0, 1) := by decide +kernel
theorem dX9_hours_32 : decode cX9_hours 32 = .ok (.ldc 63, 2) := by decide +kernel
theorem dX9_hours_34 : decode cX9_hours 34 = .ok (.invokevirtual 59, 3) := by decide +kernel
theorem dX9_hours_37 : decode cX9_hours 37 = .ok (.ireturn, 1) := by decide +kernel
theorem dX9_hours_38 : decode cX9_hours 38 = .ok (.aload_n 0, 1) := by decide +kernel
theorem dX9_hours_39 : decode cX9_hours 39 = .ok (.iload_n 1, 1) := by decide +kernel
theorem dX9_hours_40 : decode cX9_hours 40 = .ok (.invokevirtual 193, 3) := by decide +kernel
theorem dX9_hours_43 : decode cX9_hours 43 = .ok (.aload_n 0, 1) := by decide +kernel
theorem dX9_hours_44 : decode cX9_hours 44 = .ok (.invokevirtual 196, 3) := by decide +kernel
theorem dX9_hours_47 : decode cX9_hours 47 = .ok (.ireturn, 1) := by decide +kernel
theorem dX9_drawn_0 : decode cX9_drawn 0 = .ok (.aload_n 0, 1) := by decide +kernel
theorem dX9_drawn_1 : decode cX9_drawn 1 = .ok (.getfield 7, 3) := by decide +kernel
theorem dX9_drawn_4 : decode cX9_drawn 4 = .ok (.iconst 2, 1) := by decide +kernel
theorem dX9_drawn_5 : decode cX9_drawn 5 = .ok (.aload_n 0, 1) := by decide +kernel
theorem dX9_drawn_6 : decode cX9_drawn 6 = .ok (.getfield 7, 3) := by decide +kernel
theorem dX9_drawn_9 : decode cX9_drawn 9 = .ok (.iconst 2, 1) := by decide +kernel
theorem dX9_drawn_10 : decode cX9_drawn 10 = .ok (.iaload, 1) := by decide +kernel
theorem dX9_drawn_11 : decode cX9_drawn 11 = .ok (.ldc 199, 2) := by decide +kernel
theorem dX9_drawn_13 : decode cX9_drawn 13 = .ok (.imul, 1) := by decide +kernel
theorem dX9_drawn_14 : decode cX9_drawn 14 = .ok (.sipush 12345, 3) := by decide +kernel
theorem dX9_drawn_17 : decode cX9_drawn 17 = .ok (.iadd, 1) := by decide +kernel
theorem dX9_drawn_18 : decode cX9_drawn 18 = .ok (.iastore, 1) := by decide +kernel
theorem dX9_drawn_19 : decode cX9_drawn 19 = .ok (.aload_n 0, 1) := by decide +kernel
theorem dX9_drawn_20 : decode cX9_drawn 20 = .ok (.getfield 7, 3) := by decide +kernel
theorem dX9_drawn_23 : decode cX9_drawn 23 = .ok (.iconst 2, 1) := by decide +kernel
theorem dX9_drawn_24 : decode cX9_drawn 24 = .ok (.iaload, 1) := by decide +kernel
theorem dX9_drawn_25 : decode cX9_drawn 25 = .ok (.bipush 8, 2) := by decide +kernel
theorem dX9_drawn_27 : decode cX9_drawn 27 = .ok (.iushr, 1) := by decide +kernel
theorem dX9_drawn_28 : decode cX9_drawn 28 = .ok (.iload_n 1, 1) := by decide +kernel
theorem dX9_drawn_29 : decode cX9_drawn 29 = .ok (.irem, 1) := by decide +kernel
theorem dX9_drawn_30 : decode cX9_drawn 30 = .ok (.ireturn, 1) := by decide +kernel
set_option maxRecDepth 20000 in
theorem ggX9_loose_X9_in : GoodIn wsX9_loose wsX9_in := goodIn_r _ [7] (by decide +kernel) (by decide +kernel)
set_option maxRecDepth 20000 in
theorem gX9_loose_X9_in : GoodIn wsX9_loose (va_wsS RX9 54 yX9_in wsX9_in) := goodIn_app (goodIn_of _ (by decide +kernel)) ggX9_loose_X9_in
set_option maxRecDepth 20000 in
theorem ggX9_loose_X9_errs : GoodIn wsX9_loose wsX9_errs := goodIn_r _ [11, 12, 13, 127, 128, 129, 130, 131, 132, 133, 134, 135, 136, 137, 138, 139, 140, 141, 142, 143, 144, 145, 146, 147, 148, 149, 150, 151, 152, 153, 154] (by decide +kernel) (by decide +kernel)
set_option maxRecDepth 20000 in
theorem gX9_loose_X9_errs : GoodIn wsX9_loose (wsV RX9 59 RX9 yX9_errs wsX9_errs) := goodIn_app (goodIn_of _ (by decide +kernel)) ggX9_loose_X9_errs
set_option maxRecDepth 20000 in
theorem ggX9_loose_X9_drawn : GoodIn wsX9_loose wsX9_drawn := goodIn_r _ [17, 2, 18, 127, 128, 129, 130, 131, 132, 133, 134, 135, 136, 137, 138, 139, 140, 141, 142, 143, 144, 145, 146, 147, 148, 149, 150, 151, 152, 153, 154] (by decide +kernel) (by decide +kernel)
set_option maxRecDepth 20000 in
theorem gX9_loose_X9_drawn : GoodIn wsX9_loose (wsV RX9 200 RX9 yX9_drawn wsX9_drawn) := goodIn_app (goodIn_of _ (by decide +kernel)) ggX9_loose_X9_drawn
set_option maxRecDepth 20000 in
theorem ggX9_loose_X9_gets : GoodIn wsX9_loose wsX9_gets := goodIn_r _ [22, 2, 127, 128, 129, 130, 131, 132, 133, 134, 135, 136, 137, 138, 139, 140, 141, 142, 143, 144, 145, 146, 147, 148, 149, 150, 151, 152, 153, 154] (by decide +kernel) (by decide +kernel)
set_option maxRecDepth 20000 in
theorem gX9_loose_X9_gets : GoodIn wsX9_loose (wsV RX9 90 RX9 yX9_gets wsX9_gets) := goodIn_app (goodIn_of _ (by decide +kernel)) ggX9_loose_X9_gets
set_option maxRecDepth 20000 in
theorem ggX9_loose_X9_oneHour : GoodIn wsX9_loose wsX9_oneHour := goodIn_r _ [26, 2, 27, 28, 29, 30, 31, 32, 6, 33, 34, 35, 36, 37, 38, 39, 40, 41, 42, 43, 44, 45, 46, 47, 48, 49, 50, 51, 52, 53, 54, 55, 56, 57, 58, 59, 60, 61, 62, 63, 64, 65, 66, 67, 68, 69, 70, 71, 72, 73, 74, 75, 76, 77, 78, 79, 80, 4, 5, 7, 81, 82, 83, 84, 85, 86, 87, 88, 89, 90, 91, 92, 93, 94, 95, 96, 97, 98, 99, 100, 101, 102, 103, 104, 105, 106, 107, 108, 109, 110, 111, 112, 113, 114, 115, 116, 117, 118, 119, 120, 121, 122, 19, 20, 21, 22, 127, 128, 129, 130, 131, 132, 133, 134, 135, 136, 137, 138, 139, 140, 141, 142, 143, 144, 145, 146, 147, 148, 149, 150, 151, 152, 153, 154] (by decide +kernel) (by decide +kernel)
set_option maxRecDepth 20000 in
theorem gX9_loose_X9_oneHour : GoodIn wsX9_loose (wsV RX9 190 RX9 yX9_oneHour wsX9_oneHour) := goodIn_app (goodIn_of _ (by decide +kernel)) ggX9_loose_X9_oneHour
set_option maxRecDepth 20000 in
theorem ggX9_loose_X9_grains : GoodIn wsX9_loose wsX9_grains := goodIn_r _ [126, 2, 127, 128, 129, 130, 131, 132, 133, 134, 135, 136, 137, 138, 139, 140, 141, 142, 143, 144, 145, 146, 147, 148, 149, 150, 151, 152, 153, 154] (by decide +kernel) (by decide +kernel)
set_option maxRecDepth 20000 in
theorem gX9_loose_X9_grains : GoodIn wsX9_loose (wsV RX9 196 RX9 yX9_grains wsX9_grains) := goodIn_app (goodIn_of _ (by decide +kernel)) ggX9_loose_X9_grains
theorem dX9_loose_0 : decode cX9_loose 0 = .ok (.iload_n 1, 1) := by decide +kernel
theorem dX9_loose_1 : decode cX9_loose 1 = .ok (.iconst 1, 1) := by decide +kernel
theorem dX9_loose_2 : decode cX9_loose 2 = .ok (.bipush 40, 2) := by decide +kernel
theorem dX9_loose_4 : decode cX9_loose 4 = .ok (.invokestatic 54, 3) := by decide +kernel
theorem dX9_loose_7 : decode cX9_loose 7 = .ok (.ifCond .ne 10, 3) := by decide +kernel
theorem dX9_loose_10 : decode cX9_loose 10 = .ok (.aload_n 0, 1) := by decide +kernel
theorem dX9_loose_11 : decode cX9_loose 11 = .ok (.ldc 58, 2) := by decide +kernel
theorem dX9_loose_13 : decode cX9_loose 13 = .ok (.invokevirtual 59, 3) := by decide +kernel
theorem dX9_loose_16 : decode cX9_loose 16 = .ok (.ireturn, 1) := by decide +kernel
theorem dX9_loose_17 : decode cX9_loose 17 = .ok (.aload_n 0, 1) := by decide +kernel
theorem dX9_loose_18 : decode cX9_loose 18 = .ok (.getfield 7, 3) := by decide +kernel
theorem dX9_loose_21 : decode cX9_loose 21 = .ok (.iconst 0, 1) := by decide +kernel
