theorem dX6_valueFor_130 : decode cX6_valueFor 130 = .ok (.iconst 1, 1) := by decide +kernel
theorem dX6_valueFor_131 : decode cX6_valueFor 131 = .ok (.if_icmp .le 37, 3) := by decide +kernel
theorem dX6_valueFor_134 : decode cX6_valueFor 134 = .ok (.iinc 4 (-1), 3) := by decide +kernel
theorem dX6_valueFor_137 : decode cX6_valueFor 137 = .ok (.aload_n 0, 1) := by decide +kernel
theorem dX6_valueFor_138 : decode cX6_valueFor 138 = .ok (.getfield 28, 3) := by decide +kernel
theorem dX6_valueFor_141 : decode cX6_valueFor 141 = .ok (.iload 4, 2) := by decide +kernel
theorem dX6_valueFor_143 : decode cX6_valueFor 143 = .ok (.iconst 1, 1) := by decide +kernel
theorem dX6_valueFor_144 : decode cX6_valueFor 144 = .ok (.isub, 1) := by decide +kernel
theorem dX6_valueFor_145 : decode cX6_valueFor 145 = .ok (.aload_n 0, 1) := by decide +kernel
theorem dX6_valueFor_146 : decode cX6_valueFor 146 = .ok (.getfield 28, 3) := by decide +kernel
theorem dX6_valueFor_149 : decode cX6_valueFor 149 = .ok (.iload 4, 2) := by decide +kernel
theorem dX6_valueFor_151 : decode cX6_valueFor 151 = .ok (.iconst 1, 1) := by decide +kernel
theorem dX6_valueFor_152 : decode cX6_valueFor 152 = .ok (.isub, 1) := by decide +kernel
theorem dX6_valueFor_153 : decode cX6_valueFor 153 = .ok (.iaload, 1) := by decide +kernel
theorem dX6_valueFor_154 : decode cX6_valueFor 154 = .ok (.iload 6, 2) := by decide +kernel
theorem dX6_valueFor_156 : decode cX6_valueFor 156 = .ok (.ineg, 1) := by decide +kernel
theorem dX6_valueFor_157 : decode cX6_valueFor 157 = .ok (.aload_n 0, 1) := by decide +kernel
theorem dX6_valueFor_158 : decode cX6_valueFor 158 = .ok (.getfield 28, 3) := by decide +kernel
theorem dX6_valueFor_161 : decode cX6_valueFor 161 = .ok (.iload 4, 2) := by decide +kernel
theorem dX6_valueFor_163 : decode cX6_valueFor 163 = .ok (.iaload, 1) := by decide +kernel
theorem dX6_valueFor_164 : decode cX6_valueFor 164 = .ok (.invokestatic 31, 3) := by decide +kernel
theorem dX6_valueFor_167 : decode cX6_valueFor 167 = .ok (.iastore, 1) := by decide +kernel
theorem dX6_valueFor_168 : decode cX6_valueFor 168 = .ok (.iinc 5 1, 3) := by decide +kernel
theorem dX6_valueFor_171 : decode cX6_valueFor 171 = .ok (.goto (-165), 3) := by decide +kernel
theorem dX6_valueFor_174 : decode cX6_valueFor 174 = .ok (.iload 4, 2) := by decide +kernel
theorem dX6_valueFor_176 : decode cX6_valueFor 176 = .ok (.ifCond .le 12, 3) := by decide +kernel
theorem dX6_valueFor_179 : decode cX6_valueFor 179 = .ok (.aload_n 0, 1) := by decide +kernel
theorem dX6_valueFor_180 : decode cX6_valueFor 180 = .ok (.getfield 28, 3) := by decide +kernel
theorem dX6_valueFor_183 : decode cX6_valueFor 183 = .ok (.iconst 0, 1) := by decide +kernel
theorem dX6_valueFor_184 : decode cX6_valueFor 184 = .ok (.iaload, 1) := by decide +kernel
theorem dX6_valueFor_185 : decode cX6_valueFor 185 = .ok (.goto 4, 3) := by decide +kernel
theorem dX6_valueFor_188 : decode cX6_valueFor 188 = .ok (.iconst 0, 1) := by decide +kernel
theorem dX6_valueFor_189 : decode cX6_valueFor 189 = .ok (.ireturn, 1) := by decide +kernel
theorem dX6_joined_0 : decode cX6_joined 0 = .ok (.iload_n 1, 1) := by decide +kernel
theorem dX6_joined_1 : decode cX6_joined 1 = .ok (.lookupswitch 188 #[(37, 176), (38, 105), (42, 160), (43, 152), (45, 156), (47, 164), (60, 119), (61, 130), (62, 141), (124, 91)], 91) := by decide +kernel
theorem dX6_joined_92 : decode cX6_joined 92 = .ok (.iload_n 0, 1) := by decide +kernel
theorem dX6_joined_93 : decode cX6_joined 93 = .ok (.ifCond .ne 7, 3) := by decide +kernel
theorem dX6_joined_96 : decode cX6_joined 96 = .ok (.iload_n 2, 1) := by decide +kernel
theorem dX6_joined_97 : decode cX6_joined 97 = .ok (.ifCond .eq 7, 3) := by decide +kernel
theorem dX6_joined_100 : decode cX6_joined 100 = .ok (.iconst 1, 1) := by decide +kernel
theorem dX6_joined_101 : decode cX6_joined 101 = .ok (.goto 4, 3) := by decide +kernel
theorem dX6_joined_104 : decode cX6_joined 104 = .ok (.iconst 0, 1) := by decide +kernel
theorem dX6_joined_105 : decode cX6_joined 105 = .ok (.ireturn, 1) := by decide +kernel
theorem dX6_joined_106 : decode cX6_joined 106 = .ok (.iload_n 0, 1) := by decide +kernel
theorem dX6_joined_107 : decode cX6_joined 107 = .ok (.ifCond .eq 11, 3) := by decide +kernel
theorem dX6_joined_110 : decode cX6_joined 110 = .ok (.iload_n 2, 1) := by decide +kernel
theorem dX6_joined_111 : decode cX6_joined 111 = .ok (.ifCond .eq 7, 3) := by decide +kernel
theorem dX6_joined_114 : decode cX6_joined 114 = .ok (.iconst 1, 1) := by decide +kernel
theorem dX6_joined_115 : decode cX6_joined 115 = .ok (.goto 4, 3) := by decide +kernel
theorem dX6_joined_118 : decode cX6_joined 118 = .ok (.iconst 0, 1) := by decide +kernel
theorem dX6_joined_119 : decode cX6_joined 119 = .ok (.ireturn, 1) := by decide +kernel
theorem dX6_joined_120 : decode cX6_joined 120 = .ok (.iload_n 0, 1) := by decide +kernel
theorem dX6_joined_121 : decode cX6_joined 121 = .ok (.iload_n 2, 1) := by decide +kernel
theorem dX6_joined_122 : decode cX6_joined 122 = .ok (.if_icmp .ge 7, 3) := by decide +kernel
theorem dX6_joined_125 : decode cX6_joined 125 = .ok (.iconst 1, 1) := by decide +kernel
theorem dX6_joined_126 : decode cX6_joined 126 = .ok (.goto 4, 3) := by decide +kernel
theorem dX6_joined_129 : decode cX6_joined 129 = .ok (.iconst 0, 1) := by decide +kernel
theorem dX6_joined_130 : decode cX6_joined 130 = .ok (.ireturn, 1) := by decide +kernel
theorem dX6_joined_131 : decode cX6_joined 131 = .ok (.iload_n 0, 1) := by decide +kernel
theorem dX6_joined_132 : decode cX6_joined 132 = .ok (.iload_n 2, 1) := by decide +kernel
theorem dX6_joined_133 : decode cX6_joined 133 = .ok (.if_icmp .ne 7, 3) := by decide +kernel
theorem dX6_joined_136 : decode cX6_joined 136 = .ok (.iconst 1, 1) := by decide +kernel
theorem dX6_joined_137 : decode cX6_joined 137 = .ok (.goto 4, 3) := by decide +kernel
theorem dX6_joined_140 : decode cX6_joined 140 = .ok (.iconst 0, 1) := by decide +kernel
theorem dX6_joined_141 : decode cX6_joined 141 = .ok (.ireturn, 1) := by decide +kernel
theorem dX6_joined_142 : decode cX6_joined 142 = .ok (.iload_n 0, 1) := by decide +kernel
theorem dX6_joined_143 : decode cX6_joined 143 = .ok (.iload_n 2, 1) := by decide +kernel
theorem dX6_joined_144 : decode cX6_joined 144 = .ok (.if_icmp .le 7, 3) := by decide +kernel
theorem dX6_joined_147 : decode cX6_joined 147 = .ok (.iconst 1, 1) := by decide +kernel
theorem dX6_joined_148 : decode cX6_joined 148 = .ok (.goto 4, 3) := by decide +kernel
theorem dX6_joined_151 : decode cX6_joined 151 = .ok (.iconst 0, 1) := by decide +kernel
theorem dX6_joined_152 : decode cX6_joined 152 = .ok (.ireturn, 1) := by decide +kernel
theorem dX6_joined_153 : decode cX6_joined 153 = .ok (.iload_n 0, 1) := by decide +kernel
theorem dX6_joined_154 : decode cX6_joined 154 = .ok (.iload_n 2, 1) := by decide +kernel
theorem dX6_joined_155 : decode cX6_joined 155 = .ok (.iadd, 1) := by decide +kernel
theorem dX6_joined_156 : decode cX6_joined 156 = .ok (.ireturn, 1) := by decide +kernel
theorem dX6_joined_157 : decode cX6_joined 157 = .ok (.iload_n 0, 1) := by decide +kernel
theorem dX6_joined_158 : decode cX6_joined 158 = .ok (.iload_n 2, 1) := by decide +kernel
theorem dX6_joined_159 : decode cX6_joined 159 = .ok (.isub, 1) := by decide +kernel
theorem dX6_joined_160 : decode cX6_joined 160 = .ok (.ireturn, 1) := by decide +kernel
theorem dX6_joined_161 : decode cX6_joined 161 = .ok (.iload_n 0, 1) := by decide +kernel
theorem dX6_joined_162 : decode cX6_joined 162 = .ok (.iload_n 2, 1) := by decide +kernel
theorem dX6_joined_163 : decode cX6_joined 163 = .ok (.imul, 1) := by decide +kernel
theorem dX6_joined_164 : decode cX6_joined 164 = .ok (.ireturn, 1) := by decide +kernel
theorem dX6_joined_165 : decode cX6_joined 165 = .ok (.iload_n 2, 1) := by decide +kernel
theorem dX6_joined_166 : decode cX6_joined 166 = .ok (.ifCond .ne 7, 3) := by decide +kernel
theorem dX6_joined_169 : decode cX6_joined 169 = .ok (.iconst 0, 1) := by decide +kernel
theorem dX6_joined_170 : decode cX6_joined 170 = .ok (.goto 6, 3) := by decide +kernel
theorem dX6_joined_173 : decode cX6_joined 173 = .ok (.iload_n 0, 1) := by decide +kernel
theorem dX6_joined_174 : decode cX6_joined 174 = .ok (.iload_n 2, 1) := by decide +kernel
theorem dX6_joined_175 : decode cX6_joined 175 = .ok (.idiv, 1) := by decide +kernel
theorem dX6_joined_176 : decode cX6_joined 176 = .ok (.ireturn, 1) := by decide +kernel
theorem dX6_joined_177 : decode cX6_joined 177 = .ok (.iload_n 2, 1) := by decide +kernel
theorem dX6_joined_178 : decode cX6_joined 178 = .ok (.ifCond .ne 7, 3) := by decide +kernel
theorem dX6_joined_181 : decode cX6_joined 181 = .ok (.iconst 0, 1) := by decide +kernel
theorem dX6_joined_182 : decode cX6_joined 182 = .ok (.goto 6, 3) := by decide +kernel
theorem dX6_joined_185 : decode cX6_joined 185 = .ok (.iload_n 0, 1) := by decide +kernel
theorem dX6_joined_186 : decode cX6_joined 186 = .ok (.iload_n 2, 1) := by decide +kernel
theorem dX6_joined_187 : decode cX6_joined 187 = .ok (.irem, 1) := by decide +kernel
theorem dX6_joined_188 : decode cX6_joined 188 = .ok (.ireturn, 1) := by decide +kernel
theorem dX6_joined_189 : decode cX6_joined 189 = .ok (.iconst 0, 1) := by decide +kernel
theorem dX6_joined_190 : decode cX6_joined 190 = .ok (.ireturn, 1) := by decide +kernel
set_option maxRecDepth 20000 in
theorem ggX7_init_X4_init : GoodIn wsX7_init wsX4_init := goodIn_r _ [10, 11, 2, 3, 12, 13, 14, 15, 16, 17, 18, 19] (by decide +kernel) (by decide +kernel)
set_option maxRecDepth 20000 in
theorem gX7_init_X4_init : GoodIn wsX7_init (wsX4_init) := ggX7_init_X4_init
theorem dX7_init_0 : decode cX7_init 0 = .ok (.aload_n 0, 1) := by decide +kernel
theorem dX7_init_1 : decode cX7_init 1 = .ok (.invokespecial 3, 3) := by decide +kernel
theorem dX7_init_4 : decode cX7_init 4 = .ok (.aload_n 0, 1) := by decide +kernel
theorem dX7_init_5 : decode cX7_init 5 = .ok (.new 9, 3) := by decide +kernel
theorem dX7_init_8 : decode cX7_init 8 = .ok (.dup, 1) := by decide +kernel
theorem dX7_init_9 : decode cX7_init 9 = .ok (.bipush 40, 2) := by decide +kernel
theorem dX7_init_11 : decode cX7_init 11 = .ok (.invokespecial 11, 3) := by decide +kernel
theorem dX7_init_14 : decode cX7_init 14 = .ok (.putfield 14, 3) := by decide +kernel
theorem dX7_init_17 : decode cX7_init 17 = .ok (.return_, 1) := by decide +kernel
set_option maxRecDepth 20000 in
theorem ggX7_begin_X4_clear : GoodIn wsX7_begin wsX4_clear := goodIn_r _ [9, 10, 15, 16] (by decide +kernel) (by decide +kernel)
set_option maxRecDepth 20000 in
theorem gX7_begin_X4_clear : GoodIn wsX7_begin (wsV RX7 30 RX4 yX4_clear wsX4_clear) := goodIn_app (goodIn_of _ (by decide +kernel)) ggX7_begin_X4_clear
theorem dX7_begin_0 : decode cX7_begin 0 = .ok (.aload_n 0, 1) := by decide +kernel
theorem dX7_begin_1 : decode cX7_begin 1 = .ok (.iload_n 1, 1) := by decide +kernel
theorem dX7_begin_2 : decode cX7_begin 2 = .ok (.putfield 20, 3) := by decide +kernel
theorem dX7_begin_5 : decode cX7_begin 5 = .ok (.aload_n 0, 1) := by decide +kernel
theorem dX7_begin_6 : decode cX7_begin 6 = .ok (.iload_n 2, 1) := by decide +kernel
theorem dX7_begin_7 : decode cX7_begin 7 = .ok (.putfield 24, 3) := by decide +kernel
theorem dX7_begin_10 : decode cX7_begin 10 = .ok (.aload_n 0, 1) := by decide +kernel
theorem dX7_begin_11 : decode cX7_begin 11 = .ok (.iload_n 3, 1) := by decide +kernel
theorem dX7_begin_12 : decode cX7_begin 12 = .ok (.putfield 27, 3) := by decide +kernel
theorem dX7_begin_15 : decode cX7_begin 15 = .ok (.aload_n 0, 1) := by decide +kernel
theorem dX7_begin_16 : decode cX7_begin 16 = .ok (.getfield 14, 3) := by decide +kernel
theorem dX7_begin_19 : decode cX7_begin 19 = .ok (.invokevirtual 30, 3) := by decide +kernel
theorem dX7_begin_22 : decode cX7_begin 22 = .ok (.return_, 1) := by decide +kernel
set_option maxRecDepth 20000 in
theorem ggX7_answer_X7_say : GoodIn wsX7_answer wsX7_say := goodIn_r _ [5, 1, 6, 7, 8, 9, 10, 4, 11, 12, 13, 14, 15, 16, 17, 18, 19, 20, 21, 22, 23, 24, 25, 26, 27, 28, 29, 30, 2, 3, 31, 32, 33, 34, 35, 36] (by decide +kernel) (by decide +kernel)
set_option maxRecDepth 20000 in
theorem gX7_answer_X7_say : GoodIn wsX7_answer (va_wsS RX7 33 yX7_say wsX7_say) := goodIn_app (goodIn_of _ (by decide +kernel)) ggX7_answer_X7_say
theorem dX7_answer_0 : decode cX7_answer 0 = .ok (.aload_n 0, 1) := by decide +kernel
theorem dX7_answer_1 : decode cX7_answer 1 = .ok (.iload_n 1, 1) := by decide +kernel
theorem dX7_answer_2 : decode cX7_answer 2 = .ok (.aload_n 0, 1) := by decide +kernel
theorem dX7_answer_3 : decode cX7_answer 3 = .ok (.getfield 20, 3) := by decide +kernel
theorem dX7_answer_6 : decode cX7_answer 6 = .ok (.iload_n 2, 1) := by decide +kernel
theorem dX7_answer_7 : decode cX7_answer 7 = .ok (.iconst 0, 1) := by decide +kernel
theorem dX7_answer_8 : decode cX7_answer 8 = .ok (.invokestatic 33, 3) := by decide +kernel
theorem dX7_answer_11 : decode cX7_answer 11 = .ok (.ireturn, 1) := by decide +kernel
set_option maxRecDepth 20000 in
theorem ggX7_ownerOf_X7_bodyOf : GoodIn wsX7_ownerOf wsX7_bodyOf := goodIn_r _ [4, 5] (by decide +kernel) (by decide +kernel)
set_option maxRecDepth 20000 in
theorem gX7_ownerOf_X7_bodyOf : GoodIn wsX7_ownerOf (va_wsS RX7 39 yX7_bodyOf wsX7_bodyOf) := goodIn_app (goodIn_of _ (by decide +kernel)) ggX7_ownerOf_X7_bodyOf
set_option maxRecDepth 20000 in
theorem ggX7_ownerOf_X1_above : GoodIn wsX7_ownerOf wsX1_above := goodIn_r _ [9, 10, 11, 12, 13] (by decide +kernel) (by decide +kernel)
set_option maxRecDepth 20000 in
theorem gX7_ownerOf_X1_above : GoodIn wsX7_ownerOf (va_wsS RX7 43 yX1_above wsX1_above) := goodIn_app (goodIn_of _ (by decide +kernel)) ggX7_ownerOf_X1_above
theorem dX7_ownerOf_0 : decode cX7_ownerOf 0 = .ok (.iload_n 1, 1) := by decide +kernel
theorem dX7_ownerOf_1 : decode cX7_ownerOf 1 = .ok (.istore_n 2, 1) := by decide +kernel
theorem dX7_ownerOf_2 : decode cX7_ownerOf 2 = .ok (.iconst 0, 1) := by decide +kernel
theorem dX7_ownerOf_3 : decode cX7_ownerOf 3 = .ok (.istore_n 3, 1) := by decide +kernel
theorem dX7_ownerOf_4 : decode cX7_ownerOf 4 = .ok (.iload_n 3, 1) := by decide +kernel
theorem dX7_ownerOf_5 : decode cX7_ownerOf 5 = .ok (.bipush 6, 2) := by decide +kernel
theorem dX7_ownerOf_7 : decode cX7_ownerOf 7 = .ok (.if_icmp .gt 28, 3) := by decide +kernel
theorem dX7_ownerOf_10 : decode cX7_ownerOf 10 = .ok (.iload_n 2, 1) := by decide +kernel
theorem dX7_ownerOf_11 : decode cX7_ownerOf 11 = .ok (.ifCond .lt 24, 3) := by decide +kernel
theorem dX7_ownerOf_14 : decode cX7_ownerOf 14 = .ok (.iload_n 0, 1) := by decide +kernel
theorem dX7_ownerOf_15 : decode cX7_ownerOf 15 = .ok (.iload_n 2, 1) := by decide +kernel
theorem dX7_ownerOf_16 : decode cX7_ownerOf 16 = .ok (.invokestatic 39, 3) := by decide +kernel
theorem dX7_ownerOf_19 : decode cX7_ownerOf 19 = .ok (.ifCond .eq 5, 3) := by decide +kernel
theorem dX7_ownerOf_22 : decode cX7_ownerOf 22 = .ok (.iload_n 2, 1) := by decide +kernel
theorem dX7_ownerOf_23 : decode cX7_ownerOf 23 = .ok (.ireturn, 1) := by decide +kernel
theorem dX7_ownerOf_24 : decode cX7_ownerOf 24 = .ok (.iload_n 2, 1) := by decide +kernel
theorem dX7_ownerOf_25 : decode cX7_ownerOf 25 = .ok (.invokestatic 43, 3) := by decide +kernel
theorem dX7_ownerOf_28 : decode cX7_ownerOf 28 = .ok (.istore_n 2, 1) := by decide +kernel
theorem dX7_ownerOf_29 : decode cX7_ownerOf 29 = .ok (.iinc 3 1, 3) := by decide +kernel
theorem dX7_ownerOf_32 : decode cX7_ownerOf 32 = .ok (.goto (-28), 3) := by decide +kernel
theorem dX7_ownerOf_35 : decode cX7_ownerOf 35 = .ok (.iconst (-1), 1) := by decide +kernel
theorem dX7_ownerOf_36 : decode cX7_ownerOf 36 = .ok (.ireturn, 1) := by decide +kernel
theorem dX7_bodyOf_0 : decode cX7_bodyOf 0 = .ok (.iload_n 1, 1) := by decide +kernel
theorem dX7_bodyOf_1 : decode cX7_bodyOf 1 = .ok (.iconst 4, 1) := by decide +kernel
theorem dX7_bodyOf_2 : decode cX7_bodyOf 2 = .ok (.imul, 1) := by decide +kernel
theorem dX7_bodyOf_3 : decode cX7_bodyOf 3 = .ok (.iload_n 0, 1) := by decide +kernel
theorem dX7_bodyOf_4 : decode cX7_bodyOf 4 = .ok (.iadd, 1) := by decide +kernel
theorem dX7_bodyOf_5 : decode cX7_bodyOf 5 = .ok (.istore_n 2, 1) := by decide +kernel
theorem dX7_bodyOf_6 : decode cX7_bodyOf 6 = .ok (.iload_n 2, 1) := by decide +kernel
theorem dX7_bodyOf_7 : decode cX7_bodyOf 7 = .ok (.ifCond .lt 19, 3) := by decide +kernel
theorem dX7_bodyOf_10 : decode cX7_bodyOf 10 = .ok (.iload_n 2, 1) := by decide +kernel
theorem dX7_bodyOf_11 : decode cX7_bodyOf 11 = .ok (.getstatic 47, 3) := by decide +kernel
theorem dX7_bodyOf_14 : decode cX7_bodyOf 14 = .ok (.arraylength, 1) := by decide +kernel
theorem dX7_bodyOf_15 : decode cX7_bodyOf 15 = .ok (.if_icmp .ge 11, 3) := by decide +kernel
theorem dX7_bodyOf_18 : decode cX7_bodyOf 18 = .ok (.getstatic 47, 3) := by decide +kernel
theorem dX7_bodyOf_21 : decode cX7_bodyOf 21 = .ok (.iload_n 2, 1) := by decide +kernel
theorem dX7_bodyOf_22 : decode cX7_bodyOf 22 = .ok (.iaload, 1) := by decide +kernel
theorem dX7_bodyOf_23 : decode cX7_bodyOf 23 = .ok (.goto 4, 3) := by decide +kernel
theorem dX7_bodyOf_26 : decode cX7_bodyOf 26 = .ok (.iconst 0, 1) := by decide +kernel
theorem dX7_bodyOf_27 : decode cX7_bodyOf 27 = .ok (.ireturn, 1) := by decide +kernel
set_option maxRecDepth 20000 in
theorem ggX7_say_X7_ownerOf : GoodIn wsX7_say wsX7_ownerOf := goodIn_r _ [8, 9, 10, 7, 11, 12, 13, 14, 15, 16, 17, 18, 19, 20] (by decide +kernel) (by decide +kernel)
set_option maxRecDepth 20000 in
theorem gX7_say_X7_ownerOf : GoodIn wsX7_say (va_wsS RX7 51 yX7_ownerOf wsX7_ownerOf) := goodIn_app (goodIn_of _ (by decide +kernel)) ggX7_say_X7_ownerOf
set_option maxRecDepth 20000 in
theorem ggX7_say_X1_above : GoodIn wsX7_say wsX1_above := goodIn_r _ [16, 17, 18, 19, 20] (by decide +kernel) (by decide +kernel)
set_option maxRecDepth 20000 in
theorem gX7_say_X1_above : GoodIn wsX7_say (va_wsS RX7 43 yX1_above wsX1_above) := goodIn_app (goodIn_of _ (by decide +kernel)) ggX7_say_X1_above
set_option maxRecDepth 20000 in
theorem ggX7_say_X7_bodyOf : GoodIn wsX7_say wsX7_bodyOf := goodIn_r _ [11, 12] (by decide +kernel) (by decide +kernel)
set_option maxRecDepth 20000 in
theorem gX7_say_X7_bodyOf : GoodIn wsX7_say (va_wsS RX7 39 yX7_bodyOf wsX7_bodyOf) := goodIn_app (goodIn_of _ (by decide +kernel)) ggX7_say_X7_bodyOf
set_option maxRecDepth 20000 in
theorem ggX7_say_X4_add : GoodIn wsX7_say wsX4_add := goodIn_r _ [25, 26, 27, 34, 35] (by decide +kernel) (by decide +kernel)
set_option maxRecDepth 20000 in
theorem gX7_say_X4_add : GoodIn wsX7_say (wsV RX7 54 RX4 yX4_add wsX4_add) := goodIn_app (goodIn_of _ (by decide +kernel)) ggX7_say_X4_add
set_option maxRecDepth 20000 in
theorem ggX7_say_X7_say : GoodIn wsX7_say wsX7_say := goodIn_r _ [0, 1, 2, 3, 4, 5, 6, 7, 8, 9, 10, 11, 12, 13, 14, 15, 16, 17, 18, 19, 20, 21, 22, 23, 24, 25, 26, 27, 28, 29, 30, 31, 32, 33, 34, 35] (by decide +kernel) (by decide +kernel)
set_option maxRecDepth 20000 in
theorem gX7_say_X7_say : GoodIn wsX7_say (va_wsS RX7 33 yX7_say wsX7_say) := goodIn_app (goodIn_of _ (by decide +kernel)) ggX7_say_X7_say
theorem dX7_say_0 : decode cX7_say 0 = .ok (.iload_n 1, 1) := by decide +kernel
theorem dX7_say_1 : decode cX7_say 1 = .ok (.iload_n 2, 1) := by decide +kernel
theorem dX7_say_2 : decode cX7_say 2 = .ok (.invokestatic 51, 3) := by decide +kernel
theorem dX7_say_5 : decode cX7_say 5 = .ok (.istore 5, 2) := by decide +kernel
theorem dX7_say_7 : decode cX7_say 7 = .ok (.iload 5, 2) := by decide +kernel
theorem dX7_say_9 : decode cX7_say 9 = .ok (.ifCond .lt 10, 3) := by decide +kernel
theorem dX7_say_12 : decode cX7_say 12 = .ok (.iload 4, 2) := by decide +kernel
theorem dX7_say_14 : decode cX7_say 14 = .ok (.bipush 12, 2) := by decide +kernel
theorem dX7_say_16 : decode cX7_say 16 = .ok (.if_icmp .le 5, 3) := by decide +kernel
theorem dX7_say_19 : decode cX7_say 19 = .ok (.iconst 0, 1) := by decide +kernel
theorem dX7_say_20 : decode cX7_say 20 = .ok (.ireturn, 1) := by decide +kernel
theorem dX7_say_21 : decode cX7_say 21 = .ok (.iload 5, 2) := by decide +kernel
theorem dX7_say_23 : decode cX7_say 23 = .ok (.invokestatic 43, 3) := by decide +kernel
theorem dX7_say_26 : decode cX7_say 26 = .ok (.istore 6, 2) := by decide +kernel
theorem dX7_say_28 : decode cX7_say 28 = .ok (.iload_n 1, 1) := by decide +kernel
theorem dX7_say_29 : decode cX7_say 29 = .ok (.iload 5, 2) := by decide +kernel
theorem dX7_say_31 : decode cX7_say 31 = .ok (.invokestatic 39, 3) := by decide +kernel
theorem dX7_say_34 : decode cX7_say 34 = .ok (.istore 7, 2) := by decide +kernel
theorem dX7_say_36 : decode cX7_say 36 = .ok (.aload_n 0, 1) := by decide +kernel
theorem dX7_say_37 : decode cX7_say 37 = .ok (.getfield 20, 3) := by decide +kernel
theorem dX7_say_40 : decode cX7_say 40 = .ok (.istore 8, 2) := by decide +kernel
theorem dX7_say_42 : decode cX7_say 42 = .ok (.iload 4, 2) := by decide +kernel
theorem dX7_say_44 : decode cX7_say 44 = .ok (.iconst 1, 1) := by decide +kernel
theorem dX7_say_45 : decode cX7_say 45 = .ok (.iadd, 1) := by decide +kernel
theorem dX7_say_46 : decode cX7_say 46 = .ok (.istore 9, 2) := by decide +kernel
theorem dX7_say_48 : decode cX7_say 48 = .ok (.aload_n 0, 1) := by decide +kernel
theorem dX7_say_49 : decode cX7_say 49 = .ok (.getfield 14, 3) := by decide +kernel
theorem dX7_say_52 : decode cX7_say 52 = .ok (.iload 7, 2) := by decide +kernel
theorem dX7_say_54 : decode cX7_say 54 = .ok (.invokevirtual 54, 3) := by decide +kernel
theorem dX7_say_57 : decode cX7_say 57 = .ok (.iload 7, 2) := by decide +kernel
theorem dX7_say_59 : decode cX7_say 59 = .ok (.lookupswitch 266 #[(10, 97), (11, 104), (12, 117), (13, 124), (20, 146), (30, 159), (40, 181), (50, 193), (60, 215), (70, 228), (71, 244)], 97) := by decide +kernel
theorem dX7_say_156 : decode cX7_say 156 = .ok (.iload_n 3, 1) := by decide +kernel
theorem dX7_say_157 : decode cX7_say 157 = .ok (.aload_n 0, 1) := by decide +kernel
theorem dX7_say_158 : decode cX7_say 158 = .ok (.getfield 24, 3) := by decide +kernel
theorem dX7_say_161 : decode cX7_say 161 = .ok (.iadd, 1) := by decide +kernel
theorem dX7_say_162 : decode cX7_say 162 = .ok (.ireturn, 1) := by decide +kernel
theorem dX7_say_163 : decode cX7_say 163 = .ok (.aload_n 0, 1) := by decide +kernel
theorem dX7_say_164 : decode cX7_say 164 = .ok (.iconst 0, 1) := by decide +kernel
theorem dX7_say_165 : decode cX7_say 165 = .ok (.iload 8, 2) := by decide +kernel
theorem dX7_say_167 : decode cX7_say 167 = .ok (.iload_n 3, 1) := by decide +kernel
theorem dX7_say_168 : decode cX7_say 168 = .ok (.iload 9, 2) := by decide +kernel
theorem dX7_say_170 : decode cX7_say 170 = .ok (.invokestatic 33, 3) := by decide +kernel
theorem dX7_say_173 : decode cX7_say 173 = .ok (.iconst 2, 1) := by decide +kernel
theorem dX7_say_174 : decode cX7_say 174 = .ok (.imul, 1) := by decide +kernel
theorem dX7_say_175 : decode cX7_say 175 = .ok (.ireturn, 1) := by decide +kernel
theorem dX7_say_176 : decode cX7_say 176 = .ok (.iload_n 3, 1) := by decide +kernel
theorem dX7_say_177 : decode cX7_say 177 = .ok (.aload_n 0, 1) := by decide +kernel
theorem dX7_say_178 : decode cX7_say 178 = .ok (.getfield 27, 3) := by decide +kernel
theorem dX7_say_181 : decode cX7_say 181 = .ok (.isub, 1) := by decide +kernel
theorem dX7_say_182 : decode cX7_say 182 = .ok (.ireturn, 1) := by decide +kernel
theorem dX7_say_183 : decode cX7_say 183 = .ok (.aload_n 0, 1) := by decide +kernel
theorem dX7_say_184 : decode cX7_say 184 = .ok (.iconst 1, 1) := by decide +kernel
theorem dX7_say_185 : decode cX7_say 185 = .ok (.iload 8, 2) := by decide +kernel
theorem dX7_say_187 : decode cX7_say 187 = .ok (.iload_n 3, 1) := by decide +kernel
theorem dX7_say_188 : decode cX7_say 188 = .ok (.iload 9, 2) := by decide +kernel
theorem dX7_say_190 : decode cX7_say 190 = .ok (.invokestatic 33, 3) := by decide +kernel
theorem dX7_say_193 : decode cX7_say 193 = .ok (.aload_n 0, 1) := by decide +kernel
theorem dX7_say_194 : decode cX7_say 194 = .ok (.iconst 2, 1) := by decide +kernel
theorem dX7_say_195 : decode cX7_say 195 = .ok (.iload 8, 2) := by decide +kernel
theorem dX7_say_197 : decode cX7_say 197 = .ok (.iload_n 3, 1) := by decide +kernel
theorem dX7_say_198 : decode cX7_say 198 = .ok (.iload 9, 2) := by decide +kernel
theorem dX7_say_200 : decode cX7_say 200 = .ok (.invokestatic 33, 3) := by decide +kernel
theorem dX7_say_203 : decode cX7_say 203 = .ok (.ixor, 1) := by decide +kernel
theorem dX7_say_204 : decode cX7_say 204 = .ok (.ireturn, 1) := by decide +kernel
theorem dX7_say_205 : decode cX7_say 205 = .ok (.aload_n 0, 1) := by decide +kernel
theorem dX7_say_206 : decode cX7_say 206 = .ok (.iconst 0, 1) := by decide +kernel
theorem dX7_say_207 : decode cX7_say 207 = .ok (.iload 6, 2) := by decide +kernel
theorem dX7_say_209 : decode cX7_say 209 = .ok (.iload_n 3, 1) := by decide +kernel
theorem dX7_say_210 : decode cX7_say 210 = .ok (.iload 9, 2) := by decide +kernel
theorem dX7_say_212 : decode cX7_say 212 = .ok (.invokestatic 33, 3) := by decide +kernel
theorem dX7_say_215 : decode cX7_say 215 = .ok (.iconst 3, 1) := by decide +kernel
theorem dX7_say_216 : decode cX7_say 216 = .ok (.imul, 1) := by decide +kernel
theorem dX7_say_217 : decode cX7_say 217 = .ok (.ireturn, 1) := by decide +kernel
theorem dX7_say_218 : decode cX7_say 218 = .ok (.aload_n 0, 1) := by decide +kernel
theorem dX7_say_219 : decode cX7_say 219 = .ok (.iconst 1, 1) := by decide +kernel
theorem dX7_say_220 : decode cX7_say 220 = .ok (.iload 6, 2) := by decide +kernel
theorem dX7_say_222 : decode cX7_say 222 = .ok (.iload_n 3, 1) := by decide +kernel
theorem dX7_say_223 : decode cX7_say 223 = .ok (.iload 9, 2) := by decide +kernel
theorem dX7_say_225 : decode cX7_say 225 = .ok (.invokestatic 33, 3) := by decide +kernel
theorem dX7_say_228 : decode cX7_say 228 = .ok (.aload_n 0, 1) := by decide +kernel
theorem dX7_say_229 : decode cX7_say 229 = .ok (.iconst 2, 1) := by decide +kernel
theorem dX7_say_230 : decode cX7_say 230 = .ok (.iload 8, 2) := by decide +kernel
theorem dX7_say_232 : decode cX7_say 232 = .ok (.iconst 1, 1) := by decide +kernel
theorem dX7_say_233 : decode cX7_say 233 = .ok (.iload 9, 2) := by decide +kernel
theorem dX7_say_235 : decode cX7_say 235 = .ok (.invokestatic 33, 3) := by decide +kernel
theorem dX7_say_238 : decode cX7_say 238 = .ok (.isub, 1) := by decide +kernel
theorem dX7_say_239 : decode cX7_say 239 = .ok (.ireturn, 1) := by decide +kernel
theorem dX7_say_240 : decode cX7_say 240 = .ok (.aload_n 0, 1) := by decide +kernel
theorem dX7_say_241 : decode cX7_say 241 = .ok (.iconst 2, 1) := by decide +kernel
theorem dX7_say_242 : decode cX7_say 242 = .ok (.iload 6, 2) := by decide +kernel
theorem dX7_say_244 : decode cX7_say 244 = .ok (.iload_n 3, 1) := by decide +kernel
theorem dX7_say_245 : decode cX7_say 245 = .ok (.iload 9, 2) := by decide +kernel
theorem dX7_say_247 : decode cX7_say 247 = .ok (.invokestatic 33, 3) := by decide +kernel
theorem dX7_say_250 : decode cX7_say 250 = .ok (.ineg, 1) := by decide +kernel
theorem dX7_say_251 : decode cX7_say 251 = .ok (.ireturn, 1) := by decide +kernel
theorem dX7_say_252 : decode cX7_say 252 = .ok (.aload_n 0, 1) := by decide +kernel
theorem dX7_say_253 : decode cX7_say 253 = .ok (.iconst 3, 1) := by decide +kernel
theorem dX7_say_254 : decode cX7_say 254 = .ok (.iload 6, 2) := by decide +kernel
theorem dX7_say_256 : decode cX7_say 256 = .ok (.iload_n 3, 1) := by decide +kernel
theorem dX7_say_257 : decode cX7_say 257 = .ok (.iload 9, 2) := by decide +kernel
theorem dX7_say_259 : decode cX7_say 259 = .ok (.invokestatic 33, 3) := by decide +kernel
theorem dX7_say_262 : decode cX7_say 262 = .ok (.aload_n 0, 1) := by decide +kernel
theorem dX7_say_263 : decode cX7_say 263 = .ok (.iconst 0, 1) := by decide +kernel
theorem dX7_say_264 : decode cX7_say 264 = .ok (.iload 8, 2) := by decide +kernel
theorem dX7_say_266 : decode cX7_say 266 = .ok (.iconst 2, 1) := by decide +kernel
theorem dX7_say_267 : decode cX7_say 267 = .ok (.iload 9, 2) := by decide +kernel
theorem dX7_say_269 : decode cX7_say 269 = .ok (.invokestatic 33, 3) := by decide +kernel
theorem dX7_say_272 : decode cX7_say 272 = .ok (.isub, 1) := by decide +kernel
theorem dX7_say_273 : decode cX7_say 273 = .ok (.ireturn, 1) := by decide +kernel
theorem dX7_say_274 : decode cX7_say 274 = .ok (.aload_n 0, 1) := by decide +kernel
theorem dX7_say_275 : decode cX7_say 275 = .ok (.iconst 1, 1) := by decide +kernel
theorem dX7_say_276 : decode cX7_say 276 = .ok (.iload 6, 2) := by decide +kernel
theorem dX7_say_278 : decode cX7_say 278 = .ok (.iload_n 3, 1) := by decide +kernel
theorem dX7_say_279 : decode cX7_say 279 = .ok (.iconst 1, 1) := by decide +kernel
theorem dX7_say_280 : decode cX7_say 280 = .ok (.iadd, 1) := by decide +kernel
theorem dX7_say_281 : decode cX7_say 281 = .ok (.iload 9, 2) := by decide +kernel
theorem dX7_say_283 : decode cX7_say 283 = .ok (.invokestatic 33, 3) := by decide +kernel
theorem dX7_say_286 : decode cX7_say 286 = .ok (.ireturn, 1) := by decide +kernel
theorem dX7_say_287 : decode cX7_say 287 = .ok (.aload_n 0, 1) := by decide +kernel
theorem dX7_say_288 : decode cX7_say 288 = .ok (.iconst 2, 1) := by decide +kernel
theorem dX7_say_289 : decode cX7_say 289 = .ok (.iload 6, 2) := by decide +kernel
theorem dX7_say_291 : decode cX7_say 291 = .ok (.iload_n 3, 1) := by decide +kernel
theorem dX7_say_292 : decode cX7_say 292 = .ok (.iload 9, 2) := by decide +kernel
theorem dX7_say_294 : decode cX7_say 294 = .ok (.invokestatic 33, 3) := by decide +kernel
theorem dX7_say_297 : decode cX7_say 297 = .ok (.aload_n 0, 1) := by decide +kernel
theorem dX7_say_298 : decode cX7_say 298 = .ok (.getfield 24, 3) := by decide +kernel
theorem dX7_say_301 : decode cX7_say 301 = .ok (.ixor, 1) := by decide +kernel
theorem dX7_say_302 : decode cX7_say 302 = .ok (.ireturn, 1) := by decide +kernel
theorem dX7_say_303 : decode cX7_say 303 = .ok (.aload_n 0, 1) := by decide +kernel
theorem dX7_say_304 : decode cX7_say 304 = .ok (.iconst 1, 1) := by decide +kernel
theorem dX7_say_305 : decode cX7_say 305 = .ok (.iload 8, 2) := by decide +kernel
theorem dX7_say_307 : decode cX7_say 307 = .ok (.iload_n 3, 1) := by decide +kernel
theorem dX7_say_308 : decode cX7_say 308 = .ok (.iload 9, 2) := by decide +kernel
theorem dX7_say_310 : decode cX7_say 310 = .ok (.invokestatic 33, 3) := by decide +kernel
theorem dX7_say_313 : decode cX7_say 313 = .ok (.aload_n 0, 1) := by decide +kernel
theorem dX7_say_314 : decode cX7_say 314 = .ok (.iconst 3, 1) := by decide +kernel
theorem dX7_say_315 : decode cX7_say 315 = .ok (.iload 6, 2) := by decide +kernel
theorem dX7_say_317 : decode cX7_say 317 = .ok (.iload_n 3, 1) := by decide +kernel
theorem dX7_say_318 : decode cX7_say 318 = .ok (.iload 9, 2) := by decide +kernel
theorem dX7_say_320 : decode cX7_say 320 = .ok (.invokestatic 33, 3) := by decide +kernel
theorem dX7_say_323 : decode cX7_say 323 = .ok (.isub, 1) := by decide +kernel
theorem dX7_say_324 : decode cX7_say 324 = .ok (.ireturn, 1) := by decide +kernel
theorem dX7_say_325 : decode cX7_say 325 = .ok (.iconst 0, 1) := by decide +kernel
theorem dX7_say_326 : decode cX7_say 326 = .ok (.ireturn, 1) := by decide +kernel
set_option maxRecDepth 20000 in
theorem ggX8_init_X0_init : GoodIn wsX8_init wsX0_init := goodIn_r _ [32, 33, 2, 3, 34, 26, 35, 36, 37, 38, 39, 40, 41, 42, 43, 44, 45, 46, 47, 48, 49, 50, 51, 52, 53, 54, 55, 56, 87, 88, 89, 90, 91, 92, 93, 94, 95, 96, 97, 98, 99, 100, 101, 102, 103, 104, 105, 139, 140] (by decide +kernel) (by decide +kernel)
set_option maxRecDepth 20000 in
theorem gX8_init_X0_init : GoodIn wsX8_init (wsX0_init) := ggX8_init_X0_init
set_option maxRecDepth 20000 in
theorem ggX8_init_X3_init : GoodIn wsX8_init wsX3_init := goodIn_r _ [59, 60, 2, 3, 61, 43, 44, 62, 63, 64, 65, 49, 50, 51, 52, 53, 54, 55, 26, 56, 139, 140, 117, 118, 119, 120, 121, 122, 123] (by decide +kernel) (by decide +kernel)
set_option maxRecDepth 20000 in
theorem gX8_init_X3_init : GoodIn wsX8_init (wsX3_init) := ggX8_init_X3_init
set_option maxRecDepth 20000 in
theorem ggX8_init_X2_init : GoodIn wsX8_init wsX2_init := goodIn_r _ [68, 69, 2, 3, 26, 70, 71, 72, 73, 74, 124, 125, 126, 127, 128, 129, 130, 131] (by decide +kernel) (by decide +kernel)
set_option maxRecDepth 20000 in
theorem gX8_init_X2_init : GoodIn wsX8_init (wsX2_init) := ggX8_init_X2_init
set_option maxRecDepth 20000 in
theorem ggX8_init_X7_init : GoodIn wsX8_init wsX7_init := goodIn_r _ [77, 78, 2, 3, 79, 43, 44, 80, 81, 49, 50, 51, 52, 53, 54, 55, 26, 56, 139, 140, 132, 133, 134, 135] (by decide +kernel) (by decide +kernel)
set_option maxRecDepth 20000 in
theorem gX8_init_X7_init : GoodIn wsX8_init (wsX7_init) := ggX8_init_X7_init
set_option maxRecDepth 20000 in
theorem ggX8_init_X5_init : GoodIn wsX8_init wsX5_init := goodIn_r _ [84, 85, 2, 3, 26, 86, 136, 137, 138] (by decide +kernel) (by decide +kernel)
set_option maxRecDepth 20000 in
theorem gX8_init_X5_init : GoodIn wsX8_init (wsX5_init) := ggX8_init_X5_init
theorem dX8_init_0 : decode cX8_init 0 = .ok (.aload_n 0, 1) := by decide +kernel
theorem dX8_init_1 : decode cX8_init 1 = .ok (.invokespecial 1, 3) := by decide +kernel
theorem dX8_init_4 : decode cX8_init 4 = .ok (.aload_n 0, 1) := by decide +kernel
theorem dX8_init_5 : decode cX8_init 5 = .ok (.new 7, 3) := by decide +kernel
theorem dX8_init_8 : decode cX8_init 8 = .ok (.dup, 1) := by decide +kernel
theorem dX8_init_9 : decode cX8_init 9 = .ok (.invokespecial 9, 3) := by decide +kernel
theorem dX8_init_12 : decode cX8_init 12 = .ok (.putfield 10, 3) := by decide +kernel
theorem dX8_init_15 : decode cX8_init 15 = .ok (.aload_n 0, 1) := by decide +kernel
theorem dX8_init_16 : decode cX8_init 16 = .ok (.new 7, 3) := by decide +kernel
theorem dX8_init_19 : decode cX8_init 19 = .ok (.dup, 1) := by decide +kernel
theorem dX8_init_20 : decode cX8_init 20 = .ok (.invokespecial 9, 3) := by decide +kernel
theorem dX8_init_23 : decode cX8_init 23 = .ok (.putfield 16, 3) := by decide +kernel
theorem dX8_init_26 : decode cX8_init 26 = .ok (.aload_n 0, 1) := by decide +kernel
theorem dX8_init_27 : decode cX8_init 27 = .ok (.new 7, 3) := by decide +kernel
theorem dX8_init_30 : decode cX8_init 30 = .ok (.dup, 1) := by decide +kernel
theorem dX8_init_31 : decode cX8_init 31 = .ok (.invokespecial 9, 3) := by decide +kernel
theorem dX8_init_34 : decode cX8_init 34 = .ok (.putfield 19, 3) := by decide +kernel
theorem dX8_init_37 : decode cX8_init 37 = .ok (.aload_n 0, 1) := by decide +kernel
theorem dX8_init_38 : decode cX8_init 38 = .ok (.new 22, 3) := by decide +kernel
theorem dX8_init_41 : decode cX8_init 41 = .ok (.dup, 1) := by decide +kernel
theorem dX8_init_42 : decode cX8_init 42 = .ok (.invokespecial 24, 3) := by decide +kernel
theorem dX8_init_45 : decode cX8_init 45 = .ok (.putfield 25, 3) := by decide +kernel
theorem dX8_init_48 : decode cX8_init 48 = .ok (.aload_n 0, 1) := by decide +kernel
theorem dX8_init_49 : decode cX8_init 49 = .ok (.new 29, 3) := by decide +kernel
theorem dX8_init_52 : decode cX8_init 52 = .ok (.dup, 1) := by decide +kernel
theorem dX8_init_53 : decode cX8_init 53 = .ok (.invokespecial 31, 3) := by decide +kernel
theorem dX8_init_56 : decode cX8_init 56 = .ok (.putfield 32, 3) := by decide +kernel
theorem dX8_init_59 : decode cX8_init 59 = .ok (.aload_n 0, 1) := by decide +kernel
theorem dX8_init_60 : decode cX8_init 60 = .ok (.new 36, 3) := by decide +kernel
theorem dX8_init_63 : decode cX8_init 63 = .ok (.dup, 1) := by decide +kernel
theorem dX8_init_64 : decode cX8_init 64 = .ok (.invokespecial 38, 3) := by decide +kernel
theorem dX8_init_67 : decode cX8_init 67 = .ok (.putfield 39, 3) := by decide +kernel
theorem dX8_init_70 : decode cX8_init 70 = .ok (.aload_n 0, 1) := by decide +kernel
theorem dX8_init_71 : decode cX8_init 71 = .ok (.iconst 4, 1) := by decide +kernel
theorem dX8_init_72 : decode cX8_init 72 = .ok (.anewarray 43, 3) := by decide +kernel
theorem dX8_init_75 : decode cX8_init 75 = .ok (.putfield 45, 3) := by decide +kernel
theorem dX8_init_78 : decode cX8_init 78 = .ok (.iconst 0, 1) := by decide +kernel
theorem dX8_init_79 : decode cX8_init 79 = .ok (.istore_n 1, 1) := by decide +kernel
theorem dX8_init_80 : decode cX8_init 80 = .ok (.iload_n 1, 1) := by decide +kernel
theorem dX8_init_81 : decode cX8_init 81 = .ok (.iconst 4, 1) := by decide +kernel
theorem dX8_init_82 : decode cX8_init 82 = .ok (.if_icmp .ge 22, 3) := by decide +kernel
theorem dX8_init_85 : decode cX8_init 85 = .ok (.aload_n 0, 1) := by decide +kernel
theorem dX8_init_86 : decode cX8_init 86 = .ok (.getfield 45, 3) := by decide +kernel
theorem dX8_init_89 : decode cX8_init 89 = .ok (.iload_n 1, 1) := by decide +kernel
theorem dX8_init_90 : decode cX8_init 90 = .ok (.new 43, 3) := by decide +kernel
theorem dX8_init_93 : decode cX8_init 93 = .ok (.dup, 1) := by decide +kernel
theorem dX8_init_94 : decode cX8_init 94 = .ok (.invokespecial 49, 3) := by decide +kernel
theorem dX8_init_97 : decode cX8_init 97 = .ok (.aastore, 1) := by decide +kernel
theorem dX8_init_98 : decode cX8_init 98 = .ok (.iinc 1 1, 3) := by decide +kernel
theorem dX8_init_101 : decode cX8_init 101 = .ok (.goto (-21), 3) := by decide +kernel
theorem dX8_init_104 : decode cX8_init 104 = .ok (.aload_n 0, 1) := by decide +kernel
theorem dX8_init_105 : decode cX8_init 105 = .ok (.bipush 8, 2) := by decide +kernel
theorem dX8_init_107 : decode cX8_init 107 = .ok (.newarray .int, 2) := by decide +kernel
theorem dX8_init_109 : decode cX8_init 109 = .ok (.putfield 50, 3) := by decide +kernel
theorem dX8_init_112 : decode cX8_init 112 = .ok (.aload_n 0, 1) := by decide +kernel
theorem dX8_init_113 : decode cX8_init 113 = .ok (.bipush 8, 2) := by decide +kernel
theorem dX8_init_115 : decode cX8_init 115 = .ok (.newarray .int, 2) := by decide +kernel
theorem dX8_init_117 : decode cX8_init 117 = .ok (.putfield 54, 3) := by decide +kernel
theorem dX8_init_120 : decode cX8_init 120 = .ok (.aload_n 0, 1) := by decide +kernel
theorem dX8_init_121 : decode cX8_init 121 = .ok (.bipush 6, 2) := by decide +kernel
theorem dX8_init_123 : decode cX8_init 123 = .ok (.newarray .int, 2) := by decide +kernel
theorem dX8_init_125 : decode cX8_init 125 = .ok (.putfield 57, 3) := by decide +kernel
theorem dX8_init_128 : decode cX8_init 128 = .ok (.return_, 1) := by decide +kernel
set_option maxRecDepth 20000 in
theorem ggX8_field_X8_within : GoodIn wsX8_field wsX8_within := goodIn_r _ [7] (by decide +kernel) (by decide +kernel)
set_option maxRecDepth 20000 in
theorem gX8_field_X8_within : GoodIn wsX8_field (va_wsS RX8 60 yX8_within wsX8_within) := goodIn_app (goodIn_of _ (by decide +kernel)) ggX8_field_X8_within
set_option maxRecDepth 20000 in
theorem ggX8_field_X8_error : GoodIn wsX8_field wsX8_error := goodIn_r _ [11, 12, 13, 4, 5, 6, 7, 28, 29, 30, 31, 32, 33, 34, 35, 36, 37, 38] (by decide +kernel) (by decide +kernel)
set_option maxRecDepth 20000 in
theorem gX8_field_X8_error : GoodIn wsX8_field (wsV RX8 64 RX8 yX8_error wsX8_error) := goodIn_app (goodIn_of _ (by decide +kernel)) ggX8_field_X8_error
set_option maxRecDepth 20000 in
theorem ggX8_field_X0_startAnew : GoodIn wsX8_field wsX0_startAnew := goodIn_r _ [18, 19, 20, 21, 22, 23, 24, 25, 26, 27, 39, 40, 41, 42, 43, 44, 45, 46, 47, 48, 49, 50, 51, 52, 53, 54, 55, 56, 57] (by decide +kernel) (by decide +kernel)
set_option maxRecDepth 20000 in
theorem gX8_field_X0_startAnew : GoodIn wsX8_field (wsV RX8 75 RX0 yX0_startAnew wsX0_startAnew) := goodIn_app (goodIn_of _ (by decide +kernel)) ggX8_field_X0_startAnew
theorem dX8_field_0 : decode cX8_field 0 = .ok (.iload_n 1, 1) := by decide +kernel
theorem dX8_field_1 : decode cX8_field 1 = .ok (.iconst 3, 1) := by decide +kernel
theorem dX8_field_2 : decode cX8_field 2 = .ok (.bipush 10, 2) := by decide +kernel
theorem dX8_field_4 : decode cX8_field 4 = .ok (.invokestatic 60, 3) := by decide +kernel
theorem dX8_field_7 : decode cX8_field 7 = .ok (.ifCond .ne 9, 3) := by decide +kernel
theorem dX8_field_10 : decode cX8_field 10 = .ok (.aload_n 0, 1) := by decide +kernel
theorem dX8_field_11 : decode cX8_field 11 = .ok (.iconst 1, 1) := by decide +kernel
theorem dX8_field_12 : decode cX8_field 12 = .ok (.invokevirtual 64, 3) := by decide +kernel
theorem dX8_field_15 : decode cX8_field 15 = .ok (.ireturn, 1) := by decide +kernel
theorem dX8_field_16 : decode cX8_field 16 = .ok (.aload_n 0, 1) := by decide +kernel
theorem dX8_field_17 : decode cX8_field 17 = .ok (.getfield 10, 3) := by decide +kernel
theorem dX8_field_20 : decode cX8_field 20 = .ok (.getfield 68, 3) := by decide +kernel
theorem dX8_field_23 : decode cX8_field 23 = .ok (.ifCond .le 9, 3) := by decide +kernel
theorem dX8_field_26 : decode cX8_field 26 = .ok (.aload_n 0, 1) := by decide +kernel
theorem dX8_field_27 : decode cX8_field 27 = .ok (.iconst 3, 1) := by decide +kernel
theorem dX8_field_28 : decode cX8_field 28 = .ok (.invokevirtual 64, 3) := by decide +kernel
theorem dX8_field_31 : decode cX8_field 31 = .ok (.ireturn, 1) := by decide +kernel
theorem dX8_field_32 : decode cX8_field 32 = .ok (.aload_n 0, 1) := by decide +kernel
theorem dX8_field_33 : decode cX8_field 33 = .ok (.getfield 10, 3) := by decide +kernel
theorem dX8_field_36 : decode cX8_field 36 = .ok (.getfield 72, 3) := by decide +kernel
theorem dX8_field_39 : decode cX8_field 39 = .ok (.istore_n 2, 1) := by decide +kernel
theorem dX8_field_40 : decode cX8_field 40 = .ok (.aload_n 0, 1) := by decide +kernel
theorem dX8_field_41 : decode cX8_field 41 = .ok (.getfield 10, 3) := by decide +kernel
theorem dX8_field_44 : decode cX8_field 44 = .ok (.iload_n 1, 1) := by decide +kernel
theorem dX8_field_45 : decode cX8_field 45 = .ok (.invokevirtual 75, 3) := by decide +kernel
theorem dX8_field_48 : decode cX8_field 48 = .ok (.iload_n 2, 1) := by decide +kernel
theorem dX8_field_49 : decode cX8_field 49 = .ok (.ireturn, 1) := by decide +kernel
set_option maxRecDepth 20000 in
theorem ggX8_sow_X8_isCell : GoodIn wsX8_sow wsX8_isCell := goodIn_r _ [9, 2, 10, 11, 12, 8, 13, 20, 21, 22, 23, 24, 25, 26, 27, 28, 29, 30, 31, 32, 33, 34, 35, 36, 37, 38, 39, 40, 41, 42, 43, 44, 45, 46, 47, 48, 49] (by decide +kernel) (by decide +kernel)
set_option maxRecDepth 20000 in
theorem gX8_sow_X8_isCell : GoodIn wsX8_sow (wsV RX8 79 RX8 yX8_isCell wsX8_isCell) := goodIn_app (goodIn_of _ (by decide +kernel)) ggX8_sow_X8_isCell
set_option maxRecDepth 20000 in
theorem ggX8_sow_X8_within : GoodIn wsX8_sow wsX8_within := goodIn_r _ [13] (by decide +kernel) (by decide +kernel)
set_option maxRecDepth 20000 in
theorem gX8_sow_X8_within : GoodIn wsX8_sow (va_wsS RX8 60 yX8_within wsX8_within) := goodIn_app (goodIn_of _ (by decide +kernel)) ggX8_sow_X8_within
set_option maxRecDepth 20000 in
theorem ggX8_sow_X8_error : GoodIn wsX8_sow wsX8_error := goodIn_r _ [17, 18, 19, 11, 12, 8, 13, 20, 21, 22, 23, 24, 25, 26, 27, 28, 29, 30] (by decide +kernel) (by decide +kernel)
set_option maxRecDepth 20000 in
theorem gX8_sow_X8_error : GoodIn wsX8_sow (wsV RX8 64 RX8 yX8_error wsX8_error) := goodIn_app (goodIn_of _ (by decide +kernel)) ggX8_sow_X8_error
theorem dX8_sow_0 : decode cX8_sow 0 = .ok (.aload_n 0, 1) := by decide +kernel
theorem dX8_sow_1 : decode cX8_sow 1 = .ok (.iload_n 1, 1) := by decide +kernel
theorem dX8_sow_2 : decode cX8_sow 2 = .ok (.invokevirtual 79, 3) := by decide +kernel
theorem dX8_sow_5 : decode cX8_sow 5 = .ok (.ifCond .eq 31, 3) := by decide +kernel
theorem dX8_sow_8 : decode cX8_sow 8 = .ok (.iload_n 2, 1) := by decide +kernel
theorem dX8_sow_9 : decode cX8_sow 9 = .ok (.iconst 0, 1) := by decide +kernel
theorem dX8_sow_10 : decode cX8_sow 10 = .ok (.iconst 1, 1) := by decide +kernel
theorem dX8_sow_11 : decode cX8_sow 11 = .ok (.invokestatic 60, 3) := by decide +kernel
theorem dX8_sow_14 : decode cX8_sow 14 = .ok (.ifCond .eq 22, 3) := by decide +kernel
theorem dX8_sow_17 : decode cX8_sow 17 = .ok (.iload_n 3, 1) := by decide +kernel
theorem dX8_sow_18 : decode cX8_sow 18 = .ok (.iconst 0, 1) := by decide +kernel
theorem dX8_sow_19 : decode cX8_sow 19 = .ok (.iload_n 2, 1) := by decide +kernel
theorem dX8_sow_20 : decode cX8_sow 20 = .ok (.ifCond .ne 8, 3) := by decide +kernel
theorem dX8_sow_23 : decode cX8_sow 23 = .ok (.ldc 83, 2) := by decide +kernel
theorem dX8_sow_25 : decode cX8_sow 25 = .ok (.goto 5, 3) := by decide +kernel
theorem dX8_sow_28 : decode cX8_sow 28 = .ok (.bipush 99, 2) := by decide +kernel
theorem dX8_sow_30 : decode cX8_sow 30 = .ok (.invokestatic 60, 3) := by decide +kernel
theorem dX8_sow_33 : decode cX8_sow 33 = .ok (.ifCond .ne 9, 3) := by decide +kernel
theorem dX8_sow_36 : decode cX8_sow 36 = .ok (.aload_n 0, 1) := by decide +kernel
theorem dX8_sow_37 : decode cX8_sow 37 = .ok (.iconst 1, 1) := by decide +kernel
theorem dX8_sow_38 : decode cX8_sow 38 = .ok (.invokevirtual 64, 3) := by decide +kernel
theorem dX8_sow_41 : decode cX8_sow 41 = .ok (.ireturn, 1) := by decide +kernel
theorem dX8_sow_42 : decode cX8_sow 42 = .ok (.iload_n 2, 1) := by decide +kernel
theorem dX8_sow_43 : decode cX8_sow 43 = .ok (.ifCond .ne 13, 3) := by decide +kernel
theorem dX8_sow_46 : decode cX8_sow 46 = .ok (.aload_n 0, 1) := by decide +kernel
theorem dX8_sow_47 : decode cX8_sow 47 = .ok (.getfield 10, 3) := by decide +kernel
theorem dX8_sow_50 : decode cX8_sow 50 = .ok (.getfield 84, 3) := by decide +kernel
theorem dX8_sow_53 : decode cX8_sow 53 = .ok (.goto 10, 3) := by decide +kernel
theorem dX8_sow_56 : decode cX8_sow 56 = .ok (.aload_n 0, 1) := by decide +kernel
theorem dX8_sow_57 : decode cX8_sow 57 = .ok (.getfield 10, 3) := by decide +kernel
theorem dX8_sow_60 : decode cX8_sow 60 = .ok (.getfield 87, 3) := by decide +kernel
theorem dX8_sow_63 : decode cX8_sow 63 = .ok (.astore 4, 2) := by decide +kernel
theorem dX8_sow_65 : decode cX8_sow 65 = .ok (.aload 4, 2) := by decide +kernel
theorem dX8_sow_67 : decode cX8_sow 67 = .ok (.iload_n 1, 1) := by decide +kernel
theorem dX8_sow_68 : decode cX8_sow 68 = .ok (.iaload, 1) := by decide +kernel
theorem dX8_sow_69 : decode cX8_sow 69 = .ok (.istore 5, 2) := by decide +kernel
theorem dX8_sow_71 : decode cX8_sow 71 = .ok (.aload 4, 2) := by decide +kernel
theorem dX8_sow_73 : decode cX8_sow 73 = .ok (.iload_n 1, 1) := by decide +kernel
theorem dX8_sow_74 : decode cX8_sow 74 = .ok (.iload_n 3, 1) := by decide +kernel
theorem dX8_sow_75 : decode cX8_sow 75 = .ok (.iastore, 1) := by decide +kernel
theorem dX8_sow_76 : decode cX8_sow 76 = .ok (.iload 5, 2) := by decide +kernel
theorem dX8_sow_78 : decode cX8_sow 78 = .ok (.ireturn, 1) := by decide +kernel
set_option maxRecDepth 20000 in
theorem ggX8_ofCell_X8_isCell : GoodIn wsX8_ofCell wsX8_isCell := goodIn_r _ [8, 1, 9, 10, 11, 7, 12, 75, 76, 77, 78, 79, 80, 81, 82, 83, 84, 85, 86, 87, 88, 89, 90, 91, 92, 93, 94, 95, 96, 97, 98, 99, 100, 101, 102, 103, 104] (by decide +kernel) (by decide +kernel)
set_option maxRecDepth 20000 in
theorem gX8_ofCell_X8_isCell : GoodIn wsX8_ofCell (wsV RX8 79 RX8 yX8_isCell wsX8_isCell) := goodIn_app (goodIn_of _ (by decide +kernel)) ggX8_ofCell_X8_isCell
set_option maxRecDepth 20000 in
theorem ggX8_ofCell_X8_error : GoodIn wsX8_ofCell wsX8_error := goodIn_r _ [16, 17, 18, 10, 11, 7, 12, 75, 76, 77, 78, 79, 80, 81, 82, 83, 84, 85] (by decide +kernel) (by decide +kernel)
set_option maxRecDepth 20000 in
theorem gX8_ofCell_X8_error : GoodIn wsX8_ofCell (wsV RX8 64 RX8 yX8_error wsX8_error) := goodIn_app (goodIn_of _ (by decide +kernel)) ggX8_ofCell_X8_error
set_option maxRecDepth 20000 in
theorem ggX8_ofCell_X0_whoSee : GoodIn wsX8_ofCell wsX0_whoSee := goodIn_r _ [23, 24, 25, 26, 27, 22, 28, 29, 30, 31, 32, 33, 34, 35, 36, 37, 38, 39, 40, 41, 42, 43, 44, 45, 46, 47, 48, 49, 50, 51, 52, 53, 54, 7, 55, 56, 57, 58, 59, 60, 61, 62, 63, 64, 65, 66, 67, 68, 69, 70, 86, 87, 88, 89, 90, 91, 92, 93, 94, 95, 96, 97, 98, 99, 100, 101, 102, 103, 104, 105, 106] (by decide +kernel) (by decide +kernel)
set_option maxRecDepth 20000 in
theorem gX8_ofCell_X0_whoSee : GoodIn wsX8_ofCell (wsV RX8 90 RX0 yX0_whoSee wsX0_whoSee) := goodIn_app (goodIn_of _ (by decide +kernel)) ggX8_ofCell_X0_whoSee
set_option maxRecDepth 20000 in
theorem ggX8_ofCell_X0_whoAreAt : GoodIn wsX8_ofCell wsX0_whoAreAt := goodIn_r _ [74, 24, 29, 86, 87, 88, 89, 90, 91, 92, 93, 94, 95, 96, 97, 98, 99, 100, 101, 102, 103, 104] (by decide +kernel) (by decide +kernel)
set_option maxRecDepth 20000 in
theorem gX8_ofCell_X0_whoAreAt : GoodIn wsX8_ofCell (wsV RX8 93 RX0 yX0_whoAreAt wsX0_whoAreAt) := goodIn_app (goodIn_of _ (by decide +kernel)) ggX8_ofCell_X0_whoAreAt
theorem dX8_ofCell_0 : decode cX8_ofCell 0 = .ok (.aload_n 0, 1) := by decide +kernel
theorem dX8_ofCell_1 : decode cX8_ofCell 1 = .ok (.iload_n 1, 1) := by decide +kernel
theorem dX8_ofCell_2 : decode cX8_ofCell 2 = .ok (.invokevirtual 79, 3) := by decide +kernel
theorem dX8_ofCell_5 : decode cX8_ofCell 5 = .ok (.ifCond .ne 9, 3) := by decide +kernel
theorem dX8_ofCell_8 : decode cX8_ofCell 8 = .ok (.aload_n 0, 1) := by decide +kernel
theorem dX8_ofCell_9 : decode cX8_ofCell 9 = .ok (.iconst 1, 1) := by decide +kernel
theorem dX8_ofCell_10 : decode cX8_ofCell 10 = .ok (.invokevirtual 64, 3) := by decide +kernel
theorem dX8_ofCell_13 : decode cX8_ofCell 13 = .ok (.ireturn, 1) := by decide +kernel
theorem dX8_ofCell_14 : decode cX8_ofCell 14 = .ok (.iload_n 2, 1) := by decide +kernel
theorem dX8_ofCell_15 : decode cX8_ofCell 15 = .ok (.tableswitch 67 0 3 #[29, 39, 49, 58], 29) := by decide +kernel
theorem dX8_ofCell_44 : decode cX8_ofCell 44 = .ok (.aload_n 0, 1) := by decide +kernel
theorem dX8_ofCell_45 : decode cX8_ofCell 45 = .ok (.getfield 10, 3) := by decide +kernel
theorem dX8_ofCell_48 : decode cX8_ofCell 48 = .ok (.getfield 84, 3) := by decide +kernel
theorem dX8_ofCell_51 : decode cX8_ofCell 51 = .ok (.iload_n 1, 1) := by decide +kernel
theorem dX8_ofCell_52 : decode cX8_ofCell 52 = .ok (.iaload, 1) := by decide +kernel
theorem dX8_ofCell_53 : decode cX8_ofCell 53 = .ok (.ireturn, 1) := by decide +kernel
theorem dX8_ofCell_54 : decode cX8_ofCell 54 = .ok (.aload_n 0, 1) := by decide +kernel
theorem dX8_ofCell_55 : decode cX8_ofCell 55 = .ok (.getfield 10, 3) := by decide +kernel
theorem dX8_ofCell_58 : decode cX8_ofCell 58 = .ok (.getfield 87, 3) := by decide +kernel
theorem dX8_ofCell_61 : decode cX8_ofCell 61 = .ok (.iload_n 1, 1) := by decide +kernel
theorem dX8_ofCell_62 : decode cX8_ofCell 62 = .ok (.iaload, 1) := by decide +kernel
theorem dX8_ofCell_63 : decode cX8_ofCell 63 = .ok (.ireturn, 1) := by decide +kernel
theorem dX8_ofCell_64 : decode cX8_ofCell 64 = .ok (.aload_n 0, 1) := by decide +kernel
theorem dX8_ofCell_65 : decode cX8_ofCell 65 = .ok (.getfield 10, 3) := by decide +kernel
theorem dX8_ofCell_68 : decode cX8_ofCell 68 = .ok (.iload_n 1, 1) := by decide +kernel
theorem dX8_ofCell_69 : decode cX8_ofCell 69 = .ok (.invokevirtual 90, 3) := by decide +kernel
theorem dX8_ofCell_72 : decode cX8_ofCell 72 = .ok (.ireturn, 1) := by decide +kernel
theorem dX8_ofCell_73 : decode cX8_ofCell 73 = .ok (.aload_n 0, 1) := by decide +kernel
theorem dX8_ofCell_74 : decode cX8_ofCell 74 = .ok (.getfield 10, 3) := by decide +kernel
theorem dX8_ofCell_77 : decode cX8_ofCell 77 = .ok (.iload_n 1, 1) := by decide +kernel
theorem dX8_ofCell_78 : decode cX8_ofCell 78 = .ok (.invokevirtual 93, 3) := by decide +kernel
theorem dX8_ofCell_81 : decode cX8_ofCell 81 = .ok (.ireturn, 1) := by decide +kernel
theorem dX8_ofCell_82 : decode cX8_ofCell 82 = .ok (.aload_n 0, 1) := by decide +kernel
theorem dX8_ofCell_83 : decode cX8_ofCell 83 = .ok (.iconst 1, 1) := by decide +kernel
theorem dX8_ofCell_84 : decode cX8_ofCell 84 = .ok (.invokevirtual 64, 3) := by decide +kernel
theorem dX8_ofCell_87 : decode cX8_ofCell 87 = .ok (.ireturn, 1) := by decide +kernel
set_option maxRecDepth 20000 in
theorem ggX8_lay_X8_within : GoodIn wsX8_lay wsX8_within := goodIn_r _ [8] (by decide +kernel) (by decide +kernel)
set_option maxRecDepth 20000 in
theorem gX8_lay_X8_within : GoodIn wsX8_lay (va_wsS RX8 60 yX8_within wsX8_within) := goodIn_app (goodIn_of _ (by decide +kernel)) ggX8_lay_X8_within
set_option maxRecDepth 20000 in
theorem ggX8_lay_X8_mostLaid : GoodIn wsX8_lay wsX8_mostLaid := goodIn_r _ [12, 1, 13, 20, 21, 22, 23, 24, 25, 26, 27, 28, 29, 30, 31, 32, 33, 34, 35, 36, 37, 38, 39, 40, 41, 42, 43, 44, 45, 46, 47, 48, 49] (by decide +kernel) (by decide +kernel)
set_option maxRecDepth 20000 in
theorem gX8_lay_X8_mostLaid : GoodIn wsX8_lay (wsV RX8 96 RX8 yX8_mostLaid wsX8_mostLaid) := goodIn_app (goodIn_of _ (by decide +kernel)) ggX8_lay_X8_mostLaid
set_option maxRecDepth 20000 in
theorem ggX8_lay_X8_error : GoodIn wsX8_lay wsX8_error := goodIn_r _ [17, 18, 19, 5, 6, 7, 8, 20, 21, 22, 23, 24, 25, 26, 27, 28, 29, 30] (by decide +kernel) (by decide +kernel)
set_option maxRecDepth 20000 in
theorem gX8_lay_X8_error : GoodIn wsX8_lay (wsV RX8 64 RX8 yX8_error wsX8_error) := goodIn_app (goodIn_of _ (by decide +kernel)) ggX8_lay_X8_error
theorem dX8_lay_0 : decode cX8_lay 0 = .ok (.iload_n 1, 1) := by decide +kernel
theorem dX8_lay_1 : decode cX8_lay 1 = .ok (.iconst 0, 1) := by decide +kernel
theorem dX8_lay_2 : decode cX8_lay 2 = .ok (.iconst 2, 1) := by decide +kernel
theorem dX8_lay_3 : decode cX8_lay 3 = .ok (.invokestatic 60, 3) := by decide +kernel
theorem dX8_lay_6 : decode cX8_lay 6 = .ok (.ifCond .eq 16, 3) := by decide +kernel
theorem dX8_lay_9 : decode cX8_lay 9 = .ok (.iload_n 2, 1) := by decide +kernel
theorem dX8_lay_10 : decode cX8_lay 10 = .ok (.iconst 0, 1) := by decide +kernel
theorem dX8_lay_11 : decode cX8_lay 11 = .ok (.aload_n 0, 1) := by decide +kernel
theorem dX8_lay_12 : decode cX8_lay 12 = .ok (.iload_n 1, 1) := by decide +kernel
theorem dX8_lay_13 : decode cX8_lay 13 = .ok (.invokevirtual 96, 3) := by decide +kernel
theorem dX8_lay_16 : decode cX8_lay 16 = .ok (.invokestatic 60, 3) := by decide +kernel
theorem dX8_lay_19 : decode cX8_lay 19 = .ok (.ifCond .ne 9, 3) := by decide +kernel
theorem dX8_lay_22 : decode cX8_lay 22 = .ok (.aload_n 0, 1) := by decide +kernel
theorem dX8_lay_23 : decode cX8_lay 23 = .ok (.iconst 1, 1) := by decide +kernel
theorem dX8_lay_24 : decode cX8_lay 24 = .ok (.invokevirtual 64, 3) := by decide +kernel
theorem dX8_lay_27 : decode cX8_lay 27 = .ok (.ireturn, 1) := by decide +kernel
theorem dX8_lay_28 : decode cX8_lay 28 = .ok (.iload_n 1, 1) := by decide +kernel
theorem dX8_lay_29 : decode cX8_lay 29 = .ok (.ifCond .ne 22, 3) := by decide +kernel
theorem dX8_lay_32 : decode cX8_lay 32 = .ok (.aload_n 0, 1) := by decide +kernel
theorem dX8_lay_33 : decode cX8_lay 33 = .ok (.getfield 10, 3) := by decide +kernel
theorem dX8_lay_36 : decode cX8_lay 36 = .ok (.getfield 99, 3) := by decide +kernel
theorem dX8_lay_39 : decode cX8_lay 39 = .ok (.istore_n 3, 1) := by decide +kernel
theorem dX8_lay_40 : decode cX8_lay 40 = .ok (.aload_n 0, 1) := by decide +kernel
theorem dX8_lay_41 : decode cX8_lay 41 = .ok (.getfield 10, 3) := by decide +kernel
theorem dX8_lay_44 : decode cX8_lay 44 = .ok (.iload_n 2, 1) := by decide +kernel
theorem dX8_lay_45 : decode cX8_lay 45 = .ok (.putfield 99, 3) := by decide +kernel
theorem dX8_lay_48 : decode cX8_lay 48 = .ok (.goto 43, 3) := by decide +kernel
theorem dX8_lay_51 : decode cX8_lay 51 = .ok (.iload_n 1, 1) := by decide +kernel
theorem dX8_lay_52 : decode cX8_lay 52 = .ok (.iconst 1, 1) := by decide +kernel
theorem dX8_lay_53 : decode cX8_lay 53 = .ok (.if_icmp .ne 22, 3) := by decide +kernel
theorem dX8_lay_56 : decode cX8_lay 56 = .ok (.aload_n 0, 1) := by decide +kernel
theorem dX8_lay_57 : decode cX8_lay 57 = .ok (.getfield 10, 3) := by decide +kernel
theorem dX8_lay_60 : decode cX8_lay 60 = .ok (.getfield 102, 3) := by decide +kernel
theorem dX8_lay_63 : decode cX8_lay 63 = .ok (.istore_n 3, 1) := by decide +kernel
theorem dX8_lay_64 : decode cX8_lay 64 = .ok (.aload_n 0, 1) := by decide +kernel
theorem dX8_lay_65 : decode cX8_lay 65 = .ok (.getfield 10, 3) := by decide +kernel
theorem dX8_lay_68 : decode cX8_lay 68 = .ok (.iload_n 2, 1) := by decide +kernel
theorem dX8_lay_69 : decode cX8_lay 69 = .ok (.putfield 102, 3) := by decide +kernel
theorem dX8_lay_72 : decode cX8_lay 72 = .ok (.goto 19, 3) := by decide +kernel
theorem dX8_lay_75 : decode cX8_lay 75 = .ok (.aload_n 0, 1) := by decide +kernel
theorem dX8_lay_76 : decode cX8_lay 76 = .ok (.getfield 10, 3) := by decide +kernel
theorem dX8_lay_79 : decode cX8_lay 79 = .ok (.getfield 105, 3) := by decide +kernel
theorem dX8_lay_82 : decode cX8_lay 82 = .ok (.istore_n 3, 1) := by decide +kernel
theorem dX8_lay_83 : decode cX8_lay 83 = .ok (.aload_n 0, 1) := by decide +kernel
theorem dX8_lay_84 : decode cX8_lay 84 = .ok (.getfield 10, 3) := by decide +kernel
theorem dX8_lay_87 : decode cX8_lay 87 = .ok (.iload_n 2, 1) := by decide +kernel
theorem dX8_lay_88 : decode cX8_lay 88 = .ok (.putfield 105, 3) := by decide +kernel
theorem dX8_lay_91 : decode cX8_lay 91 = .ok (.iload_n 3, 1) := by decide +kernel
theorem dX8_lay_92 : decode cX8_lay 92 = .ok (.ireturn, 1) := by decide +kernel
theorem dX8_mostLaid_0 : decode cX8_mostLaid 0 = .ok (.iload_n 1, 1) := by decide +kernel
theorem dX8_mostLaid_1 : decode cX8_mostLaid 1 = .ok (.lookupswitch 53 #[(0, 27), (1, 41)], 27) := by decide +kernel
theorem dX8_mostLaid_28 : decode cX8_mostLaid 28 = .ok (.iconst 1, 1) := by decide +kernel
theorem dX8_mostLaid_29 : decode cX8_mostLaid 29 = .ok (.aload_n 0, 1) := by decide +kernel
theorem dX8_mostLaid_30 : decode cX8_mostLaid 30 = .ok (.getfield 10, 3) := by decide +kernel
theorem dX8_mostLaid_33 : decode cX8_mostLaid 33 = .ok (.getfield 72, 3) := by decide +kernel
theorem dX8_mostLaid_36 : decode cX8_mostLaid 36 = .ok (.iconst 1, 1) := by decide +kernel
theorem dX8_mostLaid_37 : decode cX8_mostLaid 37 = .ok (.isub, 1) := by decide +kernel
theorem dX8_mostLaid_38 : decode cX8_mostLaid 38 = .ok (.ishl, 1) := by decide +kernel
theorem dX8_mostLaid_39 : decode cX8_mostLaid 39 = .ok (.iconst 1, 1) := by decide +kernel
theorem dX8_mostLaid_40 : decode cX8_mostLaid 40 = .ok (.isub, 1) := by decide +kernel
theorem dX8_mostLaid_41 : decode cX8_mostLaid 41 = .ok (.ireturn, 1) := by decide +kernel
theorem dX8_mostLaid_42 : decode cX8_mostLaid 42 = .ok (.iconst 1, 1) := by decide +kernel
theorem dX8_mostLaid_43 : decode cX8_mostLaid 43 = .ok (.aload_n 0, 1) := by decide +kernel
theorem dX8_mostLaid_44 : decode cX8_mostLaid 44 = .ok (.getfield 10, 3) := by decide +kernel
theorem dX8_mostLaid_47 : decode cX8_mostLaid 47 = .ok (.getfield 72, 3) := by decide +kernel
theorem dX8_mostLaid_50 : decode cX8_mostLaid 50 = .ok (.ishl, 1) := by decide +kernel
theorem dX8_mostLaid_51 : decode cX8_mostLaid 51 = .ok (.iconst 1, 1) := by decide +kernel
theorem dX8_mostLaid_52 : decode cX8_mostLaid 52 = .ok (.isub, 1) := by decide +kernel
theorem dX8_mostLaid_53 : decode cX8_mostLaid 53 = .ok (.ireturn, 1) := by decide +kernel
theorem dX8_mostLaid_54 : decode cX8_mostLaid 54 = .ok (.bipush 9, 2) := by decide +kernel
theorem dX8_mostLaid_56 : decode cX8_mostLaid 56 = .ok (.ireturn, 1) := by decide +kernel
set_option maxRecDepth 20000 in
theorem ggX8_person_X8_isKindAndNumber : GoodIn wsX8_person wsX8_isKindAndNumber := goodIn_r _ [6, 7, 8, 5, 9] (by decide +kernel) (by decide +kernel)
set_option maxRecDepth 20000 in
theorem gX8_person_X8_isKindAndNumber : GoodIn wsX8_person (va_wsS RX8 108 yX8_isKindAndNumber wsX8_isKindAndNumber) := goodIn_app (goodIn_of _ (by decide +kernel)) ggX8_person_X8_isKindAndNumber
set_option maxRecDepth 20000 in
theorem ggX8_person_X8_isCell : GoodIn wsX8_person wsX8_isCell := goodIn_r _ [13, 1, 14, 7, 8, 5, 9, 31, 32, 33, 34, 35, 36, 37, 38, 39, 40, 41, 42, 43, 44, 45, 46, 47, 48, 49, 50, 51, 52, 53, 54, 55, 56, 57, 58, 59, 60] (by decide +kernel) (by decide +kernel)
set_option maxRecDepth 20000 in
theorem gX8_person_X8_isCell : GoodIn wsX8_person (wsV RX8 79 RX8 yX8_isCell wsX8_isCell) := goodIn_app (goodIn_of _ (by decide +kernel)) ggX8_person_X8_isCell
set_option maxRecDepth 20000 in
theorem ggX8_person_X8_error : GoodIn wsX8_person wsX8_error := goodIn_r _ [18, 19, 20, 7, 8, 5, 9, 31, 32, 33, 34, 35, 36, 37, 38, 39, 40, 41] (by decide +kernel) (by decide +kernel)
set_option maxRecDepth 20000 in
theorem gX8_person_X8_error : GoodIn wsX8_person (wsV RX8 64 RX8 yX8_error wsX8_error) := goodIn_app (goodIn_of _ (by decide +kernel)) ggX8_person_X8_error
set_option maxRecDepth 20000 in
theorem ggX8_person_X0_addOne : GoodIn wsX8_person wsX0_addOne := goodIn_r _ [25, 26, 27, 28, 29, 30, 42, 43, 44, 45, 46, 47, 48, 49, 50, 51, 52, 53, 54, 55, 56, 57, 58, 59, 60] (by decide +kernel) (by decide +kernel)
set_option maxRecDepth 20000 in
theorem gX8_person_X0_addOne : GoodIn wsX8_person (wsV RX8 111 RX0 yX0_addOne wsX0_addOne) := goodIn_app (goodIn_of _ (by decide +kernel)) ggX8_person_X0_addOne
theorem dX8_person_0 : decode cX8_person 0 = .ok (.iload_n 1, 1) := by decide +kernel
theorem dX8_person_1 : decode cX8_person 1 = .ok (.invokestatic 108, 3) := by decide +kernel
theorem dX8_person_4 : decode cX8_person 4 = .ok (.ifCond .eq 11, 3) := by decide +kernel
theorem dX8_person_7 : decode cX8_person 7 = .ok (.aload_n 0, 1) := by decide +kernel
theorem dX8_person_8 : decode cX8_person 8 = .ok (.iload_n 2, 1) := by decide +kernel
theorem dX8_person_9 : decode cX8_person 9 = .ok (.invokevirtual 79, 3) := by decide +kernel
theorem dX8_person_12 : decode cX8_person 12 = .ok (.ifCond .ne 9, 3) := by decide +kernel
theorem dX8_person_15 : decode cX8_person 15 = .ok (.aload_n 0, 1) := by decide +kernel
theorem dX8_person_16 : decode cX8_person 16 = .ok (.iconst 1, 1) := by decide +kernel
theorem dX8_person_17 : decode cX8_person 17 = .ok (.invokevirtual 64, 3) := by decide +kernel
theorem dX8_person_20 : decode cX8_person 20 = .ok (.ireturn, 1) := by decide +kernel
theorem dX8_person_21 : decode cX8_person 21 = .ok (.aload_n 0, 1) := by decide +kernel
theorem dX8_person_22 : decode cX8_person 22 = .ok (.getfield 10, 3) := by decide +kernel
theorem dX8_person_25 : decode cX8_person 25 = .ok (.getfield 68, 3) := by decide +kernel
theorem dX8_person_28 : decode cX8_person 28 = .ok (.bipush 8, 2) := by decide +kernel
theorem dX8_person_30 : decode cX8_person 30 = .ok (.if_icmp .lt 9, 3) := by decide +kernel
theorem dX8_person_33 : decode cX8_person 33 = .ok (.aload_n 0, 1) := by decide +kernel
theorem dX8_person_34 : decode cX8_person 34 = .ok (.iconst 4, 1) := by decide +kernel
theorem dX8_person_35 : decode cX8_person 35 = .ok (.invokevirtual 64, 3) := by decide +kernel
theorem dX8_person_38 : decode cX8_person 38 = .ok (.ireturn, 1) := by decide +kernel
theorem dX8_person_39 : decode cX8_person 39 = .ok (.aload_n 0, 1) := by decide +kernel
theorem dX8_person_40 : decode cX8_person 40 = .ok (.getfield 10, 3) := by decide +kernel
theorem dX8_person_43 : decode cX8_person 43 = .ok (.iload_n 1, 1) := by decide +kernel
theorem dX8_person_44 : decode cX8_person 44 = .ok (.bipush 10, 2) := by decide +kernel
theorem dX8_person_46 : decode cX8_person 46 = .ok (.idiv, 1) := by decide +kernel
theorem dX8_person_47 : decode cX8_person 47 = .ok (.iload_n 1, 1) := by decide +kernel
theorem dX8_person_48 : decode cX8_person 48 = .ok (.bipush 10, 2) := by decide +kernel
theorem dX8_person_50 : decode cX8_person 50 = .ok (.irem, 1) := by decide +kernel
theorem dX8_person_51 : decode cX8_person 51 = .ok (.iload_n 2, 1) := by decide +kernel
theorem dX8_person_52 : decode cX8_person 52 = .ok (.invokevirtual 111, 3) := by decide +kernel
theorem dX8_person_55 : decode cX8_person 55 = .ok (.ireturn, 1) := by decide +kernel
set_option maxRecDepth 20000 in
theorem ggX8_ofPerson_X8_isPerson : GoodIn wsX8_ofPerson wsX8_isPerson := goodIn_r _ [13, 1, 14, 15, 16, 12, 17, 94, 95, 96, 97, 98, 99, 100, 101, 102, 103, 104, 105, 106, 107, 108, 109, 110, 111, 112, 113, 114, 115, 116, 117, 118, 119, 120, 121, 122, 123] (by decide +kernel) (by decide +kernel)
set_option maxRecDepth 20000 in
theorem gX8_ofPerson_X8_isPerson : GoodIn wsX8_ofPerson (wsV RX8 115 RX8 yX8_isPerson wsX8_isPerson) := goodIn_app (goodIn_of _ (by decide +kernel)) ggX8_ofPerson_X8_isPerson
set_option maxRecDepth 20000 in
theorem ggX8_ofPerson_X8_error : GoodIn wsX8_ofPerson wsX8_error := goodIn_r _ [21, 22, 23, 15, 16, 12, 17, 94, 95, 96, 97, 98, 99, 100, 101, 102, 103, 104] (by decide +kernel) (by decide +kernel)
set_option maxRecDepth 20000 in
theorem gX8_ofPerson_X8_error : GoodIn wsX8_ofPerson (wsV RX8 64 RX8 yX8_error wsX8_error) := goodIn_app (goodIn_of _ (by decide +kernel)) ggX8_ofPerson_X8_error
set_option maxRecDepth 20000 in
theorem ggX8_ofPerson_X0_sightIn : GoodIn wsX8_ofPerson wsX0_sightIn := goodIn_r _ [28, 29, 30, 31, 32, 33, 27, 34, 35, 36, 37, 38, 39, 40, 41, 42, 43, 44, 45, 46, 12, 47, 48, 49, 50, 51, 105, 106, 107, 108, 109, 110, 111, 112, 113, 114, 115, 116, 117, 118, 119, 120, 121, 122, 123, 124, 125] (by decide +kernel) (by decide +kernel)
set_option maxRecDepth 20000 in
theorem gX8_ofPerson_X0_sightIn : GoodIn wsX8_ofPerson (wsV RX8 133 RX0 yX0_sightIn wsX0_sightIn) := goodIn_app (goodIn_of _ (by decide +kernel)) ggX8_ofPerson_X0_sightIn
set_option maxRecDepth 20000 in
theorem ggX8_ofPerson_X1_countsOf : GoodIn wsX8_ofPerson wsX1_countsOf := goodIn_r _ [54] (by decide +kernel) (by decide +kernel)
set_option maxRecDepth 20000 in
theorem gX8_ofPerson_X1_countsOf : GoodIn wsX8_ofPerson (va_wsS RX8 136 yX1_countsOf wsX1_countsOf) := goodIn_app (goodIn_of _ (by decide +kernel)) ggX8_ofPerson_X1_countsOf
set_option maxRecDepth 20000 in
theorem ggX8_ofPerson_X0_takesFrom : GoodIn wsX8_ofPerson wsX0_takesFrom := goodIn_r _ [58, 29, 30, 59, 60, 50, 61, 62, 63, 64, 65, 16, 12, 17, 66, 67, 68, 27, 69, 70, 36, 37, 38, 39, 40, 41, 42, 43, 44, 45, 46, 47, 71, 72, 73, 105, 106, 107, 108, 109, 110, 111, 112, 113, 114, 115, 116, 117, 118, 119, 120, 121, 122, 123, 124, 125] (by decide +kernel) (by decide +kernel)
set_option maxRecDepth 20000 in
theorem gX8_ofPerson_X0_takesFrom : GoodIn wsX8_ofPerson (wsV RX8 142 RX0 yX0_takesFrom wsX0_takesFrom) := goodIn_app (goodIn_of _ (by decide +kernel)) ggX8_ofPerson_X0_takesFrom
set_option maxRecDepth 20000 in
theorem ggX8_ofPerson_X0_seenBy : GoodIn wsX8_ofPerson wsX0_seenBy := goodIn_r _ [77, 78, 79, 80, 81, 82, 25, 26, 27, 28, 29, 30, 31, 32, 33, 34, 35, 36, 37, 38, 39, 40, 41, 42, 43, 44, 45, 46, 12, 47, 48, 49, 50, 51, 83, 84, 85, 86, 87, 88, 89, 90, 91, 92, 93, 105, 106, 107, 108, 109, 110, 111, 112, 113, 114, 115, 116, 117, 118, 119, 120, 121, 122, 123, 124, 125] (by decide +kernel) (by decide +kernel)
set_option maxRecDepth 20000 in
theorem gX8_ofPerson_X0_seenBy : GoodIn wsX8_ofPerson (wsV RX8 145 RX0 yX0_seenBy wsX0_seenBy) := goodIn_app (goodIn_of _ (by decide +kernel)) ggX8_ofPerson_X0_seenBy
theorem dX8_ofPerson_0 : decode cX8_ofPerson 0 = .ok (.aload_n 0, 1) := by decide +kernel
theorem dX8_ofPerson_1 : decode cX8_ofPerson 1 = .ok (.iload_n 1, 1) := by decide +kernel
theorem dX8_ofPerson_2 : decode cX8_ofPerson 2 = .ok (.invokevirtual 115, 3) := by decide +kernel
theorem dX8_ofPerson_5 : decode cX8_ofPerson 5 = .ok (.ifCond .ne 9, 3) := by decide +kernel
theorem dX8_ofPerson_8 : decode cX8_ofPerson 8 = .ok (.aload_n 0, 1) := by decide +kernel
theorem dX8_ofPerson_9 : decode cX8_ofPerson 9 = .ok (.iconst 1, 1) := by decide +kernel
theorem dX8_ofPerson_10 : decode cX8_ofPerson 10 = .ok (.invokevirtual 64, 3) := by decide +kernel
theorem dX8_ofPerson_13 : decode cX8_ofPerson 13 = .ok (.ireturn, 1) := by decide +kernel
theorem dX8_ofPerson_14 : decode cX8_ofPerson 14 = .ok (.iload_n 2, 1) := by decide +kernel
theorem dX8_ofPerson_15 : decode cX8_ofPerson 15 = .ok (.tableswitch 172 0 7 #[45, 55, 65, 75, 85, 108, 130, 163], 45) := by decide +kernel
theorem dX8_ofPerson_60 : decode cX8_ofPerson 60 = .ok (.aload_n 0, 1) := by decide +kernel
theorem dX8_ofPerson_61 : decode cX8_ofPerson 61 = .ok (.getfield 10, 3) := by decide +kernel
theorem dX8_ofPerson_64 : decode cX8_ofPerson 64 = .ok (.getfield 118, 3) := by decide +kernel
theorem dX8_ofPerson_67 : decode cX8_ofPerson 67 = .ok (.iload_n 1, 1) := by decide +kernel
theorem dX8_ofPerson_68 : decode cX8_ofPerson 68 = .ok (.iaload, 1) := by decide +kernel
theorem dX8_ofPerson_69 : decode cX8_ofPerson 69 = .ok (.ireturn, 1) := by decide +kernel
theorem dX8_ofPerson_70 : decode cX8_ofPerson 70 = .ok (.aload_n 0, 1) := by decide +kernel
theorem dX8_ofPerson_71 : decode cX8_ofPerson 71 = .ok (.getfield 10, 3) := by decide +kernel
theorem dX8_ofPerson_74 : decode cX8_ofPerson 74 = .ok (.getfield 121, 3) := by decide +kernel
theorem dX8_ofPerson_77 : decode cX8_ofPerson 77 = .ok (.iload_n 1, 1) := by decide +kernel
theorem dX8_ofPerson_78 : decode cX8_ofPerson 78 = .ok (.iaload, 1) := by decide +kernel
theorem dX8_ofPerson_79 : decode cX8_ofPerson 79 = .ok (.ireturn, 1) := by decide +kernel
theorem dX8_ofPerson_80 : decode cX8_ofPerson 80 = .ok (.aload_n 0, 1) := by decide +kernel
theorem dX8_ofPerson_81 : decode cX8_ofPerson 81 = .ok (.getfield 10, 3) := by decide +kernel
theorem dX8_ofPerson_84 : decode cX8_ofPerson 84 = .ok (.getfield 124, 3) := by decide +kernel
theorem dX8_ofPerson_87 : decode cX8_ofPerson 87 = .ok (.iload_n 1, 1) := by decide +kernel
theorem dX8_ofPerson_88 : decode cX8_ofPerson 88 = .ok (.iaload, 1) := by decide +kernel
theorem dX8_ofPerson_89 : decode cX8_ofPerson 89 = .ok (.ireturn, 1) := by decide +kernel
theorem dX8_ofPerson_90 : decode cX8_ofPerson 90 = .ok (.aload_n 0, 1) := by decide +kernel
theorem dX8_ofPerson_91 : decode cX8_ofPerson 91 = .ok (.getfield 10, 3) := by decide +kernel
theorem dX8_ofPerson_94 : decode cX8_ofPerson 94 = .ok (.getfield 127, 3) := by decide +kernel
theorem dX8_ofPerson_97 : decode cX8_ofPerson 97 = .ok (.iload_n 1, 1) := by decide +kernel
theorem dX8_ofPerson_98 : decode cX8_ofPerson 98 = .ok (.iaload, 1) := by decide +kernel
theorem dX8_ofPerson_99 : decode cX8_ofPerson 99 = .ok (.ireturn, 1) := by decide +kernel
theorem dX8_ofPerson_100 : decode cX8_ofPerson 100 = .ok (.aload_n 0, 1) := by decide +kernel
theorem dX8_ofPerson_101 : decode cX8_ofPerson 101 = .ok (.getfield 10, 3) := by decide +kernel
theorem dX8_ofPerson_104 : decode cX8_ofPerson 104 = .ok (.iload_n 1, 1) := by decide +kernel
theorem dX8_ofPerson_105 : decode cX8_ofPerson 105 = .ok (.aload_n 0, 1) := by decide +kernel
theorem dX8_ofPerson_106 : decode cX8_ofPerson 106 = .ok (.getfield 10, 3) := by decide +kernel
theorem dX8_ofPerson_109 : decode cX8_ofPerson 109 = .ok (.getfield 105, 3) := by decide +kernel
theorem dX8_ofPerson_112 : decode cX8_ofPerson 112 = .ok (.aload_n 0, 1) := by decide +kernel
theorem dX8_ofPerson_113 : decode cX8_ofPerson 113 = .ok (.getfield 10, 3) := by decide +kernel
theorem dX8_ofPerson_116 : decode cX8_ofPerson 116 = .ok (.getfield 130, 3) := by decide +kernel
theorem dX8_ofPerson_119 : decode cX8_ofPerson 119 = .ok (.invokevirtual 133, 3) := by decide +kernel
theorem dX8_ofPerson_122 : decode cX8_ofPerson 122 = .ok (.ireturn, 1) := by decide +kernel
theorem dX8_ofPerson_123 : decode cX8_ofPerson 123 = .ok (.aload_n 0, 1) := by decide +kernel
theorem dX8_ofPerson_124 : decode cX8_ofPerson 124 = .ok (.getfield 10, 3) := by decide +kernel
theorem dX8_ofPerson_127 : decode cX8_ofPerson 127 = .ok (.getfield 118, 3) := by decide +kernel
theorem dX8_ofPerson_130 : decode cX8_ofPerson 130 = .ok (.iload_n 1, 1) := by decide +kernel
theorem dX8_ofPerson_131 : decode cX8_ofPerson 131 = .ok (.iaload, 1) := by decide +kernel
theorem dX8_ofPerson_132 : decode cX8_ofPerson 132 = .ok (.aload_n 0, 1) := by decide +kernel
theorem dX8_ofPerson_133 : decode cX8_ofPerson 133 = .ok (.getfield 10, 3) := by decide +kernel
theorem dX8_ofPerson_136 : decode cX8_ofPerson 136 = .ok (.getfield 121, 3) := by decide +kernel
theorem dX8_ofPerson_139 : decode cX8_ofPerson 139 = .ok (.iload_n 1, 1) := by decide +kernel
theorem dX8_ofPerson_140 : decode cX8_ofPerson 140 = .ok (.iaload, 1) := by decide +kernel
theorem dX8_ofPerson_141 : decode cX8_ofPerson 141 = .ok (.invokestatic 136, 3) := by decide +kernel
theorem dX8_ofPerson_144 : decode cX8_ofPerson 144 = .ok (.ireturn, 1) := by decide +kernel
theorem dX8_ofPerson_145 : decode cX8_ofPerson 145 = .ok (.aload_n 0, 1) := by decide +kernel
theorem dX8_ofPerson_146 : decode cX8_ofPerson 146 = .ok (.getfield 10, 3) := by decide +kernel
theorem dX8_ofPerson_149 : decode cX8_ofPerson 149 = .ok (.iload_n 1, 1) := by decide +kernel
theorem dX8_ofPerson_150 : decode cX8_ofPerson 150 = .ok (.aload_n 0, 1) := by decide +kernel
theorem dX8_ofPerson_151 : decode cX8_ofPerson 151 = .ok (.getfield 10, 3) := by decide +kernel
theorem dX8_ofPerson_154 : decode cX8_ofPerson 154 = .ok (.getfield 84, 3) := by decide +kernel
theorem dX8_ofPerson_157 : decode cX8_ofPerson 157 = .ok (.aload_n 0, 1) := by decide +kernel
theorem dX8_ofPerson_158 : decode cX8_ofPerson 158 = .ok (.getfield 10, 3) := by decide +kernel
theorem dX8_ofPerson_161 : decode cX8_ofPerson 161 = .ok (.getfield 124, 3) := by decide +kernel
theorem dX8_ofPerson_164 : decode cX8_ofPerson 164 = .ok (.iload_n 1, 1) := by decide +kernel
theorem dX8_ofPerson_165 : decode cX8_ofPerson 165 = .ok (.iaload, 1) := by decide +kernel
theorem dX8_ofPerson_166 : decode cX8_ofPerson 166 = .ok (.iaload, 1) := by decide +kernel
theorem dX8_ofPerson_167 : decode cX8_ofPerson 167 = .ok (.aload_n 0, 1) := by decide +kernel
theorem dX8_ofPerson_168 : decode cX8_ofPerson 168 = .ok (.getfield 10, 3) := by decide +kernel
theorem dX8_ofPerson_171 : decode cX8_ofPerson 171 = .ok (.getfield 130, 3) := by decide +kernel
theorem dX8_ofPerson_174 : decode cX8_ofPerson 174 = .ok (.invokevirtual 142, 3) := by decide +kernel
theorem dX8_ofPerson_177 : decode cX8_ofPerson 177 = .ok (.ireturn, 1) := by decide +kernel
theorem dX8_ofPerson_178 : decode cX8_ofPerson 178 = .ok (.aload_n 0, 1) := by decide +kernel
theorem dX8_ofPerson_179 : decode cX8_ofPerson 179 = .ok (.getfield 10, 3) := by decide +kernel
theorem dX8_ofPerson_182 : decode cX8_ofPerson 182 = .ok (.iload_n 1, 1) := by decide +kernel
theorem dX8_ofPerson_183 : decode cX8_ofPerson 183 = .ok (.invokevirtual 145, 3) := by decide +kernel
theorem dX8_ofPerson_186 : decode cX8_ofPerson 186 = .ok (.ireturn, 1) := by decide +kernel
theorem dX8_ofPerson_187 : decode cX8_ofPerson 187 = .ok (.aload_n 0, 1) := by decide +kernel
theorem dX8_ofPerson_188 : decode cX8_ofPerson 188 = .ok (.iconst 1, 1) := by decide +kernel
theorem dX8_ofPerson_189 : decode cX8_ofPerson 189 = .ok (.invokevirtual 64, 3) := by decide +kernel
theorem dX8_ofPerson_192 : decode cX8_ofPerson 192 = .ok (.ireturn, 1) := by decide +kernel
set_option maxRecDepth 20000 in
theorem ggX8_lead_X8_isPerson : GoodIn wsX8_lead wsX8_isPerson := goodIn_r _ [8, 1, 9, 10, 11, 7, 12, 24, 25, 26, 27, 28, 29, 30, 31, 32, 33, 34, 35, 36, 37, 38, 39, 40, 41, 42, 43, 44, 45, 46, 47, 48, 49, 50, 51, 52, 53] (by decide +kernel) (by decide +kernel)
set_option maxRecDepth 20000 in
theorem gX8_lead_X8_isPerson : GoodIn wsX8_lead (wsV RX8 115 RX8 yX8_isPerson wsX8_isPerson) := goodIn_app (goodIn_of _ (by decide +kernel)) ggX8_lead_X8_isPerson
set_option maxRecDepth 20000 in
theorem ggX8_lead_X8_within : GoodIn wsX8_lead wsX8_within := goodIn_r _ [12] (by decide +kernel) (by decide +kernel)
set_option maxRecDepth 20000 in
theorem gX8_lead_X8_within : GoodIn wsX8_lead (va_wsS RX8 60 yX8_within wsX8_within) := goodIn_app (goodIn_of _ (by decide +kernel)) ggX8_lead_X8_within
set_option maxRecDepth 20000 in
theorem ggX8_lead_X8_isCell : GoodIn wsX8_lead wsX8_isCell := goodIn_r _ [16, 1, 17, 10, 11, 7, 12, 24, 25, 26, 27, 28, 29, 30, 31, 32, 33, 34, 35, 36, 37, 38, 39, 40, 41, 42, 43, 44, 45, 46, 47, 48, 49, 50, 51, 52, 53] (by decide +kernel) (by decide +kernel)
set_option maxRecDepth 20000 in
theorem gX8_lead_X8_isCell : GoodIn wsX8_lead (wsV RX8 79 RX8 yX8_isCell wsX8_isCell) := goodIn_app (goodIn_of _ (by decide +kernel)) ggX8_lead_X8_isCell
set_option maxRecDepth 20000 in
theorem ggX8_lead_X8_error : GoodIn wsX8_lead wsX8_error := goodIn_r _ [21, 22, 23, 10, 11, 7, 12, 24, 25, 26, 27, 28, 29, 30, 31, 32, 33, 34] (by decide +kernel) (by decide +kernel)
set_option maxRecDepth 20000 in
theorem gX8_lead_X8_error : GoodIn wsX8_lead (wsV RX8 64 RX8 yX8_error wsX8_error) := goodIn_app (goodIn_of _ (by decide +kernel)) ggX8_lead_X8_error
theorem dX8_lead_0 : decode cX8_lead 0 = .ok (.aload_n 0, 1) := by decide +kernel
theorem dX8_lead_1 : decode cX8_lead 1 = .ok (.iload_n 1, 1) := by decide +kernel
theorem dX8_lead_2 : decode cX8_lead 2 = .ok (.invokevirtual 115, 3) := by decide +kernel
theorem dX8_lead_5 : decode cX8_lead 5 = .ok (.ifCond .eq 36, 3) := by decide +kernel
theorem dX8_lead_8 : decode cX8_lead 8 = .ok (.iload_n 2, 1) := by decide +kernel
theorem dX8_lead_9 : decode cX8_lead 9 = .ok (.iconst 0, 1) := by decide +kernel
theorem dX8_lead_10 : decode cX8_lead 10 = .ok (.iconst 1, 1) := by decide +kernel
theorem dX8_lead_11 : decode cX8_lead 11 = .ok (.invokestatic 60, 3) := by decide +kernel
theorem dX8_lead_14 : decode cX8_lead 14 = .ok (.ifCond .eq 27, 3) := by decide +kernel
theorem dX8_lead_17 : decode cX8_lead 17 = .ok (.iload_n 2, 1) := by decide +kernel
theorem dX8_lead_18 : decode cX8_lead 18 = .ok (.ifCond .ne 14, 3) := by decide +kernel
theorem dX8_lead_21 : decode cX8_lead 21 = .ok (.aload_n 0, 1) := by decide +kernel
theorem dX8_lead_22 : decode cX8_lead 22 = .ok (.iload_n 3, 1) := by decide +kernel
theorem dX8_lead_23 : decode cX8_lead 23 = .ok (.invokevirtual 79, 3) := by decide +kernel
theorem dX8_lead_26 : decode cX8_lead 26 = .ok (.ifCond .eq 15, 3) := by decide +kernel
theorem dX8_lead_29 : decode cX8_lead 29 = .ok (.goto 18, 3) := by decide +kernel
theorem dX8_lead_32 : decode cX8_lead 32 = .ok (.iload_n 3, 1) := by decide +kernel
theorem dX8_lead_33 : decode cX8_lead 33 = .ok (.iconst (-1), 1) := by decide +kernel
theorem dX8_lead_34 : decode cX8_lead 34 = .ok (.iconst 1, 1) := by decide +kernel
theorem dX8_lead_35 : decode cX8_lead 35 = .ok (.invokestatic 60, 3) := by decide +kernel
theorem dX8_lead_38 : decode cX8_lead 38 = .ok (.ifCond .ne 9, 3) := by decide +kernel
theorem dX8_lead_41 : decode cX8_lead 41 = .ok (.aload_n 0, 1) := by decide +kernel
theorem dX8_lead_42 : decode cX8_lead 42 = .ok (.iconst 1, 1) := by decide +kernel
theorem dX8_lead_43 : decode cX8_lead 43 = .ok (.invokevirtual 64, 3) := by decide +kernel
theorem dX8_lead_46 : decode cX8_lead 46 = .ok (.ireturn, 1) := by decide +kernel
theorem dX8_lead_47 : decode cX8_lead 47 = .ok (.iload_n 2, 1) := by decide +kernel
theorem dX8_lead_48 : decode cX8_lead 48 = .ok (.ifCond .ne 13, 3) := by decide +kernel
theorem dX8_lead_51 : decode cX8_lead 51 = .ok (.aload_n 0, 1) := by decide +kernel
theorem dX8_lead_52 : decode cX8_lead 52 = .ok (.getfield 10, 3) := by decide +kernel
theorem dX8_lead_55 : decode cX8_lead 55 = .ok (.getfield 124, 3) := by decide +kernel
theorem dX8_lead_58 : decode cX8_lead 58 = .ok (.goto 10, 3) := by decide +kernel
theorem dX8_lead_61 : decode cX8_lead 61 = .ok (.aload_n 0, 1) := by decide +kernel
theorem dX8_lead_62 : decode cX8_lead 62 = .ok (.getfield 10, 3) := by decide +kernel
theorem dX8_lead_65 : decode cX8_lead 65 = .ok (.getfield 127, 3) := by decide +kernel
theorem dX8_lead_68 : decode cX8_lead 68 = .ok (.astore 4, 2) := by decide +kernel
theorem dX8_lead_70 : decode cX8_lead 70 = .ok (.aload 4, 2) := by decide +kernel
theorem dX8_lead_72 : decode cX8_lead 72 = .ok (.iload_n 1, 1) := by decide +kernel
theorem dX8_lead_73 : decode cX8_lead 73 = .ok (.iaload, 1) := by decide +kernel
theorem dX8_lead_74 : decode cX8_lead 74 = .ok (.istore 5, 2) := by decide +kernel
theorem dX8_lead_76 : decode cX8_lead 76 = .ok (.aload 4, 2) := by decide +kernel
theorem dX8_lead_78 : decode cX8_lead 78 = .ok (.iload_n 1, 1) := by decide +kernel
theorem dX8_lead_79 : decode cX8_lead 79 = .ok (.iload_n 3, 1) := by decide +kernel
theorem dX8_lead_80 : decode cX8_lead 80 = .ok (.iastore, 1) := by decide +kernel
theorem dX8_lead_81 : decode cX8_lead 81 = .ok (.iload 5, 2) := by decide +kernel
theorem dX8_lead_83 : decode cX8_lead 83 = .ok (.ireturn, 1) := by decide +kernel
set_option maxRecDepth 20000 in
theorem ggX8_become_X8_isPerson : GoodIn wsX8_become wsX8_isPerson := goodIn_r _ [8, 1, 9, 10, 11, 7, 12, 22, 23, 24, 25, 26, 27, 28, 29, 30, 31, 32, 33, 34, 35, 36, 37, 38, 39, 40, 41, 42, 43, 44, 45, 46, 47, 48, 49, 50, 51] (by decide +kernel) (by decide +kernel)
set_option maxRecDepth 20000 in
theorem gX8_become_X8_isPerson : GoodIn wsX8_become (wsV RX8 115 RX8 yX8_isPerson wsX8_isPerson) := goodIn_app (goodIn_of _ (by decide +kernel)) ggX8_become_X8_isPerson
set_option maxRecDepth 20000 in
theorem ggX8_become_X8_isKindAndNumber : GoodIn wsX8_become wsX8_isKindAndNumber := goodIn_r _ [15, 10, 11, 7, 12] (by decide +kernel) (by decide +kernel)
set_option maxRecDepth 20000 in
theorem gX8_become_X8_isKindAndNumber : GoodIn wsX8_become (va_wsS RX8 108 yX8_isKindAndNumber wsX8_isKindAndNumber) := goodIn_app (goodIn_of _ (by decide +kernel)) ggX8_become_X8_isKindAndNumber
set_option maxRecDepth 20000 in
theorem ggX8_become_X8_error : GoodIn wsX8_become wsX8_error := goodIn_r _ [19, 20, 21, 10, 11, 7, 12, 22, 23, 24, 25, 26, 27, 28, 29, 30, 31, 32] (by decide +kernel) (by decide +kernel)
set_option maxRecDepth 20000 in
theorem gX8_become_X8_error : GoodIn wsX8_become (wsV RX8 64 RX8 yX8_error wsX8_error) := goodIn_app (goodIn_of _ (by decide +kernel)) ggX8_become_X8_error
theorem dX8_become_0 : decode cX8_become 0 = .ok (.aload_n 0, 1) := by decide +kernel
theorem dX8_become_1 : decode cX8_become 1 = .ok (.iload_n 1, 1) := by decide +kernel
theorem dX8_become_2 : decode cX8_become 2 = .ok (.invokevirtual 115, 3) := by decide +kernel
theorem dX8_become_5 : decode cX8_become 5 = .ok (.ifCond .eq 10, 3) := by decide +kernel
theorem dX8_become_8 : decode cX8_become 8 = .ok (.iload_n 2, 1) := by decide +kernel
theorem dX8_become_9 : decode cX8_become 9 = .ok (.invokestatic 108, 3) := by decide +kernel
theorem dX8_become_12 : decode cX8_become 12 = .ok (.ifCond .ne 9, 3) := by decide +kernel
theorem dX8_become_15 : decode cX8_become 15 = .ok (.aload_n 0, 1) := by decide +kernel
theorem dX8_become_16 : decode cX8_become 16 = .ok (.iconst 1, 1) := by decide +kernel
theorem dX8_become_17 : decode cX8_become 17 = .ok (.invokevirtual 64, 3) := by decide +kernel
theorem dX8_become_20 : decode cX8_become 20 = .ok (.ireturn, 1) := by decide +kernel
theorem dX8_become_21 : decode cX8_become 21 = .ok (.aload_n 0, 1) := by decide +kernel
theorem dX8_become_22 : decode cX8_become 22 = .ok (.getfield 10, 3) := by decide +kernel
theorem dX8_become_25 : decode cX8_become 25 = .ok (.getfield 118, 3) := by decide +kernel
theorem dX8_become_28 : decode cX8_become 28 = .ok (.iload_n 1, 1) := by decide +kernel
theorem dX8_become_29 : decode cX8_become 29 = .ok (.iaload, 1) := by decide +kernel
theorem dX8_become_30 : decode cX8_become 30 = .ok (.istore_n 3, 1) := by decide +kernel
theorem dX8_become_31 : decode cX8_become 31 = .ok (.aload_n 0, 1) := by decide +kernel
theorem dX8_become_32 : decode cX8_become 32 = .ok (.getfield 10, 3) := by decide +kernel
theorem dX8_become_35 : decode cX8_become 35 = .ok (.getfield 118, 3) := by decide +kernel
theorem dX8_become_38 : decode cX8_become 38 = .ok (.iload_n 1, 1) := by decide +kernel
theorem dX8_become_39 : decode cX8_become 39 = .ok (.iload_n 2, 1) := by decide +kernel
theorem dX8_become_40 : decode cX8_become 40 = .ok (.bipush 10, 2) := by decide +kernel
theorem dX8_become_42 : decode cX8_become 42 = .ok (.idiv, 1) := by decide +kernel
theorem dX8_become_43 : decode cX8_become 43 = .ok (.iastore, 1) := by decide +kernel
theorem dX8_become_44 : decode cX8_become 44 = .ok (.aload_n 0, 1) := by decide +kernel
theorem dX8_become_45 : decode cX8_become 45 = .ok (.getfield 10, 3) := by decide +kernel
theorem dX8_become_48 : decode cX8_become 48 = .ok (.getfield 121, 3) := by decide +kernel
theorem dX8_become_51 : decode cX8_become 51 = .ok (.iload_n 1, 1) := by decide +kernel
theorem dX8_become_52 : decode cX8_become 52 = .ok (.iload_n 2, 1) := by decide +kernel
theorem dX8_become_53 : decode cX8_become 53 = .ok (.bipush 10, 2) := by decide +kernel
theorem dX8_become_55 : decode cX8_become 55 = .ok (.irem, 1) := by decide +kernel
theorem dX8_become_56 : decode cX8_become 56 = .ok (.iastore, 1) := by decide +kernel
theorem dX8_become_57 : decode cX8_become 57 = .ok (.iload_n 3, 1) := by decide +kernel
theorem dX8_become_58 : decode cX8_become 58 = .ok (.ireturn, 1) := by decide +kernel
set_option maxRecDepth 20000 in
theorem ggX8_as_X8_isPerson : GoodIn wsX8_as wsX8_isPerson := goodIn_r _ [8, 1, 9, 10, 11, 7, 12, 27, 28, 29, 30, 31, 32, 33, 34, 35, 36, 37, 38, 39, 40, 41, 42, 43, 44, 45, 46, 47, 48, 49, 50, 51, 52, 53, 54, 55, 56] (by decide +kernel) (by decide +kernel)
set_option maxRecDepth 20000 in
theorem gX8_as_X8_isPerson : GoodIn wsX8_as (wsV RX8 115 RX8 yX8_isPerson wsX8_isPerson) := goodIn_app (goodIn_of _ (by decide +kernel)) ggX8_as_X8_isPerson
set_option maxRecDepth 20000 in
theorem ggX8_as_X8_within : GoodIn wsX8_as wsX8_within := goodIn_r _ [12] (by decide +kernel) (by decide +kernel)
set_option maxRecDepth 20000 in
theorem gX8_as_X8_within : GoodIn wsX8_as (va_wsS RX8 60 yX8_within wsX8_within) := goodIn_app (goodIn_of _ (by decide +kernel)) ggX8_as_X8_within
set_option maxRecDepth 20000 in
theorem ggX8_as_X8_error : GoodIn wsX8_as wsX8_error := goodIn_r _ [16, 17, 18, 10, 11, 7, 12, 27, 28, 29, 30, 31, 32, 33, 34, 35, 36, 37] (by decide +kernel) (by decide +kernel)
set_option maxRecDepth 20000 in
theorem gX8_as_X8_error : GoodIn wsX8_as (wsV RX8 64 RX8 yX8_error wsX8_error) := goodIn_app (goodIn_of _ (by decide +kernel)) ggX8_as_X8_error
set_option maxRecDepth 20000 in
theorem ggX8_as_X1_isOneOf : GoodIn wsX8_as wsX1_isOneOf := goodIn_r _ [22, 23, 24, 21, 25, 26, 11, 7, 12] (by decide +kernel) (by decide +kernel)
set_option maxRecDepth 20000 in
theorem gX8_as_X1_isOneOf : GoodIn wsX8_as (va_wsS RX8 148 yX1_isOneOf wsX1_isOneOf) := goodIn_app (goodIn_of _ (by decide +kernel)) ggX8_as_X1_isOneOf
theorem dX8_as_0 : decode cX8_as 0 = .ok (.aload_n 0, 1) := by decide +kernel
theorem dX8_as_1 : decode cX8_as 1 = .ok (.iload_n 1, 1) := by decide +kernel
theorem dX8_as_2 : decode cX8_as 2 = .ok (.invokevirtual 115, 3) := by decide +kernel
theorem dX8_as_5 : decode cX8_as 5 = .ok (.ifCond .eq 13, 3) := by decide +kernel
theorem dX8_as_8 : decode cX8_as 8 = .ok (.iload_n 2, 1) := by decide +kernel
theorem dX8_as_9 : decode cX8_as 9 = .ok (.iconst 0, 1) := by decide +kernel
theorem dX8_as_10 : decode cX8_as 10 = .ok (.bipush 6, 2) := by decide +kernel
theorem dX8_as_12 : decode cX8_as 12 = .ok (.invokestatic 60, 3) := by decide +kernel
theorem dX8_as_15 : decode cX8_as 15 = .ok (.ifCond .ne 9, 3) := by decide +kernel
theorem dX8_as_18 : decode cX8_as 18 = .ok (.aload_n 0, 1) := by decide +kernel
theorem dX8_as_19 : decode cX8_as 19 = .ok (.iconst 1, 1) := by decide +kernel
theorem dX8_as_20 : decode cX8_as 20 = .ok (.invokevirtual 64, 3) := by decide +kernel
theorem dX8_as_23 : decode cX8_as 23 = .ok (.ireturn, 1) := by decide +kernel
theorem dX8_as_24 : decode cX8_as 24 = .ok (.aload_n 0, 1) := by decide +kernel
theorem dX8_as_25 : decode cX8_as 25 = .ok (.getfield 10, 3) := by decide +kernel
theorem dX8_as_28 : decode cX8_as 28 = .ok (.getfield 118, 3) := by decide +kernel
theorem dX8_as_31 : decode cX8_as 31 = .ok (.iload_n 1, 1) := by decide +kernel
theorem dX8_as_32 : decode cX8_as 32 = .ok (.iaload, 1) := by decide +kernel
theorem dX8_as_33 : decode cX8_as 33 = .ok (.iload_n 2, 1) := by decide +kernel
theorem dX8_as_34 : decode cX8_as 34 = .ok (.invokestatic 148, 3) := by decide +kernel
theorem dX8_as_37 : decode cX8_as 37 = .ok (.ifCond .ne 9, 3) := by decide +kernel
theorem dX8_as_40 : decode cX8_as 40 = .ok (.aload_n 0, 1) := by decide +kernel
theorem dX8_as_41 : decode cX8_as 41 = .ok (.iconst 5, 1) := by decide +kernel
theorem dX8_as_42 : decode cX8_as 42 = .ok (.invokevirtual 64, 3) := by decide +kernel
theorem dX8_as_45 : decode cX8_as 45 = .ok (.ireturn, 1) := by decide +kernel
theorem dX8_as_46 : decode cX8_as 46 = .ok (.aload_n 0, 1) := by decide +kernel
theorem dX8_as_47 : decode cX8_as 47 = .ok (.getfield 10, 3) := by decide +kernel
theorem dX8_as_50 : decode cX8_as 50 = .ok (.getfield 121, 3) := by decide +kernel
theorem dX8_as_53 : decode cX8_as 53 = .ok (.iload_n 1, 1) := by decide +kernel
theorem dX8_as_54 : decode cX8_as 54 = .ok (.iaload, 1) := by decide +kernel
theorem dX8_as_55 : decode cX8_as 55 = .ok (.ireturn, 1) := by decide +kernel
set_option maxRecDepth 20000 in
theorem ggX8_feed_X8_within : GoodIn wsX8_feed wsX8_within := goodIn_r _ [8] (by decide +kernel) (by decide +kernel)
set_option maxRecDepth 20000 in
theorem gX8_feed_X8_within : GoodIn wsX8_feed (va_wsS RX8 60 yX8_within wsX8_within) := goodIn_app (goodIn_of _ (by decide +kernel)) ggX8_feed_X8_within
set_option maxRecDepth 20000 in
theorem ggX8_feed_X8_error : GoodIn wsX8_feed wsX8_error := goodIn_r _ [12, 13, 14, 5, 6, 7, 8, 22, 23, 24, 25, 26, 27, 28, 29, 30, 31, 32] (by decide +kernel) (by decide +kernel)
set_option maxRecDepth 20000 in
theorem gX8_feed_X8_error : GoodIn wsX8_feed (wsV RX8 64 RX8 yX8_error wsX8_error) := goodIn_app (goodIn_of _ (by decide +kernel)) ggX8_feed_X8_error
set_option maxRecDepth 20000 in
theorem ggX8_feed_X4_add : GoodIn wsX8_feed wsX4_add := goodIn_r _ [19, 20, 21, 52, 53] (by decide +kernel) (by decide +kernel)
set_option maxRecDepth 20000 in
theorem gX8_feed_X4_add : GoodIn wsX8_feed (wsV RX8 163 RX4 yX4_add wsX4_add) := goodIn_app (goodIn_of _ (by decide +kernel)) ggX8_feed_X4_add
theorem dX8_feed_0 : decode cX8_feed 0 = .ok (.iload_n 3, 1) := by decide +kernel
theorem dX8_feed_1 : decode cX8_feed 1 = .ok (.iconst 1, 1) := by decide +kernel
theorem dX8_feed_2 : decode cX8_feed 2 = .ok (.bipush 8, 2) := by decide +kernel
theorem dX8_feed_4 : decode cX8_feed 4 = .ok (.invokestatic 60, 3) := by decide +kernel
theorem dX8_feed_7 : decode cX8_feed 7 = .ok (.ifCond .ne 9, 3) := by decide +kernel
theorem dX8_feed_10 : decode cX8_feed 10 = .ok (.aload_n 0, 1) := by decide +kernel
theorem dX8_feed_11 : decode cX8_feed 11 = .ok (.iconst 1, 1) := by decide +kernel
theorem dX8_feed_12 : decode cX8_feed 12 = .ok (.invokevirtual 64, 3) := by decide +kernel
theorem dX8_feed_15 : decode cX8_feed 15 = .ok (.ireturn, 1) := by decide +kernel
theorem dX8_feed_16 : decode cX8_feed 16 = .ok (.aload_n 0, 1) := by decide +kernel
theorem dX8_feed_17 : decode cX8_feed 17 = .ok (.getfield 10, 3) := by decide +kernel
theorem dX8_feed_20 : decode cX8_feed 20 = .ok (.getfield 152, 3) := by decide +kernel
theorem dX8_feed_23 : decode cX8_feed 23 = .ok (.getfield 156, 3) := by decide +kernel
theorem dX8_feed_26 : decode cX8_feed 26 = .ok (.iload_n 3, 1) := by decide +kernel
theorem dX8_feed_27 : decode cX8_feed 27 = .ok (.iadd, 1) := by decide +kernel
theorem dX8_feed_28 : decode cX8_feed 28 = .ok (.bipush 50, 2) := by decide +kernel
theorem dX8_feed_30 : decode cX8_feed 30 = .ok (.if_icmp .le 9, 3) := by decide +kernel
theorem dX8_feed_33 : decode cX8_feed 33 = .ok (.aload_n 0, 1) := by decide +kernel
theorem dX8_feed_34 : decode cX8_feed 34 = .ok (.iconst 4, 1) := by decide +kernel
theorem dX8_feed_35 : decode cX8_feed 35 = .ok (.invokevirtual 64, 3) := by decide +kernel
theorem dX8_feed_38 : decode cX8_feed 38 = .ok (.ireturn, 1) := by decide +kernel
theorem dX8_feed_39 : decode cX8_feed 39 = .ok (.iconst 0, 1) := by decide +kernel
theorem dX8_feed_40 : decode cX8_feed 40 = .ok (.istore 4, 2) := by decide +kernel
theorem dX8_feed_42 : decode cX8_feed 42 = .ok (.iload 4, 2) := by decide +kernel
theorem dX8_feed_44 : decode cX8_feed 44 = .ok (.iload_n 3, 1) := by decide +kernel
theorem dX8_feed_45 : decode cX8_feed 45 = .ok (.if_icmp .ge 31, 3) := by decide +kernel
theorem dX8_feed_48 : decode cX8_feed 48 = .ok (.aload_n 0, 1) := by decide +kernel
theorem dX8_feed_49 : decode cX8_feed 49 = .ok (.getfield 10, 3) := by decide +kernel
theorem dX8_feed_52 : decode cX8_feed 52 = .ok (.getfield 152, 3) := by decide +kernel
theorem dX8_feed_55 : decode cX8_feed 55 = .ok (.lload_n 1, 1) := by decide +kernel
theorem dX8_feed_56 : decode cX8_feed 56 = .ok (.bipush 8, 2) := by decide +kernel
theorem dX8_feed_58 : decode cX8_feed 58 = .ok (.iload 4, 2) := by decide +kernel
theorem dX8_feed_60 : decode cX8_feed 60 = .ok (.imul, 1) := by decide +kernel
theorem dX8_feed_61 : decode cX8_feed 61 = .ok (.lushr, 1) := by decide +kernel
theorem dX8_feed_62 : decode cX8_feed 62 = .ok (.ldc2_w 161, 3) := by decide +kernel
theorem dX8_feed_65 : decode cX8_feed 65 = .ok (.land, 1) := by decide +kernel
theorem dX8_feed_66 : decode cX8_feed 66 = .ok (.l2i, 1) := by decide +kernel
theorem dX8_feed_67 : decode cX8_feed 67 = .ok (.invokevirtual 163, 3) := by decide +kernel
theorem dX8_feed_70 : decode cX8_feed 70 = .ok (.iinc 4 1, 3) := by decide +kernel
theorem dX8_feed_73 : decode cX8_feed 73 = .ok (.goto (-31), 3) := by decide +kernel
theorem dX8_feed_76 : decode cX8_feed 76 = .ok (.aload_n 0, 1) := by decide +kernel
theorem dX8_feed_77 : decode cX8_feed 77 = .ok (.getfield 10, 3) := by decide +kernel
theorem dX8_feed_80 : decode cX8_feed 80 = .ok (.getfield 152, 3) := by decide +kernel
theorem dX8_feed_83 : decode cX8_feed 83 = .ok (.getfield 156, 3) := by decide +kernel
theorem dX8_feed_86 : decode cX8_feed 86 = .ok (.ireturn, 1) := by decide +kernel
set_option maxRecDepth 20000 in
theorem ggX8_text_X8_within : GoodIn wsX8_text wsX8_within := goodIn_r _ [9] (by decide +kernel) (by decide +kernel)
set_option maxRecDepth 20000 in
theorem gX8_text_X8_within : GoodIn wsX8_text (va_wsS RX8 60 yX8_within wsX8_within) := goodIn_app (goodIn_of _ (by decide +kernel)) ggX8_text_X8_within
set_option maxRecDepth 20000 in
theorem ggX8_text_X8_error : GoodIn wsX8_text wsX8_error := goodIn_r _ [13, 14, 15, 6, 7, 8, 9, 215, 216, 217, 218, 219, 220, 221, 222, 223, 224, 225] (by decide +kernel) (by decide +kernel)
set_option maxRecDepth 20000 in
theorem gX8_text_X8_error : GoodIn wsX8_text (wsV RX8 64 RX8 yX8_error wsX8_error) := goodIn_app (goodIn_of _ (by decide +kernel)) ggX8_text_X8_error
set_option maxRecDepth 20000 in
theorem ggX8_text_X3_faultOf : GoodIn wsX8_text wsX3_faultOf := goodIn_r _ [20, 21, 22, 23, 24, 25, 26, 27, 28, 29, 30, 31, 32, 33, 34, 35, 36, 37, 38, 39, 40, 41, 19, 42, 43, 44, 45, 46, 47, 48, 49, 50, 51, 52, 53, 54, 55, 56, 57, 58, 59, 60, 61, 62, 63, 64, 65, 66, 67, 68, 69, 70, 71, 72, 73, 74, 75, 76, 77, 78, 79, 80, 81, 82, 83, 84, 85, 86, 87, 88, 89, 90, 91, 92, 93, 94, 95, 96, 97, 98, 99, 100, 101, 102, 103, 104, 105, 106, 107, 108, 109, 110, 111, 112, 113, 114, 115, 116, 117, 118, 119, 120, 121, 122, 123, 124, 125, 126, 127, 128, 129, 130, 131, 132, 133, 134, 135, 136, 137, 138, 139, 140, 141, 142, 143, 144, 145, 146, 147, 148, 149, 150, 151, 152, 153, 154, 155, 156, 157, 158, 159, 160, 161, 162, 163, 164, 165, 166, 167, 168, 169, 170, 171, 172, 173, 174, 175, 176, 177, 178, 179, 180, 245, 246, 247, 248, 249, 250, 251, 252, 253] (by decide +kernel) (by decide +kernel)
set_option maxRecDepth 20000 in
theorem gX8_text_X3_faultOf : GoodIn wsX8_text (wsV RX8 170 RX3 yX3_faultOf wsX3_faultOf) := goodIn_app (goodIn_of _ (by decide +kernel)) ggX8_text_X3_faultOf
set_option maxRecDepth 20000 in
theorem ggX8_text_X4_clear : GoodIn wsX8_text wsX4_clear := goodIn_r _ [32, 33, 252, 253] (by decide +kernel) (by decide +kernel)
set_option maxRecDepth 20000 in
theorem gX8_text_X4_clear : GoodIn wsX8_text (wsV RX8 174 RX4 yX4_clear wsX4_clear) := goodIn_app (goodIn_of _ (by decide +kernel)) ggX8_text_X4_clear
set_option maxRecDepth 20000 in
theorem ggX8_text_X3_textRead : GoodIn wsX8_text wsX3_textRead := goodIn_r _ [185, 186, 187, 188, 22, 189, 190, 191, 192, 193, 194, 195, 196, 197, 198, 199, 200, 201, 202, 203, 204, 205, 206, 207, 208, 209, 210, 110, 107, 111, 211, 212, 213, 214, 254, 255, 245, 246, 247, 248, 249, 250, 251, 252, 253] (by decide +kernel) (by decide +kernel)
set_option maxRecDepth 20000 in
theorem gX8_text_X3_textRead : GoodIn wsX8_text (wsV RX8 177 RX3 yX3_textRead wsX3_textRead) := goodIn_app (goodIn_of _ (by decide +kernel)) ggX8_text_X3_textRead
theorem dX8_text_0 : decode cX8_text 0 = .ok (.iload_n 1, 1) := by decide +kernel
theorem dX8_text_1 : decode cX8_text 1 = .ok (.iconst 0, 1) := by decide +kernel
theorem dX8_text_2 : decode cX8_text 2 = .ok (.iconst 1, 1) := by decide +kernel
theorem dX8_text_3 : decode cX8_text 3 = .ok (.invokestatic 60, 3) := by decide +kernel
theorem dX8_text_6 : decode cX8_text 6 = .ok (.ifCond .ne 9, 3) := by decide +kernel
theorem dX8_text_9 : decode cX8_text 9 = .ok (.aload_n 0, 1) := by decide +kernel
theorem dX8_text_10 : decode cX8_text 10 = .ok (.iconst 1, 1) := by decide +kernel
theorem dX8_text_11 : decode cX8_text 11 = .ok (.invokevirtual 64, 3) := by decide +kernel
theorem dX8_text_14 : decode cX8_text 14 = .ok (.ireturn, 1) := by decide +kernel
theorem dX8_text_15 : decode cX8_text 15 = .ok (.aload_n 0, 1) := by decide +kernel
theorem dX8_text_16 : decode cX8_text 16 = .ok (.getfield 25, 3) := by decide +kernel
theorem dX8_text_19 : decode cX8_text 19 = .ok (.aload_n 0, 1) := by decide +kernel
theorem dX8_text_20 : decode cX8_text 20 = .ok (.getfield 10, 3) := by decide +kernel
theorem dX8_text_23 : decode cX8_text 23 = .ok (.getfield 152, 3) := by decide +kernel
theorem dX8_text_26 : decode cX8_text 26 = .ok (.iload_n 1, 1) := by decide +kernel
theorem dX8_text_27 : decode cX8_text 27 = .ok (.ifCond .ne 8, 3) := by decide +kernel
theorem dX8_text_30 : decode cX8_text 30 = .ok (.ldc 166, 2) := by decide +kernel
theorem dX8_text_32 : decode cX8_text 32 = .ok (.goto 5, 3) := by decide +kernel
theorem dX8_text_35 : decode cX8_text 35 = .ok (.ldc 168, 2) := by decide +kernel
theorem dX8_text_37 : decode cX8_text 37 = .ok (.invokevirtual 170, 3) := by decide +kernel
theorem dX8_text_40 : decode cX8_text 40 = .ok (.istore_n 2, 1) := by decide +kernel
theorem dX8_text_41 : decode cX8_text 41 = .ok (.aload_n 0, 1) := by decide +kernel
theorem dX8_text_42 : decode cX8_text 42 = .ok (.getfield 10, 3) := by decide +kernel
theorem dX8_text_45 : decode cX8_text 45 = .ok (.getfield 152, 3) := by decide +kernel
theorem dX8_text_48 : decode cX8_text 48 = .ok (.invokevirtual 174, 3) := by decide +kernel
theorem dX8_text_51 : decode cX8_text 51 = .ok (.iload_n 2, 1) := by decide +kernel
theorem dX8_text_52 : decode cX8_text 52 = .ok (.ifCond .lt 8, 3) := by decide +kernel
theorem dX8_text_55 : decode cX8_text 55 = .ok (.bipush (-10), 2) := by decide +kernel
theorem dX8_text_57 : decode cX8_text 57 = .ok (.iload_n 2, 1) := by decide +kernel
theorem dX8_text_58 : decode cX8_text 58 = .ok (.isub, 1) := by decide +kernel
theorem dX8_text_59 : decode cX8_text 59 = .ok (.ireturn, 1) := by decide +kernel
theorem dX8_text_60 : decode cX8_text 60 = .ok (.iload_n 1, 1) := by decide +kernel
theorem dX8_text_61 : decode cX8_text 61 = .ok (.ifCond .ne 20, 3) := by decide +kernel
theorem dX8_text_64 : decode cX8_text 64 = .ok (.aload_n 0, 1) := by decide +kernel
theorem dX8_text_65 : decode cX8_text 65 = .ok (.getfield 10, 3) := by decide +kernel
theorem dX8_text_68 : decode cX8_text 68 = .ok (.aload_n 0, 1) := by decide +kernel
theorem dX8_text_69 : decode cX8_text 69 = .ok (.getfield 25, 3) := by decide +kernel
theorem dX8_text_72 : decode cX8_text 72 = .ok (.invokevirtual 177, 3) := by decide +kernel
theorem dX8_text_75 : decode cX8_text 75 = .ok (.putfield 181, 3) := by decide +kernel
theorem dX8_text_78 : decode cX8_text 78 = .ok (.goto 17, 3) := by decide +kernel
theorem dX8_text_81 : decode cX8_text 81 = .ok (.aload_n 0, 1) := by decide +kernel
theorem dX8_text_82 : decode cX8_text 82 = .ok (.getfield 10, 3) := by decide +kernel
theorem dX8_text_85 : decode cX8_text 85 = .ok (.aload_n 0, 1) := by decide +kernel
theorem dX8_text_86 : decode cX8_text 86 = .ok (.getfield 25, 3) := by decide +kernel
theorem dX8_text_89 : decode cX8_text 89 = .ok (.invokevirtual 177, 3) := by decide +kernel
theorem dX8_text_92 : decode cX8_text 92 = .ok (.putfield 185, 3) := by decide +kernel
theorem dX8_text_95 : decode cX8_text 95 = .ok (.iconst 1, 1) := by decide +kernel
theorem dX8_text_96 : decode cX8_text 96 = .ok (.ireturn, 1) := by decide +kernel
set_option maxRecDepth 20000 in
theorem ggX8_law_X8_within : GoodIn wsX8_law wsX8_within := goodIn_r _ [5] (by decide +kernel) (by decide +kernel)
set_option maxRecDepth 20000 in
theorem gX8_law_X8_within : GoodIn wsX8_law (va_wsS RX8 60 yX8_within wsX8_within) := goodIn_app (goodIn_of _ (by decide +kernel)) ggX8_law_X8_within
set_option maxRecDepth 20000 in
theorem ggX8_law_X8_error : GoodIn wsX8_law wsX8_error := goodIn_r _ [9, 10, 11, 2, 3, 4, 5, 35, 36, 37, 38, 39, 40, 41, 42, 43, 44, 45] (by decide +kernel) (by decide +kernel)
set_option maxRecDepth 20000 in
theorem gX8_law_X8_error : GoodIn wsX8_law (wsV RX8 64 RX8 yX8_error wsX8_error) := goodIn_app (goodIn_of _ (by decide +kernel)) ggX8_law_X8_error
set_option maxRecDepth 20000 in
theorem ggX8_law_X0_sightGiven : GoodIn wsX8_law wsX0_sightGiven := goodIn_r _ [16, 17, 18, 19, 20, 21, 22, 23, 24, 25, 26, 27, 28, 4, 29, 46, 47, 48, 49, 50, 51, 52, 53, 54, 55, 56, 57, 58, 59, 60, 61, 62, 63, 64, 65, 66] (by decide +kernel) (by decide +kernel)
set_option maxRecDepth 20000 in
theorem gX8_law_X0_sightGiven : GoodIn wsX8_law (wsV RX8 188 RX0 yX0_sightGiven wsX0_sightGiven) := goodIn_app (goodIn_of _ (by decide +kernel)) ggX8_law_X0_sightGiven
set_option maxRecDepth 20000 in
theorem ggX8_law_X0_theftGiven : GoodIn wsX8_law wsX0_theftGiven := goodIn_r _ [33, 34, 18, 19, 20, 21, 22, 23, 24, 25, 26, 27, 28, 4, 29, 46, 47, 48, 49, 50, 51, 52, 53, 54, 55, 56, 57, 58, 59, 60, 61, 62, 63, 64, 65, 66] (by decide +kernel) (by decide +kernel)
set_option maxRecDepth 20000 in
theorem gX8_law_X0_theftGiven : GoodIn wsX8_law (wsV RX8 191 RX0 yX0_theftGiven wsX0_theftGiven) := goodIn_app (goodIn_of _ (by decide +kernel)) ggX8_law_X0_theftGiven
theorem dX8_law_0 : decode cX8_law 0 = .ok (.iload_n 1, 1) := by decide +kernel
theorem dX8_law_1 : decode cX8_law 1 = .ok (.iconst 0, 1) := by decide +kernel
theorem dX8_law_2 : decode cX8_law 2 = .ok (.iconst 1, 1) := by decide +kernel
theorem dX8_law_3 : decode cX8_law 3 = .ok (.invokestatic 60, 3) := by decide +kernel
theorem dX8_law_6 : decode cX8_law 6 = .ok (.ifCond .ne 9, 3) := by decide +kernel
theorem dX8_law_9 : decode cX8_law 9 = .ok (.aload_n 0, 1) := by decide +kernel
theorem dX8_law_10 : decode cX8_law 10 = .ok (.iconst 1, 1) := by decide +kernel
theorem dX8_law_11 : decode cX8_law 11 = .ok (.invokevirtual 64, 3) := by decide +kernel
theorem dX8_law_14 : decode cX8_law 14 = .ok (.ireturn, 1) := by decide +kernel
theorem dX8_law_15 : decode cX8_law 15 = .ok (.iload_n 1, 1) := by decide +kernel
theorem dX8_law_16 : decode cX8_law 16 = .ok (.ifCond .ne 17, 3) := by decide +kernel
theorem dX8_law_19 : decode cX8_law 19 = .ok (.aload_n 0, 1) := by decide +kernel
theorem dX8_law_20 : decode cX8_law 20 = .ok (.getfield 10, 3) := by decide +kernel
theorem dX8_law_23 : decode cX8_law 23 = .ok (.iload_n 2, 1) := by decide +kernel
theorem dX8_law_24 : decode cX8_law 24 = .ok (.iload_n 3, 1) := by decide +kernel
theorem dX8_law_25 : decode cX8_law 25 = .ok (.iload 4, 2) := by decide +kernel
theorem dX8_law_27 : decode cX8_law 27 = .ok (.invokevirtual 188, 3) := by decide +kernel
theorem dX8_law_30 : decode cX8_law 30 = .ok (.goto 14, 3) := by decide +kernel
theorem dX8_law_33 : decode cX8_law 33 = .ok (.aload_n 0, 1) := by decide +kernel
theorem dX8_law_34 : decode cX8_law 34 = .ok (.getfield 10, 3) := by decide +kernel
theorem dX8_law_37 : decode cX8_law 37 = .ok (.iload_n 2, 1) := by decide +kernel
theorem dX8_law_38 : decode cX8_law 38 = .ok (.iload_n 3, 1) := by decide +kernel
theorem dX8_law_39 : decode cX8_law 39 = .ok (.iload 4, 2) := by decide +kernel
theorem dX8_law_41 : decode cX8_law 41 = .ok (.invokevirtual 191, 3) := by decide +kernel
theorem dX8_law_44 : decode cX8_law 44 = .ok (.ireturn, 1) := by decide +kernel
set_option maxRecDepth 20000 in
theorem ggX8_hours_X8_within : GoodIn wsX8_hours wsX8_within := goodIn_r _ [6] (by decide +kernel) (by decide +kernel)
set_option maxRecDepth 20000 in
theorem gX8_hours_X8_within : GoodIn wsX8_hours (va_wsS RX8 60 yX8_within wsX8_within) := goodIn_app (goodIn_of _ (by decide +kernel)) ggX8_hours_X8_within
set_option maxRecDepth 20000 in
theorem ggX8_hours_X8_error : GoodIn wsX8_hours wsX8_error := goodIn_r _ [10, 11, 12, 3, 4, 5, 6, 113, 114, 115, 116, 117, 118, 119, 120, 121, 122, 123] (by decide +kernel) (by decide +kernel)
set_option maxRecDepth 20000 in
theorem gX8_hours_X8_error : GoodIn wsX8_hours (wsV RX8 64 RX8 yX8_error wsX8_error) := goodIn_app (goodIn_of _ (by decide +kernel)) ggX8_hours_X8_error
set_option maxRecDepth 20000 in
theorem ggX8_hours_X0_passHour : GoodIn wsX8_hours wsX0_passHour := goodIn_r _ [17, 18, 19, 20, 21, 22, 23, 24, 25, 26, 27, 28, 29, 30, 16, 31, 32, 33, 34, 35, 36, 37, 38, 39, 40, 41, 42, 43, 44, 45, 46, 47, 48, 49, 50, 51, 52, 53, 54, 55, 56, 57, 58, 59, 60, 61, 62, 63, 64, 65, 66, 5, 67, 68, 69, 70, 71, 72, 73, 74, 75, 76, 77, 78, 79, 80, 81, 82, 83, 84, 85, 86, 87, 88, 89, 90, 91, 4, 6, 92, 93, 94, 95, 96, 97, 98, 99, 100, 101, 102, 103, 104, 124, 125, 126, 127, 128, 129, 130, 131, 132, 133, 134, 135, 136, 137, 138, 139, 140, 141, 142, 143, 144] (by decide +kernel) (by decide +kernel)
set_option maxRecDepth 20000 in
theorem gX8_hours_X0_passHour : GoodIn wsX8_hours (wsV RX8 194 RX0 yX0_passHour wsX0_passHour) := goodIn_app (goodIn_of _ (by decide +kernel)) ggX8_hours_X0_passHour
set_option maxRecDepth 20000 in
theorem ggX8_hours_X0_together : GoodIn wsX8_hours wsX0_together := goodIn_r _ [108, 37, 109, 110, 111, 16, 112, 20, 75, 5, 76, 124, 125, 126, 127, 128, 129, 130, 131, 132, 133, 134, 135, 136, 137, 138, 139, 140, 141, 142] (by decide +kernel) (by decide +kernel)
set_option maxRecDepth 20000 in
theorem gX8_hours_X0_together : GoodIn wsX8_hours (wsV RX8 197 RX0 yX0_together wsX0_together) := goodIn_app (goodIn_of _ (by decide +kernel)) ggX8_hours_X0_together
theorem dX8_hours_0 : decode cX8_hours 0 = .ok (.iload_n 1, 1) := by decide +kernel
theorem dX8_hours_1 : decode cX8_hours 1 = .ok (.iconst 1, 1) := by decide +kernel
theorem dX8_hours_2 : decode cX8_hours 2 = .ok (.bipush 50, 2) := by decide +kernel
theorem dX8_hours_4 : decode cX8_hours 4 = .ok (.invokestatic 60, 3) := by decide +kernel
theorem dX8_hours_7 : decode cX8_hours 7 = .ok (.ifCond .ne 9, 3) := by decide +kernel
theorem dX8_hours_10 : decode cX8_hours 10 = .ok (.aload_n 0, 1) := by decide +kernel
theorem dX8_hours_11 : decode cX8_hours 11 = .ok (.iconst 1, 1) := by decide +kernel
theorem dX8_hours_12 : decode cX8_hours 12 = .ok (.invokevirtual 64, 3) := by decide +kernel
theorem dX8_hours_15 : decode cX8_hours 15 = .ok (.ireturn, 1) := by decide +kernel
theorem dX8_hours_16 : decode cX8_hours 16 = .ok (.aload_n 0, 1) := by decide +kernel
theorem dX8_hours_17 : decode cX8_hours 17 = .ok (.getfield 10, 3) := by decide +kernel
theorem dX8_hours_20 : decode cX8_hours 20 = .ok (.getfield 130, 3) := by decide +kernel
theorem dX8_hours_23 : decode cX8_hours 23 = .ok (.iload_n 1, 1) := by decide +kernel
theorem dX8_hours_24 : decode cX8_hours 24 = .ok (.iadd, 1) := by decide +kernel
theorem dX8_hours_25 : decode cX8_hours 25 = .ok (.sipush 9999, 3) := by decide +kernel
theorem dX8_hours_28 : decode cX8_hours 28 = .ok (.if_icmp .le 9, 3) := by decide +kernel
theorem dX8_hours_31 : decode cX8_hours 31 = .ok (.aload_n 0, 1) := by decide +kernel
theorem dX8_hours_32 : decode cX8_hours 32 = .ok (.iconst 3, 1) := by decide +kernel
theorem dX8_hours_33 : decode cX8_hours 33 = .ok (.invokevirtual 64, 3) := by decide +kernel
theorem dX8_hours_36 : decode cX8_hours 36 = .ok (.ireturn, 1) := by decide +kernel
theorem dX8_hours_37 : decode cX8_hours 37 = .ok (.iconst 0, 1) := by decide +kernel
theorem dX8_hours_38 : decode cX8_hours 38 = .ok (.istore_n 2, 1) := by decide +kernel
theorem dX8_hours_39 : decode cX8_hours 39 = .ok (.iload_n 2, 1) := by decide +kernel
theorem dX8_hours_40 : decode cX8_hours 40 = .ok (.iload_n 1, 1) := by decide +kernel
theorem dX8_hours_41 : decode cX8_hours 41 = .ok (.if_icmp .ge 16, 3) := by decide +kernel
theorem dX8_hours_44 : decode cX8_hours 44 = .ok (.aload_n 0, 1) := by decide +kernel
theorem dX8_hours_45 : decode cX8_hours 45 = .ok (.getfield 10, 3) := by decide +kernel
theorem dX8_hours_48 : decode cX8_hours 48 = .ok (.invokevirtual 194, 3) := by decide +kernel
theorem dX8_hours_51 : decode cX8_hours 51 = .ok (.iinc 2 1, 3) := by decide +kernel
theorem dX8_hours_54 : decode cX8_hours 54 = .ok (.goto (-15), 3) := by decide +kernel
theorem dX8_hours_57 : decode cX8_hours 57 = .ok (.aload_n 0, 1) := by decide +kernel
theorem dX8_hours_58 : decode cX8_hours 58 = .ok (.getfield 10, 3) := by decide +kernel
theorem dX8_hours_61 : decode cX8_hours 61 = .ok (.invokevirtual 197, 3) := by decide +kernel
theorem dX8_hours_64 : decode cX8_hours 64 = .ok (.ireturn, 1) := by decide +kernel
set_option maxRecDepth 20000 in
theorem ggX8_loose_X8_within : GoodIn wsX8_loose wsX8_within := goodIn_r _ [6] (by decide +kernel) (by decide +kernel)
set_option maxRecDepth 20000 in
theorem gX8_loose_X8_within : GoodIn wsX8_loose (va_wsS RX8 60 yX8_within wsX8_within) := goodIn_app (goodIn_of _ (by decide +kernel)) ggX8_loose_X8_within
set_option maxRecDepth 20000 in
theorem ggX8_loose_X8_error : GoodIn wsX8_loose wsX8_error := goodIn_r _ [10, 11, 12, 3, 4, 5, 6, 123, 124, 125, 126, 127, 128, 129, 130, 131, 132, 133] (by decide +kernel) (by decide +kernel)
set_option maxRecDepth 20000 in
theorem gX8_loose_X8_error : GoodIn wsX8_loose (wsV RX8 64 RX8 yX8_error wsX8_error) := goodIn_app (goodIn_of _ (by decide +kernel)) ggX8_loose_X8_error
set_option maxRecDepth 20000 in
theorem ggX8_loose_X0_turnOneByDraws : GoodIn wsX8_loose wsX0_turnOneByDraws := goodIn_r _ [17, 18, 19, 20, 21, 22, 16, 23, 24, 25, 134, 135, 136, 137, 138, 139, 140, 141, 142, 143, 144, 145, 146, 147, 148, 149, 150, 151, 152] (by decide +kernel) (by decide +kernel)
set_option maxRecDepth 20000 in
theorem gX8_loose_X0_turnOneByDraws : GoodIn wsX8_loose (wsV RX8 201 RX0 yX0_turnOneByDraws wsX0_turnOneByDraws) := goodIn_app (goodIn_of _ (by decide +kernel)) ggX8_loose_X0_turnOneByDraws
set_option maxRecDepth 20000 in
theorem ggX8_loose_X0_passHour : GoodIn wsX8_loose wsX0_passHour := goodIn_r _ [29, 18, 30, 31, 32, 33, 34, 35, 36, 37, 38, 39, 40, 41, 16, 42, 43, 44, 45, 46, 47, 48, 49, 50, 51, 52, 53, 54, 55, 56, 57, 58, 59, 60, 61, 62, 63, 64, 65, 66, 67, 68, 69, 70, 71, 72, 73, 74, 75, 76, 77, 5, 78, 79, 80, 81, 82, 83, 84, 85, 86, 87, 88, 89, 90, 91, 92, 93, 94, 95, 96, 97, 98, 99, 100, 101, 102, 4, 6, 103, 104, 105, 106, 107, 108, 109, 110, 111, 112, 113, 114, 19, 134, 135, 136, 137, 138, 139, 140, 141, 142, 143, 144, 145, 146, 147, 148, 149, 150, 151, 152, 153, 154] (by decide +kernel) (by decide +kernel)
set_option maxRecDepth 20000 in
theorem gX8_loose_X0_passHour : GoodIn wsX8_loose (wsV RX8 194 RX0 yX0_passHour wsX0_passHour) := goodIn_app (goodIn_of _ (by decide +kernel)) ggX8_loose_X0_passHour
set_option maxRecDepth 20000 in
theorem ggX8_loose_X0_together : GoodIn wsX8_loose wsX0_together := goodIn_r _ [118, 48, 119, 120, 121, 16, 122, 31, 86, 5, 87, 134, 135, 136, 137, 138, 139, 140, 141, 142, 143, 144, 145, 146, 147, 148, 149, 150, 151, 152] (by decide +kernel) (by decide +kernel)
set_option maxRecDepth 20000 in
theorem gX8_loose_X0_together : GoodIn wsX8_loose (wsV RX8 197 RX0 yX0_together wsX0_together) := goodIn_app (goodIn_of _ (by decide +kernel)) ggX8_loose_X0_together
theorem dX8_loose_0 : decode cX8_loose 0 = .ok (.iload_n 1, 1) := by decide +kernel
theorem dX8_loose_1 : decode cX8_loose 1 = .ok (.iconst 1, 1) := by decide +kernel
theorem dX8_loose_2 : decode cX8_loose 2 = .ok (.bipush 40, 2) := by decide +kernel
theorem dX8_loose_4 : decode cX8_loose 4 = .ok (.invokestatic 60, 3) := by decide +kernel
theorem dX8_loose_7 : decode cX8_loose 7 = .ok (.ifCond .ne 9, 3) := by decide +kernel
theorem dX8_loose_10 : decode cX8_loose 10 = .ok (.aload_n 0, 1) := by decide +kernel
theorem dX8_loose_11 : decode cX8_loose 11 = .ok (.iconst 1, 1) := by decide +kernel
theorem dX8_loose_12 : decode cX8_loose 12 = .ok (.invokevirtual 64, 3) := by decide +kernel
theorem dX8_loose_15 : decode cX8_loose 15 = .ok (.ireturn, 1) := by decide +kernel
theorem dX8_loose_16 : decode cX8_loose 16 = .ok (.aload_n 0, 1) := by decide +kernel
theorem dX8_loose_17 : decode cX8_loose 17 = .ok (.getfield 10, 3) := by decide +kernel
theorem dX8_loose_20 : decode cX8_loose 20 = .ok (.getfield 130, 3) := by decide +kernel
theorem dX8_loose_23 : decode cX8_loose 23 = .ok (.iload_n 1, 1) := by decide +kernel
theorem dX8_loose_24 : decode cX8_loose 24 = .ok (.iadd, 1) := by decide +kernel
theorem dX8_loose_25 : decode cX8_loose 25 = .ok (.sipush 9999, 3) := by decide +kernel
theorem dX8_loose_28 : decode cX8_loose 28 = .ok (.if_icmp .le 9, 3) := by decide +kernel
theorem dX8_loose_31 : decode cX8_loose 31 = .ok (.aload_n 0, 1) := by decide +kernel
theorem dX8_loose_32 : decode cX8_loose 32 = .ok (.iconst 3, 1) := by decide +kernel
theorem dX8_loose_33 : decode cX8_loose 33 = .ok (.invokevirtual 64, 3) := by decide +kernel
theorem dX8_loose_36 : decode cX8_loose 36 = .ok (.ireturn, 1) := by decide +kernel
theorem dX8_loose_37 : decode cX8_loose 37 = .ok (.iconst 0, 1) := by decide +kernel
theorem dX8_loose_38 : decode cX8_loose 38 = .ok (.istore_n 2, 1) := by decide +kernel
theorem dX8_loose_39 : decode cX8_loose 39 = .ok (.iload_n 2, 1) := by decide +kernel
theorem dX8_loose_40 : decode cX8_loose 40 = .ok (.iload_n 1, 1) := by decide +kernel
theorem dX8_loose_41 : decode cX8_loose 41 = .ok (.if_icmp .ge 23, 3) := by decide +kernel
theorem dX8_loose_44 : decode cX8_loose 44 = .ok (.aload_n 0, 1) := by decide +kernel
theorem dX8_loose_45 : decode cX8_loose 45 = .ok (.getfield 10, 3) := by decide +kernel
theorem dX8_loose_48 : decode cX8_loose 48 = .ok (.invokevirtual 201, 3) := by decide +kernel
theorem dX8_loose_51 : decode cX8_loose 51 = .ok (.aload_n 0, 1) := by decide +kernel
theorem dX8_loose_52 : decode cX8_loose 52 = .ok (.getfield 10, 3) := by decide +kernel
theorem dX8_loose_55 : decode cX8_loose 55 = .ok (.invokevirtual 194, 3) := by decide +kernel
theorem dX8_loose_58 : decode cX8_loose 58 = .ok (.iinc 2 1, 3) := by decide +kernel
theorem dX8_loose_61 : decode cX8_loose 61 = .ok (.goto (-22), 3) := by decide +kernel
theorem dX8_loose_64 : decode cX8_loose 64 = .ok (.aload_n 0, 1) := by decide +kernel
theorem dX8_loose_65 : decode cX8_loose 65 = .ok (.getfield 10, 3) := by decide +kernel
theorem dX8_loose_68 : decode cX8_loose 68 = .ok (.invokevirtual 197, 3) := by decide +kernel
theorem dX8_loose_71 : decode cX8_loose 71 = .ok (.ireturn, 1) := by decide +kernel
set_option maxRecDepth 20000 in
theorem ggX8_evening_X0_addUpLeaning : GoodIn wsX8_evening wsX0_addUpLeaning := goodIn_r _ [6, 7, 8, 9, 10, 11, 12, 13, 14, 15, 35, 36, 37, 38, 39, 40, 41, 42, 43, 44, 45, 46, 47, 48, 49, 50, 51, 52, 53] (by decide +kernel) (by decide +kernel)
set_option maxRecDepth 20000 in
theorem gX8_evening_X0_addUpLeaning : GoodIn wsX8_evening (wsV RX8 204 RX0 yX0_addUpLeaning wsX0_addUpLeaning) := goodIn_app (goodIn_of _ (by decide +kernel)) ggX8_evening_X0_addUpLeaning
set_option maxRecDepth 20000 in
theorem ggX8_evening_X0_together : GoodIn wsX8_evening wsX0_together := goodIn_r _ [19, 7, 20, 21, 22, 5, 23, 9, 11, 12, 13, 35, 36, 37, 38, 39, 40, 41, 42, 43, 44, 45, 46, 47, 48, 49, 50, 51, 52, 53] (by decide +kernel) (by decide +kernel)
set_option maxRecDepth 20000 in
theorem gX8_evening_X0_together : GoodIn wsX8_evening (wsV RX8 197 RX0 yX0_together wsX0_together) := goodIn_app (goodIn_of _ (by decide +kernel)) ggX8_evening_X0_together
theorem dX8_evening_0 : decode cX8_evening 0 = .ok (.aload_n 0, 1) := by decide +kernel
theorem dX8_evening_1 : decode cX8_evening 1 = .ok (.getfield 10, 3) := by decide +kernel
theorem dX8_evening_4 : decode cX8_evening 4 = .ok (.invokevirtual 204, 3) := by decide +kernel
theorem dX8_evening_7 : decode cX8_evening 7 = .ok (.aload_n 0, 1) := by decide +kernel
theorem dX8_evening_8 : decode cX8_evening 8 = .ok (.getfield 10, 3) := by decide +kernel
theorem dX8_evening_11 : decode cX8_evening 11 = .ok (.invokevirtual 197, 3) := by decide +kernel
theorem dX8_evening_14 : decode cX8_evening 14 = .ok (.ireturn, 1) := by decide +kernel
set_option maxRecDepth 20000 in
theorem ggX8_hail_X8_within : GoodIn wsX8_hail wsX8_within := goodIn_r _ [5] (by decide +kernel) (by decide +kernel)
set_option maxRecDepth 20000 in
theorem gX8_hail_X8_within : GoodIn wsX8_hail (va_wsS RX8 60 yX8_within wsX8_within) := goodIn_app (goodIn_of _ (by decide +kernel)) ggX8_hail_X8_within
set_option maxRecDepth 20000 in
theorem ggX8_hail_X8_error : GoodIn wsX8_hail wsX8_error := goodIn_r _ [9, 10, 11, 2, 3, 4, 5, 29, 30, 31, 32, 33, 34, 35, 36, 37, 38, 39] (by decide +kernel) (by decide +kernel)
set_option maxRecDepth 20000 in
theorem gX8_hail_X8_error : GoodIn wsX8_hail (wsV RX8 64 RX8 yX8_error wsX8_error) := goodIn_app (goodIn_of _ (by decide +kernel)) ggX8_hail_X8_error
set_option maxRecDepth 20000 in
theorem ggX8_hail_X0_divideGrains : GoodIn wsX8_hail wsX0_divideGrains := goodIn_r _ [16, 17, 18, 40, 41, 42, 43, 44, 45, 46, 47, 48, 49, 50, 51, 52, 53, 54, 55, 56, 57, 58] (by decide +kernel) (by decide +kernel)
set_option maxRecDepth 20000 in
theorem gX8_hail_X0_divideGrains : GoodIn wsX8_hail (wsV RX8 207 RX0 yX0_divideGrains wsX0_divideGrains) := goodIn_app (goodIn_of _ (by decide +kernel)) ggX8_hail_X0_divideGrains
set_option maxRecDepth 20000 in
theorem ggX8_hail_X0_together : GoodIn wsX8_hail wsX0_together := goodIn_r _ [22, 17, 23, 24, 25, 15, 26, 18, 27, 4, 28, 40, 41, 42, 43, 44, 45, 46, 47, 48, 49, 50, 51, 52, 53, 54, 55, 56, 57, 58] (by decide +kernel) (by decide +kernel)
set_option maxRecDepth 20000 in
theorem gX8_hail_X0_together : GoodIn wsX8_hail (wsV RX8 197 RX0 yX0_together wsX0_together) := goodIn_app (goodIn_of _ (by decide +kernel)) ggX8_hail_X0_together
theorem dX8_hail_0 : decode cX8_hail 0 = .ok (.iload_n 1, 1) := by decide +kernel
theorem dX8_hail_1 : decode cX8_hail 1 = .ok (.iconst 2, 1) := by decide +kernel
theorem dX8_hail_2 : decode cX8_hail 2 = .ok (.bipush 9, 2) := by decide +kernel
theorem dX8_hail_4 : decode cX8_hail 4 = .ok (.invokestatic 60, 3) := by decide +kernel
theorem dX8_hail_7 : decode cX8_hail 7 = .ok (.ifCond .ne 9, 3) := by decide +kernel
theorem dX8_hail_10 : decode cX8_hail 10 = .ok (.aload_n 0, 1) := by decide +kernel
theorem dX8_hail_11 : decode cX8_hail 11 = .ok (.iconst 1, 1) := by decide +kernel
theorem dX8_hail_12 : decode cX8_hail 12 = .ok (.invokevirtual 64, 3) := by decide +kernel
theorem dX8_hail_15 : decode cX8_hail 15 = .ok (.ireturn, 1) := by decide +kernel
theorem dX8_hail_16 : decode cX8_hail 16 = .ok (.aload_n 0, 1) := by decide +kernel
theorem dX8_hail_17 : decode cX8_hail 17 = .ok (.getfield 10, 3) := by decide +kernel
theorem dX8_hail_20 : decode cX8_hail 20 = .ok (.iload_n 1, 1) := by decide +kernel
theorem dX8_hail_21 : decode cX8_hail 21 = .ok (.invokevirtual 207, 3) := by decide +kernel
theorem dX8_hail_24 : decode cX8_hail 24 = .ok (.aload_n 0, 1) := by decide +kernel
theorem dX8_hail_25 : decode cX8_hail 25 = .ok (.getfield 10, 3) := by decide +kernel
theorem dX8_hail_28 : decode cX8_hail 28 = .ok (.invokevirtual 197, 3) := by decide +kernel
theorem dX8_hail_31 : decode cX8_hail 31 = .ok (.ireturn, 1) := by decide +kernel
set_option maxRecDepth 20000 in
theorem ggX8_then_X8_within : GoodIn wsX8_then wsX8_within := goodIn_r _ [9] (by decide +kernel) (by decide +kernel)
set_option maxRecDepth 20000 in
theorem gX8_then_X8_within : GoodIn wsX8_then (va_wsS RX8 60 yX8_within wsX8_within) := goodIn_app (goodIn_of _ (by decide +kernel)) ggX8_then_X8_within
