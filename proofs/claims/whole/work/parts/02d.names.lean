set_option maxRecDepth 20000 in
theorem gX3_closeBracket_X4_last : GoodIn wsX3_closeBracket (wsV RX3 98 RX4 yX4_last wsX4_last) := goodIn_app (goodIn_of _ (by decide +kernel)) ggX3_closeBracket_X4_last
set_option maxRecDepth 20000 in
theorem ggX3_closeBracket_X4_removeLast : GoodIn wsX3_closeBracket wsX4_removeLast := goodIn_r _ [23, 15, 24, 11, 12, 13, 14, 16, 40, 41] (by decide +kernel) (by decide +kernel)
set_option maxRecDepth 20000 in
theorem gX3_closeBracket_X4_removeLast : GoodIn wsX3_closeBracket (wsV RX3 102 RX4 yX4_removeLast wsX4_removeLast) := goodIn_app (goodIn_of _ (by decide +kernel)) ggX3_closeBracket_X4_removeLast
set_option maxRecDepth 20000 in
theorem ggX3_closeBracket_X3_closeNots : GoodIn wsX3_closeBracket wsX3_closeNots := goodIn_r _ [32, 1, 8, 9, 2, 10, 11, 12, 13, 14, 15, 16, 20, 21, 22, 23, 24, 25, 26, 27, 28, 33, 34, 35, 36, 37, 38, 39, 40, 41] (by decide +kernel) (by decide +kernel)
set_option maxRecDepth 20000 in
theorem gX3_closeBracket_X3_closeNots : GoodIn wsX3_closeBracket (wsV RX3 83 RX3 yX3_closeNots wsX3_closeNots) := goodIn_app (goodIn_of _ (by decide +kernel)) ggX3_closeBracket_X3_closeNots
theorem dX3_closeBracket_0 : decode cX3_closeBracket 0 = .ok (.aload_n 0, 1) := by decide +kernel
theorem dX3_closeBracket_1 : decode cX3_closeBracket 1 = .ok (.iconst 1, 1) := by decide +kernel
theorem dX3_closeBracket_2 : decode cX3_closeBracket 2 = .ok (.invokevirtual 57, 3) := by decide +kernel
theorem dX3_closeBracket_5 : decode cX3_closeBracket 5 = .ok (.aload_n 0, 1) := by decide +kernel
theorem dX3_closeBracket_6 : decode cX3_closeBracket 6 = .ok (.getfield 20, 3) := by decide +kernel
theorem dX3_closeBracket_9 : decode cX3_closeBracket 9 = .ok (.invokevirtual 98, 3) := by decide +kernel
theorem dX3_closeBracket_12 : decode cX3_closeBracket 12 = .ok (.bipush 40, 2) := by decide +kernel
theorem dX3_closeBracket_14 : decode cX3_closeBracket 14 = .ok (.if_icmp .eq 5, 3) := by decide +kernel
theorem dX3_closeBracket_17 : decode cX3_closeBracket 17 = .ok (.iconst 0, 1) := by decide +kernel
theorem dX3_closeBracket_18 : decode cX3_closeBracket 18 = .ok (.ireturn, 1) := by decide +kernel
theorem dX3_closeBracket_19 : decode cX3_closeBracket 19 = .ok (.aload_n 0, 1) := by decide +kernel
theorem dX3_closeBracket_20 : decode cX3_closeBracket 20 = .ok (.getfield 20, 3) := by decide +kernel
theorem dX3_closeBracket_23 : decode cX3_closeBracket 23 = .ok (.invokevirtual 102, 3) := by decide +kernel
theorem dX3_closeBracket_26 : decode cX3_closeBracket 26 = .ok (.pop, 1) := by decide +kernel
theorem dX3_closeBracket_27 : decode cX3_closeBracket 27 = .ok (.aload_n 0, 1) := by decide +kernel
theorem dX3_closeBracket_28 : decode cX3_closeBracket 28 = .ok (.dup, 1) := by decide +kernel
theorem dX3_closeBracket_29 : decode cX3_closeBracket 29 = .ok (.getfield 32, 3) := by decide +kernel
theorem dX3_closeBracket_32 : decode cX3_closeBracket 32 = .ok (.iconst 1, 1) := by decide +kernel
theorem dX3_closeBracket_33 : decode cX3_closeBracket 33 = .ok (.isub, 1) := by decide +kernel
theorem dX3_closeBracket_34 : decode cX3_closeBracket 34 = .ok (.putfield 32, 3) := by decide +kernel
theorem dX3_closeBracket_37 : decode cX3_closeBracket 37 = .ok (.aload_n 0, 1) := by decide +kernel
theorem dX3_closeBracket_38 : decode cX3_closeBracket 38 = .ok (.invokevirtual 83, 3) := by decide +kernel
theorem dX3_closeBracket_41 : decode cX3_closeBracket 41 = .ok (.iconst 1, 1) := by decide +kernel
theorem dX3_closeBracket_42 : decode cX3_closeBracket 42 = .ok (.ireturn, 1) := by decide +kernel
set_option maxRecDepth 20000 in
theorem ggX3_closeNots_X4_last : GoodIn wsX3_closeNots wsX4_last := goodIn_r _ [9, 10, 11, 28, 29] (by decide +kernel) (by decide +kernel)
set_option maxRecDepth 20000 in
theorem gX3_closeNots_X4_last : GoodIn wsX3_closeNots (wsV RX3 98 RX4 yX4_last wsX4_last) := goodIn_app (goodIn_of _ (by decide +kernel)) ggX3_closeNots_X4_last
set_option maxRecDepth 20000 in
theorem ggX3_closeNots_X4_removeLast : GoodIn wsX3_closeNots wsX4_removeLast := goodIn_r _ [15, 10, 16, 6, 7, 8, 9, 11, 28, 29] (by decide +kernel) (by decide +kernel)
set_option maxRecDepth 20000 in
theorem gX3_closeNots_X4_removeLast : GoodIn wsX3_closeNots (wsV RX3 102 RX4 yX4_removeLast wsX4_removeLast) := goodIn_app (goodIn_of _ (by decide +kernel)) ggX3_closeNots_X4_removeLast
set_option maxRecDepth 20000 in
theorem ggX3_closeNots_X4_add : GoodIn wsX3_closeNots wsX4_add := goodIn_r _ [20, 10, 11, 28, 29] (by decide +kernel) (by decide +kernel)
set_option maxRecDepth 20000 in
theorem gX3_closeNots_X4_add : GoodIn wsX3_closeNots (wsV RX3 80 RX4 yX4_add wsX4_add) := goodIn_app (goodIn_of _ (by decide +kernel)) ggX3_closeNots_X4_add
theorem dX3_closeNots_0 : decode cX3_closeNots 0 = .ok (.aload_n 0, 1) := by decide +kernel
theorem dX3_closeNots_1 : decode cX3_closeNots 1 = .ok (.getfield 20, 3) := by decide +kernel
theorem dX3_closeNots_4 : decode cX3_closeNots 4 = .ok (.getfield 43, 3) := by decide +kernel
theorem dX3_closeNots_7 : decode cX3_closeNots 7 = .ok (.istore_n 1, 1) := by decide +kernel
theorem dX3_closeNots_8 : decode cX3_closeNots 8 = .ok (.iload_n 1, 1) := by decide +kernel
theorem dX3_closeNots_9 : decode cX3_closeNots 9 = .ok (.ifCond .le 46, 3) := by decide +kernel
theorem dX3_closeNots_12 : decode cX3_closeNots 12 = .ok (.aload_n 0, 1) := by decide +kernel
theorem dX3_closeNots_13 : decode cX3_closeNots 13 = .ok (.getfield 20, 3) := by decide +kernel
theorem dX3_closeNots_16 : decode cX3_closeNots 16 = .ok (.invokevirtual 98, 3) := by decide +kernel
theorem dX3_closeNots_19 : decode cX3_closeNots 19 = .ok (.bipush 33, 2) := by decide +kernel
theorem dX3_closeNots_21 : decode cX3_closeNots 21 = .ok (.if_icmp .ne 34, 3) := by decide +kernel
theorem dX3_closeNots_24 : decode cX3_closeNots 24 = .ok (.aload_n 0, 1) := by decide +kernel
theorem dX3_closeNots_25 : decode cX3_closeNots 25 = .ok (.getfield 14, 3) := by decide +kernel
theorem dX3_closeNots_28 : decode cX3_closeNots 28 = .ok (.aload_n 0, 1) := by decide +kernel
theorem dX3_closeNots_29 : decode cX3_closeNots 29 = .ok (.getfield 20, 3) := by decide +kernel
theorem dX3_closeNots_32 : decode cX3_closeNots 32 = .ok (.invokevirtual 102, 3) := by decide +kernel
theorem dX3_closeNots_35 : decode cX3_closeNots 35 = .ok (.ineg, 1) := by decide +kernel
theorem dX3_closeNots_36 : decode cX3_closeNots 36 = .ok (.invokevirtual 80, 3) := by decide +kernel
theorem dX3_closeNots_39 : decode cX3_closeNots 39 = .ok (.aload_n 0, 1) := by decide +kernel
theorem dX3_closeNots_40 : decode cX3_closeNots 40 = .ok (.dup, 1) := by decide +kernel
theorem dX3_closeNots_41 : decode cX3_closeNots 41 = .ok (.getfield 32, 3) := by decide +kernel
theorem dX3_closeNots_44 : decode cX3_closeNots 44 = .ok (.iconst 1, 1) := by decide +kernel
theorem dX3_closeNots_45 : decode cX3_closeNots 45 = .ok (.isub, 1) := by decide +kernel
theorem dX3_closeNots_46 : decode cX3_closeNots 46 = .ok (.putfield 32, 3) := by decide +kernel
theorem dX3_closeNots_49 : decode cX3_closeNots 49 = .ok (.iinc 1 (-1), 3) := by decide +kernel
theorem dX3_closeNots_52 : decode cX3_closeNots 52 = .ok (.goto (-44), 3) := by decide +kernel
theorem dX3_closeNots_55 : decode cX3_closeNots 55 = .ok (.return_, 1) := by decide +kernel
set_option maxRecDepth 20000 in
theorem ggX3_putDownFrom_X4_last : GoodIn wsX3_putDownFrom wsX4_last := goodIn_r _ [8, 9, 10, 31, 32] (by decide +kernel) (by decide +kernel)
set_option maxRecDepth 20000 in
theorem gX3_putDownFrom_X4_last : GoodIn wsX3_putDownFrom (wsV RX3 98 RX4 yX4_last wsX4_last) := goodIn_app (goodIn_of _ (by decide +kernel)) ggX3_putDownFrom_X4_last
set_option maxRecDepth 20000 in
theorem ggX3_putDownFrom_X3_rankOf : GoodIn wsX3_putDownFrom wsX3_rankOf := goodIn_r _ [14] (by decide +kernel) (by decide +kernel)
set_option maxRecDepth 20000 in
theorem gX3_putDownFrom_X3_rankOf : GoodIn wsX3_putDownFrom (va_wsS RX3 95 yX3_rankOf wsX3_rankOf) := goodIn_app (goodIn_of _ (by decide +kernel)) ggX3_putDownFrom_X3_rankOf
set_option maxRecDepth 20000 in
theorem ggX3_putDownFrom_X4_removeLast : GoodIn wsX3_putDownFrom wsX4_removeLast := goodIn_r _ [18, 9, 19, 5, 6, 7, 8, 10, 31, 32] (by decide +kernel) (by decide +kernel)
set_option maxRecDepth 20000 in
theorem gX3_putDownFrom_X4_removeLast : GoodIn wsX3_putDownFrom (wsV RX3 102 RX4 yX4_removeLast wsX4_removeLast) := goodIn_app (goodIn_of _ (by decide +kernel)) ggX3_putDownFrom_X4_removeLast
set_option maxRecDepth 20000 in
theorem ggX3_putDownFrom_X4_add : GoodIn wsX3_putDownFrom wsX4_add := goodIn_r _ [23, 9, 10, 31, 32] (by decide +kernel) (by decide +kernel)
set_option maxRecDepth 20000 in
theorem gX3_putDownFrom_X4_add : GoodIn wsX3_putDownFrom (wsV RX3 80 RX4 yX4_add wsX4_add) := goodIn_app (goodIn_of _ (by decide +kernel)) ggX3_putDownFrom_X4_add
theorem dX3_putDownFrom_0 : decode cX3_putDownFrom 0 = .ok (.aload_n 0, 1) := by decide +kernel
theorem dX3_putDownFrom_1 : decode cX3_putDownFrom 1 = .ok (.getfield 20, 3) := by decide +kernel
theorem dX3_putDownFrom_4 : decode cX3_putDownFrom 4 = .ok (.getfield 43, 3) := by decide +kernel
theorem dX3_putDownFrom_7 : decode cX3_putDownFrom 7 = .ok (.istore_n 2, 1) := by decide +kernel
theorem dX3_putDownFrom_8 : decode cX3_putDownFrom 8 = .ok (.iload_n 2, 1) := by decide +kernel
theorem dX3_putDownFrom_9 : decode cX3_putDownFrom 9 = .ok (.ifCond .le 38, 3) := by decide +kernel
theorem dX3_putDownFrom_12 : decode cX3_putDownFrom 12 = .ok (.aload_n 0, 1) := by decide +kernel
theorem dX3_putDownFrom_13 : decode cX3_putDownFrom 13 = .ok (.getfield 20, 3) := by decide +kernel
theorem dX3_putDownFrom_16 : decode cX3_putDownFrom 16 = .ok (.invokevirtual 98, 3) := by decide +kernel
theorem dX3_putDownFrom_19 : decode cX3_putDownFrom 19 = .ok (.invokestatic 95, 3) := by decide +kernel
theorem dX3_putDownFrom_22 : decode cX3_putDownFrom 22 = .ok (.iload_n 1, 1) := by decide +kernel
theorem dX3_putDownFrom_23 : decode cX3_putDownFrom 23 = .ok (.if_icmp .lt 24, 3) := by decide +kernel
theorem dX3_putDownFrom_26 : decode cX3_putDownFrom 26 = .ok (.aload_n 0, 1) := by decide +kernel
theorem dX3_putDownFrom_27 : decode cX3_putDownFrom 27 = .ok (.getfield 14, 3) := by decide +kernel
theorem dX3_putDownFrom_30 : decode cX3_putDownFrom 30 = .ok (.aload_n 0, 1) := by decide +kernel
theorem dX3_putDownFrom_31 : decode cX3_putDownFrom 31 = .ok (.getfield 20, 3) := by decide +kernel
theorem dX3_putDownFrom_34 : decode cX3_putDownFrom 34 = .ok (.invokevirtual 102, 3) := by decide +kernel
theorem dX3_putDownFrom_37 : decode cX3_putDownFrom 37 = .ok (.ineg, 1) := by decide +kernel
theorem dX3_putDownFrom_38 : decode cX3_putDownFrom 38 = .ok (.invokevirtual 80, 3) := by decide +kernel
theorem dX3_putDownFrom_41 : decode cX3_putDownFrom 41 = .ok (.iinc 2 (-1), 3) := by decide +kernel
theorem dX3_putDownFrom_44 : decode cX3_putDownFrom 44 = .ok (.goto (-36), 3) := by decide +kernel
theorem dX3_putDownFrom_47 : decode cX3_putDownFrom 47 = .ok (.return_, 1) := by decide +kernel
theorem dX3_rankOf_0 : decode cX3_rankOf 0 = .ok (.iload_n 0, 1) := by decide +kernel
theorem dX3_rankOf_1 : decode cX3_rankOf 1 = .ok (.lookupswitch 101 #[(37, 99), (38, 93), (42, 99), (43, 97), (45, 97), (47, 99), (60, 95), (61, 95), (62, 95), (124, 91)], 91) := by decide +kernel
theorem dX3_rankOf_92 : decode cX3_rankOf 92 = .ok (.iconst 1, 1) := by decide +kernel
theorem dX3_rankOf_93 : decode cX3_rankOf 93 = .ok (.ireturn, 1) := by decide +kernel
theorem dX3_rankOf_94 : decode cX3_rankOf 94 = .ok (.iconst 2, 1) := by decide +kernel
theorem dX3_rankOf_95 : decode cX3_rankOf 95 = .ok (.ireturn, 1) := by decide +kernel
theorem dX3_rankOf_96 : decode cX3_rankOf 96 = .ok (.iconst 3, 1) := by decide +kernel
theorem dX3_rankOf_97 : decode cX3_rankOf 97 = .ok (.ireturn, 1) := by decide +kernel
theorem dX3_rankOf_98 : decode cX3_rankOf 98 = .ok (.iconst 4, 1) := by decide +kernel
theorem dX3_rankOf_99 : decode cX3_rankOf 99 = .ok (.ireturn, 1) := by decide +kernel
theorem dX3_rankOf_100 : decode cX3_rankOf 100 = .ok (.iconst 5, 1) := by decide +kernel
theorem dX3_rankOf_101 : decode cX3_rankOf 101 = .ok (.ireturn, 1) := by decide +kernel
theorem dX3_rankOf_102 : decode cX3_rankOf 102 = .ok (.iconst 0, 1) := by decide +kernel
theorem dX3_rankOf_103 : decode cX3_rankOf 103 = .ok (.ireturn, 1) := by decide +kernel
theorem dX4_init_0 : decode cX4_init 0 = .ok (.aload_n 0, 1) := by decide +kernel
theorem dX4_init_1 : decode cX4_init 1 = .ok (.invokespecial 1, 3) := by decide +kernel
theorem dX4_init_4 : decode cX4_init 4 = .ok (.aload_n 0, 1) := by decide +kernel
theorem dX4_init_5 : decode cX4_init 5 = .ok (.iconst 0, 1) := by decide +kernel
theorem dX4_init_6 : decode cX4_init 6 = .ok (.iload_n 1, 1) := by decide +kernel
theorem dX4_init_7 : decode cX4_init 7 = .ok (.invokestatic 7, 3) := by decide +kernel
theorem dX4_init_10 : decode cX4_init 10 = .ok (.newarray .int, 2) := by decide +kernel
theorem dX4_init_12 : decode cX4_init 12 = .ok (.putfield 13, 3) := by decide +kernel
theorem dX4_init_15 : decode cX4_init 15 = .ok (.return_, 1) := by decide +kernel
theorem dX4_add_0 : decode cX4_add 0 = .ok (.aload_n 0, 1) := by decide +kernel
theorem dX4_add_1 : decode cX4_add 1 = .ok (.getfield 19, 3) := by decide +kernel
theorem dX4_add_4 : decode cX4_add 4 = .ok (.aload_n 0, 1) := by decide +kernel
theorem dX4_add_5 : decode cX4_add 5 = .ok (.getfield 13, 3) := by decide +kernel
theorem dX4_add_8 : decode cX4_add 8 = .ok (.arraylength, 1) := by decide +kernel
theorem dX4_add_9 : decode cX4_add 9 = .ok (.if_icmp .ge 23, 3) := by decide +kernel
theorem dX4_add_12 : decode cX4_add 12 = .ok (.aload_n 0, 1) := by decide +kernel
theorem dX4_add_13 : decode cX4_add 13 = .ok (.getfield 13, 3) := by decide +kernel
theorem dX4_add_16 : decode cX4_add 16 = .ok (.aload_n 0, 1) := by decide +kernel
theorem dX4_add_17 : decode cX4_add 17 = .ok (.getfield 19, 3) := by decide +kernel
theorem dX4_add_20 : decode cX4_add 20 = .ok (.iload_n 1, 1) := by decide +kernel
theorem dX4_add_21 : decode cX4_add 21 = .ok (.iastore, 1) := by decide +kernel
theorem dX4_add_22 : decode cX4_add 22 = .ok (.aload_n 0, 1) := by decide +kernel
theorem dX4_add_23 : decode cX4_add 23 = .ok (.dup, 1) := by decide +kernel
theorem dX4_add_24 : decode cX4_add 24 = .ok (.getfield 19, 3) := by decide +kernel
theorem dX4_add_27 : decode cX4_add 27 = .ok (.iconst 1, 1) := by decide +kernel
theorem dX4_add_28 : decode cX4_add 28 = .ok (.iadd, 1) := by decide +kernel
theorem dX4_add_29 : decode cX4_add 29 = .ok (.putfield 19, 3) := by decide +kernel
theorem dX4_add_32 : decode cX4_add 32 = .ok (.return_, 1) := by decide +kernel
theorem dX4_get_0 : decode cX4_get 0 = .ok (.iload_n 1, 1) := by decide +kernel
theorem dX4_get_1 : decode cX4_get 1 = .ok (.ifCond .lt 20, 3) := by decide +kernel
theorem dX4_get_4 : decode cX4_get 4 = .ok (.iload_n 1, 1) := by decide +kernel
theorem dX4_get_5 : decode cX4_get 5 = .ok (.aload_n 0, 1) := by decide +kernel
theorem dX4_get_6 : decode cX4_get 6 = .ok (.getfield 19, 3) := by decide +kernel
theorem dX4_get_9 : decode cX4_get 9 = .ok (.if_icmp .ge 12, 3) := by decide +kernel
theorem dX4_get_12 : decode cX4_get 12 = .ok (.aload_n 0, 1) := by decide +kernel
theorem dX4_get_13 : decode cX4_get 13 = .ok (.getfield 13, 3) := by decide +kernel
theorem dX4_get_16 : decode cX4_get 16 = .ok (.iload_n 1, 1) := by decide +kernel
theorem dX4_get_17 : decode cX4_get 17 = .ok (.iaload, 1) := by decide +kernel
theorem dX4_get_18 : decode cX4_get 18 = .ok (.goto 4, 3) := by decide +kernel
theorem dX4_get_21 : decode cX4_get 21 = .ok (.iconst 0, 1) := by decide +kernel
theorem dX4_get_22 : decode cX4_get 22 = .ok (.ireturn, 1) := by decide +kernel
theorem dX4_last_0 : decode cX4_last 0 = .ok (.aload_n 0, 1) := by decide +kernel
theorem dX4_last_1 : decode cX4_last 1 = .ok (.getfield 19, 3) := by decide +kernel
theorem dX4_last_4 : decode cX4_last 4 = .ok (.ifCond .le 29, 3) := by decide +kernel
theorem dX4_last_7 : decode cX4_last 7 = .ok (.aload_n 0, 1) := by decide +kernel
theorem dX4_last_8 : decode cX4_last 8 = .ok (.getfield 19, 3) := by decide +kernel
theorem dX4_last_11 : decode cX4_last 11 = .ok (.aload_n 0, 1) := by decide +kernel
theorem dX4_last_12 : decode cX4_last 12 = .ok (.getfield 13, 3) := by decide +kernel
theorem dX4_last_15 : decode cX4_last 15 = .ok (.arraylength, 1) := by decide +kernel
theorem dX4_last_16 : decode cX4_last 16 = .ok (.if_icmp .gt 17, 3) := by decide +kernel
theorem dX4_last_19 : decode cX4_last 19 = .ok (.aload_n 0, 1) := by decide +kernel
theorem dX4_last_20 : decode cX4_last 20 = .ok (.getfield 13, 3) := by decide +kernel
theorem dX4_last_23 : decode cX4_last 23 = .ok (.aload_n 0, 1) := by decide +kernel
theorem dX4_last_24 : decode cX4_last 24 = .ok (.getfield 19, 3) := by decide +kernel
theorem dX4_last_27 : decode cX4_last 27 = .ok (.iconst 1, 1) := by decide +kernel
theorem dX4_last_28 : decode cX4_last 28 = .ok (.isub, 1) := by decide +kernel
theorem dX4_last_29 : decode cX4_last 29 = .ok (.iaload, 1) := by decide +kernel
theorem dX4_last_30 : decode cX4_last 30 = .ok (.goto 4, 3) := by decide +kernel
theorem dX4_last_33 : decode cX4_last 33 = .ok (.iconst 0, 1) := by decide +kernel
theorem dX4_last_34 : decode cX4_last 34 = .ok (.ireturn, 1) := by decide +kernel
set_option maxRecDepth 20000 in
theorem ggX4_removeLast_X4_last : GoodIn wsX4_removeLast wsX4_last := goodIn_r _ [6, 1, 7, 8, 9] (by decide +kernel) (by decide +kernel)
set_option maxRecDepth 20000 in
theorem gX4_removeLast_X4_last : GoodIn wsX4_removeLast (wsV RX4 23 RX4 yX4_last wsX4_last) := goodIn_app (goodIn_of _ (by decide +kernel)) ggX4_removeLast_X4_last
theorem dX4_removeLast_0 : decode cX4_removeLast 0 = .ok (.aload_n 0, 1) := by decide +kernel
theorem dX4_removeLast_1 : decode cX4_removeLast 1 = .ok (.invokevirtual 23, 3) := by decide +kernel
theorem dX4_removeLast_4 : decode cX4_removeLast 4 = .ok (.istore_n 1, 1) := by decide +kernel
theorem dX4_removeLast_5 : decode cX4_removeLast 5 = .ok (.aload_n 0, 1) := by decide +kernel
theorem dX4_removeLast_6 : decode cX4_removeLast 6 = .ok (.getfield 19, 3) := by decide +kernel
theorem dX4_removeLast_9 : decode cX4_removeLast 9 = .ok (.ifCond .le 13, 3) := by decide +kernel
theorem dX4_removeLast_12 : decode cX4_removeLast 12 = .ok (.aload_n 0, 1) := by decide +kernel
theorem dX4_removeLast_13 : decode cX4_removeLast 13 = .ok (.dup, 1) := by decide +kernel
theorem dX4_removeLast_14 : decode cX4_removeLast 14 = .ok (.getfield 19, 3) := by decide +kernel
theorem dX4_removeLast_17 : decode cX4_removeLast 17 = .ok (.iconst 1, 1) := by decide +kernel
theorem dX4_removeLast_18 : decode cX4_removeLast 18 = .ok (.isub, 1) := by decide +kernel
theorem dX4_removeLast_19 : decode cX4_removeLast 19 = .ok (.putfield 19, 3) := by decide +kernel
theorem dX4_removeLast_22 : decode cX4_removeLast 22 = .ok (.iload_n 1, 1) := by decide +kernel
theorem dX4_removeLast_23 : decode cX4_removeLast 23 = .ok (.ireturn, 1) := by decide +kernel
theorem dX4_clear_0 : decode cX4_clear 0 = .ok (.aload_n 0, 1) := by decide +kernel
theorem dX4_clear_1 : decode cX4_clear 1 = .ok (.iconst 0, 1) := by decide +kernel
theorem dX4_clear_2 : decode cX4_clear 2 = .ok (.putfield 19, 3) := by decide +kernel
theorem dX4_clear_5 : decode cX4_clear 5 = .ok (.return_, 1) := by decide +kernel
set_option maxRecDepth 20000 in
theorem ggX4_takeOver_X4_clear : GoodIn wsX4_takeOver wsX4_clear := goodIn_r _ [6, 1, 16, 17] (by decide +kernel) (by decide +kernel)
set_option maxRecDepth 20000 in
theorem gX4_takeOver_X4_clear : GoodIn wsX4_takeOver (wsV RX4 27 RX4 yX4_clear wsX4_clear) := goodIn_app (goodIn_of _ (by decide +kernel)) ggX4_takeOver_X4_clear
set_option maxRecDepth 20000 in
theorem ggX4_takeOver_X4_get : GoodIn wsX4_takeOver wsX4_get := goodIn_r _ [10, 1, 11, 16, 17] (by decide +kernel) (by decide +kernel)
set_option maxRecDepth 20000 in
theorem gX4_takeOver_X4_get : GoodIn wsX4_takeOver (wsV RX4 30 RX4 yX4_get wsX4_get) := goodIn_app (goodIn_of _ (by decide +kernel)) ggX4_takeOver_X4_get
set_option maxRecDepth 20000 in
theorem ggX4_takeOver_X4_add : GoodIn wsX4_takeOver wsX4_add := goodIn_r _ [15, 1, 11, 16, 17] (by decide +kernel) (by decide +kernel)
set_option maxRecDepth 20000 in
theorem gX4_takeOver_X4_add : GoodIn wsX4_takeOver (wsV RX4 34 RX4 yX4_add wsX4_add) := goodIn_app (goodIn_of _ (by decide +kernel)) ggX4_takeOver_X4_add
theorem dX4_takeOver_0 : decode cX4_takeOver 0 = .ok (.aload_n 0, 1) := by decide +kernel
theorem dX4_takeOver_1 : decode cX4_takeOver 1 = .ok (.invokevirtual 27, 3) := by decide +kernel
theorem dX4_takeOver_4 : decode cX4_takeOver 4 = .ok (.iconst 0, 1) := by decide +kernel
theorem dX4_takeOver_5 : decode cX4_takeOver 5 = .ok (.istore_n 2, 1) := by decide +kernel
theorem dX4_takeOver_6 : decode cX4_takeOver 6 = .ok (.iload_n 2, 1) := by decide +kernel
theorem dX4_takeOver_7 : decode cX4_takeOver 7 = .ok (.aload_n 1, 1) := by decide +kernel
theorem dX4_takeOver_8 : decode cX4_takeOver 8 = .ok (.getfield 19, 3) := by decide +kernel
theorem dX4_takeOver_11 : decode cX4_takeOver 11 = .ok (.if_icmp .ge 18, 3) := by decide +kernel
theorem dX4_takeOver_14 : decode cX4_takeOver 14 = .ok (.aload_n 0, 1) := by decide +kernel
theorem dX4_takeOver_15 : decode cX4_takeOver 15 = .ok (.aload_n 1, 1) := by decide +kernel
theorem dX4_takeOver_16 : decode cX4_takeOver 16 = .ok (.iload_n 2, 1) := by decide +kernel
theorem dX4_takeOver_17 : decode cX4_takeOver 17 = .ok (.invokevirtual 30, 3) := by decide +kernel
theorem dX4_takeOver_20 : decode cX4_takeOver 20 = .ok (.invokevirtual 34, 3) := by decide +kernel
theorem dX4_takeOver_23 : decode cX4_takeOver 23 = .ok (.iinc 2 1, 3) := by decide +kernel
theorem dX4_takeOver_26 : decode cX4_takeOver 26 = .ok (.goto (-20), 3) := by decide +kernel
theorem dX4_takeOver_29 : decode cX4_takeOver 29 = .ok (.return_, 1) := by decide +kernel
theorem dX5_init_0 : decode cX5_init 0 = .ok (.aload_n 0, 1) := by decide +kernel
theorem dX5_init_1 : decode cX5_init 1 = .ok (.invokespecial 3, 3) := by decide +kernel
theorem dX5_init_4 : decode cX5_init 4 = .ok (.aload_n 0, 1) := by decide +kernel
theorem dX5_init_5 : decode cX5_init 5 = .ok (.bipush 40, 2) := by decide +kernel
theorem dX5_init_7 : decode cX5_init 7 = .ok (.newarray .int, 2) := by decide +kernel
theorem dX5_init_9 : decode cX5_init 9 = .ok (.putfield 9, 3) := by decide +kernel
theorem dX5_init_12 : decode cX5_init 12 = .ok (.return_, 1) := by decide +kernel
theorem dX5_isMissing_0 : decode cX5_isMissing 0 = .ok (.aload_n 0, 1) := by decide +kernel
theorem dX5_isMissing_1 : decode cX5_isMissing 1 = .ok (.getfield 15, 3) := by decide +kernel
theorem dX5_isMissing_4 : decode cX5_isMissing 4 = .ok (.ifCond .ne 7, 3) := by decide +kernel
theorem dX5_isMissing_7 : decode cX5_isMissing 7 = .ok (.iconst 1, 1) := by decide +kernel
theorem dX5_isMissing_8 : decode cX5_isMissing 8 = .ok (.goto 4, 3) := by decide +kernel
theorem dX5_isMissing_11 : decode cX5_isMissing 11 = .ok (.iconst 0, 1) := by decide +kernel
theorem dX5_isMissing_12 : decode cX5_isMissing 12 = .ok (.ireturn, 1) := by decide +kernel
set_option maxRecDepth 20000 in
theorem ggX5_startAnew_X8_held : GoodIn wsX5_startAnew wsX8_held := goodIn_r _ [6] (by decide +kernel) (by decide +kernel)
set_option maxRecDepth 20000 in
theorem gX5_startAnew_X8_held_n19 : GoodIn wsX5_startAnew (wsX8_held) := ggX5_startAnew_X8_held
set_option maxRecDepth 20000 in
theorem ggX5_startAnew_J7_fill_53178 : GoodIn wsX5_startAnew wsJ7_fill_53178 := goodIn_r _ [10] (by decide +kernel) (by decide +kernel)
set_option maxRecDepth 20000 in
theorem gX5_startAnew_J7_fill_53178 : GoodIn wsX5_startAnew (va_wsS RX5 26 yJ7_fill_53178 wsJ7_fill_53178) := goodIn_app (goodIn_of _ (by decide +kernel)) ggX5_startAnew_J7_fill_53178
theorem dX5_startAnew_0 : decode cX5_startAnew 0 = .ok (.aload_n 0, 1) := by decide +kernel
theorem dX5_startAnew_1 : decode cX5_startAnew 1 = .ok (.iload_n 1, 1) := by decide +kernel
theorem dX5_startAnew_2 : decode cX5_startAnew 2 = .ok (.putfield 15, 3) := by decide +kernel
theorem dX5_startAnew_5 : decode cX5_startAnew 5 = .ok (.aload_n 0, 1) := by decide +kernel
theorem dX5_startAnew_6 : decode cX5_startAnew 6 = .ok (.iload_n 2, 1) := by decide +kernel
theorem dX5_startAnew_7 : decode cX5_startAnew 7 = .ok (.bipush 40, 2) := by decide +kernel
theorem dX5_startAnew_9 : decode cX5_startAnew 9 = .ok (.invokestatic 19, 3) := by decide +kernel
theorem dX5_startAnew_12 : decode cX5_startAnew 12 = .ok (.putfield 23, 3) := by decide +kernel
theorem dX5_startAnew_15 : decode cX5_startAnew 15 = .ok (.aload_n 0, 1) := by decide +kernel
theorem dX5_startAnew_16 : decode cX5_startAnew 16 = .ok (.getfield 9, 3) := by decide +kernel
theorem dX5_startAnew_19 : decode cX5_startAnew 19 = .ok (.iconst 0, 1) := by decide +kernel
theorem dX5_startAnew_20 : decode cX5_startAnew 20 = .ok (.invokestatic 26, 3) := by decide +kernel
theorem dX5_startAnew_23 : decode cX5_startAnew 23 = .ok (.return_, 1) := by decide +kernel
theorem dX5_set_0 : decode cX5_set 0 = .ok (.iload_n 1, 1) := by decide +kernel
theorem dX5_set_1 : decode cX5_set 1 = .ok (.ifCond .lt 46, 3) := by decide +kernel
theorem dX5_set_4 : decode cX5_set 4 = .ok (.iload_n 1, 1) := by decide +kernel
theorem dX5_set_5 : decode cX5_set 5 = .ok (.aload_n 0, 1) := by decide +kernel
theorem dX5_set_6 : decode cX5_set 6 = .ok (.getfield 23, 3) := by decide +kernel
theorem dX5_set_9 : decode cX5_set 9 = .ok (.if_icmp .ge 38, 3) := by decide +kernel
theorem dX5_set_12 : decode cX5_set 12 = .ok (.aload_n 0, 1) := by decide +kernel
theorem dX5_set_13 : decode cX5_set 13 = .ok (.getfield 9, 3) := by decide +kernel
theorem dX5_set_16 : decode cX5_set 16 = .ok (.iload_n 1, 1) := by decide +kernel
theorem dX5_set_17 : decode cX5_set 17 = .ok (.aload_n 0, 1) := by decide +kernel
theorem dX5_set_18 : decode cX5_set 18 = .ok (.getfield 15, 3) := by decide +kernel
theorem dX5_set_21 : decode cX5_set 21 = .ok (.bipush 8, 2) := by decide +kernel
theorem dX5_set_23 : decode cX5_set 23 = .ok (.if_icmp .ne 8, 3) := by decide +kernel
theorem dX5_set_26 : decode cX5_set 26 = .ok (.iload_n 2, 1) := by decide +kernel
theorem dX5_set_27 : decode cX5_set 27 = .ok (.i2b, 1) := by decide +kernel
theorem dX5_set_28 : decode cX5_set 28 = .ok (.goto 18, 3) := by decide +kernel
theorem dX5_set_31 : decode cX5_set 31 = .ok (.aload_n 0, 1) := by decide +kernel
theorem dX5_set_32 : decode cX5_set 32 = .ok (.getfield 15, 3) := by decide +kernel
theorem dX5_set_35 : decode cX5_set 35 = .ok (.bipush 16, 2) := by decide +kernel
theorem dX5_set_37 : decode cX5_set 37 = .ok (.if_icmp .ne 8, 3) := by decide +kernel
theorem dX5_set_40 : decode cX5_set 40 = .ok (.iload_n 2, 1) := by decide +kernel
theorem dX5_set_41 : decode cX5_set 41 = .ok (.i2s, 1) := by decide +kernel
theorem dX5_set_42 : decode cX5_set 42 = .ok (.goto 4, 3) := by decide +kernel
theorem dX5_set_45 : decode cX5_set 45 = .ok (.iload_n 2, 1) := by decide +kernel
theorem dX5_set_46 : decode cX5_set 46 = .ok (.iastore, 1) := by decide +kernel
theorem dX5_set_47 : decode cX5_set 47 = .ok (.return_, 1) := by decide +kernel
set_option maxRecDepth 20000 in
theorem ggX6_init_J7_copyOf_59c91 : GoodIn wsX6_init wsJ7_copyOf_59c91 := goodIn_r _ [12, 13, 14, 15, 16, 17, 18, 7, 19, 20, 21, 22, 23, 24, 25, 26] (by decide +kernel) (by decide +kernel)
set_option maxRecDepth 20000 in
theorem gX6_init_J7_copyOf_59c91 : GoodIn wsX6_init (va_wsS RX6 17 yJ7_copyOf_59c91 wsJ7_copyOf_59c91) := goodIn_app (goodIn_of _ (by decide +kernel)) ggX6_init_J7_copyOf_59c91
theorem dX6_init_0 : decode cX6_init 0 = .ok (.aload_n 0, 1) := by decide +kernel
theorem dX6_init_1 : decode cX6_init 1 = .ok (.invokespecial 1, 3) := by decide +kernel
theorem dX6_init_4 : decode cX6_init 4 = .ok (.aload_n 0, 1) := by decide +kernel
theorem dX6_init_5 : decode cX6_init 5 = .ok (.aload_n 1, 1) := by decide +kernel
theorem dX6_init_6 : decode cX6_init 6 = .ok (.getfield 7, 3) := by decide +kernel
theorem dX6_init_9 : decode cX6_init 9 = .ok (.aload_n 1, 1) := by decide +kernel
theorem dX6_init_10 : decode cX6_init 10 = .ok (.getfield 13, 3) := by decide +kernel
theorem dX6_init_13 : decode cX6_init 13 = .ok (.invokestatic 17, 3) := by decide +kernel
theorem dX6_init_16 : decode cX6_init 16 = .ok (.putfield 23, 3) := by decide +kernel
theorem dX6_init_19 : decode cX6_init 19 = .ok (.aload_n 0, 1) := by decide +kernel
theorem dX6_init_20 : decode cX6_init 20 = .ok (.aload_n 0, 1) := by decide +kernel
theorem dX6_init_21 : decode cX6_init 21 = .ok (.getfield 23, 3) := by decide +kernel
theorem dX6_init_24 : decode cX6_init 24 = .ok (.arraylength, 1) := by decide +kernel
theorem dX6_init_25 : decode cX6_init 25 = .ok (.newarray .int, 2) := by decide +kernel
theorem dX6_init_27 : decode cX6_init 27 = .ok (.putfield 28, 3) := by decide +kernel
theorem dX6_init_30 : decode cX6_init 30 = .ok (.return_, 1) := by decide +kernel
set_option maxRecDepth 20000 in
theorem ggX6_valueFor_X6_joined : GoodIn wsX6_valueFor wsX6_joined := goodIn_r _ [6] (by decide +kernel) (by decide +kernel)
set_option maxRecDepth 20000 in
theorem gX6_valueFor_X6_joined : GoodIn wsX6_valueFor (va_wsS RX6 31 yX6_joined wsX6_joined) := goodIn_app (goodIn_of _ (by decide +kernel)) ggX6_valueFor_X6_joined
theorem dX6_valueFor_0 : decode cX6_valueFor 0 = .ok (.iconst 0, 1) := by decide +kernel
theorem dX6_valueFor_1 : decode cX6_valueFor 1 = .ok (.istore 4, 2) := by decide +kernel
theorem dX6_valueFor_3 : decode cX6_valueFor 3 = .ok (.iconst 0, 1) := by decide +kernel
theorem dX6_valueFor_4 : decode cX6_valueFor 4 = .ok (.istore 5, 2) := by decide +kernel
theorem dX6_valueFor_6 : decode cX6_valueFor 6 = .ok (.iload 5, 2) := by decide +kernel
theorem dX6_valueFor_8 : decode cX6_valueFor 8 = .ok (.aload_n 0, 1) := by decide +kernel
theorem dX6_valueFor_9 : decode cX6_valueFor 9 = .ok (.getfield 23, 3) := by decide +kernel
theorem dX6_valueFor_12 : decode cX6_valueFor 12 = .ok (.arraylength, 1) := by decide +kernel
theorem dX6_valueFor_13 : decode cX6_valueFor 13 = .ok (.if_icmp .ge 161, 3) := by decide +kernel
theorem dX6_valueFor_16 : decode cX6_valueFor 16 = .ok (.aload_n 0, 1) := by decide +kernel
theorem dX6_valueFor_17 : decode cX6_valueFor 17 = .ok (.getfield 23, 3) := by decide +kernel
theorem dX6_valueFor_20 : decode cX6_valueFor 20 = .ok (.iload 5, 2) := by decide +kernel
theorem dX6_valueFor_22 : decode cX6_valueFor 22 = .ok (.iaload, 1) := by decide +kernel
theorem dX6_valueFor_23 : decode cX6_valueFor 23 = .ok (.istore 6, 2) := by decide +kernel
theorem dX6_valueFor_25 : decode cX6_valueFor 25 = .ok (.iload 6, 2) := by decide +kernel
theorem dX6_valueFor_27 : decode cX6_valueFor 27 = .ok (.bipush (-3), 2) := by decide +kernel
theorem dX6_valueFor_29 : decode cX6_valueFor 29 = .ok (.if_icmp .lt 58, 3) := by decide +kernel
theorem dX6_valueFor_32 : decode cX6_valueFor 32 = .ok (.iload 4, 2) := by decide +kernel
theorem dX6_valueFor_34 : decode cX6_valueFor 34 = .ok (.aload_n 0, 1) := by decide +kernel
theorem dX6_valueFor_35 : decode cX6_valueFor 35 = .ok (.getfield 28, 3) := by decide +kernel
theorem dX6_valueFor_38 : decode cX6_valueFor 38 = .ok (.arraylength, 1) := by decide +kernel
theorem dX6_valueFor_39 : decode cX6_valueFor 39 = .ok (.if_icmp .ge 129, 3) := by decide +kernel
theorem dX6_valueFor_42 : decode cX6_valueFor 42 = .ok (.aload_n 0, 1) := by decide +kernel
theorem dX6_valueFor_43 : decode cX6_valueFor 43 = .ok (.getfield 28, 3) := by decide +kernel
theorem dX6_valueFor_46 : decode cX6_valueFor 46 = .ok (.iload 4, 2) := by decide +kernel
theorem dX6_valueFor_48 : decode cX6_valueFor 48 = .ok (.iload 6, 2) := by decide +kernel
theorem dX6_valueFor_50 : decode cX6_valueFor 50 = .ok (.ifCond .lt 8, 3) := by decide +kernel
theorem dX6_valueFor_53 : decode cX6_valueFor 53 = .ok (.iload 6, 2) := by decide +kernel
theorem dX6_valueFor_55 : decode cX6_valueFor 55 = .ok (.goto 25, 3) := by decide +kernel
theorem dX6_valueFor_58 : decode cX6_valueFor 58 = .ok (.iload 6, 2) := by decide +kernel
theorem dX6_valueFor_60 : decode cX6_valueFor 60 = .ok (.iconst (-1), 1) := by decide +kernel
theorem dX6_valueFor_61 : decode cX6_valueFor 61 = .ok (.if_icmp .ne 7, 3) := by decide +kernel
theorem dX6_valueFor_64 : decode cX6_valueFor 64 = .ok (.iload_n 1, 1) := by decide +kernel
theorem dX6_valueFor_65 : decode cX6_valueFor 65 = .ok (.goto 15, 3) := by decide +kernel
theorem dX6_valueFor_68 : decode cX6_valueFor 68 = .ok (.iload 6, 2) := by decide +kernel
theorem dX6_valueFor_70 : decode cX6_valueFor 70 = .ok (.bipush (-2), 2) := by decide +kernel
theorem dX6_valueFor_72 : decode cX6_valueFor 72 = .ok (.if_icmp .ne 7, 3) := by decide +kernel
theorem dX6_valueFor_75 : decode cX6_valueFor 75 = .ok (.iload_n 2, 1) := by decide +kernel
theorem dX6_valueFor_76 : decode cX6_valueFor 76 = .ok (.goto 4, 3) := by decide +kernel
theorem dX6_valueFor_79 : decode cX6_valueFor 79 = .ok (.iload_n 3, 1) := by decide +kernel
theorem dX6_valueFor_80 : decode cX6_valueFor 80 = .ok (.iastore, 1) := by decide +kernel
theorem dX6_valueFor_81 : decode cX6_valueFor 81 = .ok (.iinc 4 1, 3) := by decide +kernel
theorem dX6_valueFor_84 : decode cX6_valueFor 84 = .ok (.goto 84, 3) := by decide +kernel
theorem dX6_valueFor_87 : decode cX6_valueFor 87 = .ok (.iload 6, 2) := by decide +kernel
theorem dX6_valueFor_89 : decode cX6_valueFor 89 = .ok (.bipush (-33), 2) := by decide +kernel
theorem dX6_valueFor_91 : decode cX6_valueFor 91 = .ok (.if_icmp .ne 37, 3) := by decide +kernel
theorem dX6_valueFor_94 : decode cX6_valueFor 94 = .ok (.iload 4, 2) := by decide +kernel
theorem dX6_valueFor_96 : decode cX6_valueFor 96 = .ok (.ifCond .le 72, 3) := by decide +kernel
theorem dX6_valueFor_99 : decode cX6_valueFor 99 = .ok (.aload_n 0, 1) := by decide +kernel
theorem dX6_valueFor_100 : decode cX6_valueFor 100 = .ok (.getfield 28, 3) := by decide +kernel
theorem dX6_valueFor_103 : decode cX6_valueFor 103 = .ok (.iload 4, 2) := by decide +kernel
theorem dX6_valueFor_105 : decode cX6_valueFor 105 = .ok (.iconst 1, 1) := by decide +kernel
theorem dX6_valueFor_106 : decode cX6_valueFor 106 = .ok (.isub, 1) := by decide +kernel
theorem dX6_valueFor_107 : decode cX6_valueFor 107 = .ok (.aload_n 0, 1) := by decide +kernel
theorem dX6_valueFor_108 : decode cX6_valueFor 108 = .ok (.getfield 28, 3) := by decide +kernel
theorem dX6_valueFor_111 : decode cX6_valueFor 111 = .ok (.iload 4, 2) := by decide +kernel
theorem dX6_valueFor_113 : decode cX6_valueFor 113 = .ok (.iconst 1, 1) := by decide +kernel
theorem dX6_valueFor_114 : decode cX6_valueFor 114 = .ok (.isub, 1) := by decide +kernel
theorem dX6_valueFor_115 : decode cX6_valueFor 115 = .ok (.iaload, 1) := by decide +kernel
theorem dX6_valueFor_116 : decode cX6_valueFor 116 = .ok (.ifCond .ne 7, 3) := by decide +kernel
theorem dX6_valueFor_119 : decode cX6_valueFor 119 = .ok (.iconst 1, 1) := by decide +kernel
theorem dX6_valueFor_120 : decode cX6_valueFor 120 = .ok (.goto 4, 3) := by decide +kernel
theorem dX6_valueFor_123 : decode cX6_valueFor 123 = .ok (.iconst 0, 1) := by decide +kernel
theorem dX6_valueFor_124 : decode cX6_valueFor 124 = .ok (.iastore, 1) := by decide +kernel
theorem dX6_valueFor_125 : decode cX6_valueFor 125 = .ok (.goto 43, 3) := by decide +kernel
theorem dX6_valueFor_128 : decode cX6_valueFor 128 = .ok (.iload 4, 2) := by decide +kernel
theorem dX6_valueFor_130 : decode cX6_valueFor 130 = .ok (.iconst 1, 1) := by decide +kernel
theorem dX6_valueFor_131 : decode cX6_valueFor 131 = .ok (.if_icmp .le 37, 3) := by decide +kernel
theorem dX6_valueFor_134 : decode cX6_valueFor 134 = .ok (.iinc 4 (-1), 3) := by decide +kernel
theorem dX6_valueFor_137 : decode cX6_valueFor 137 = .ok (.aload_n 0, 1) := by decide +kernel
theorem dX6_valueFor_138 : decode cX6_valueFor 138 = .ok (.getfield 28, 3) := by decide +kernel
theorem dX6_valueFor_141 : decode cX6_valueFor 141 = .ok (.iload 4, 2) := by decide +kernel
theorem dX6_valueFor_143 : decode cX6_valueFor 143 = .ok (.iconst 1, 1) := by decide +kernel
theorem dX6_valueFor_144 : decode cX6_valueFor 144 = .ok (.isub, 1) := by decide +kernel
theorem dX6_valueFor_145 : decode cX6_valueFor 145 = .ok (.aload_n 0, 1) := by decide +kernel
theorem dX6_valueFor_146 : decode cX6_valueFor 146 = .ok (.getfield 28, 3) := by decide +kernel
theorem dX6_valueFor_149 : decode cX6_valueFor 149 = .ok (.iload 4, 2) := by decide +kernel
theorem dX6_valueFor_151 : decode cX6_valueFor 151 = .ok (.iconst 1, 1) := by decide +kernel
theorem dX6_valueFor_152 : decode cX6_valueFor 152 = .ok (.isub, 1) := by decide +kernel
theorem dX6_valueFor_153 : decode cX6_valueFor 153 = .ok (.iaload, 1) := by decide +kernel
theorem dX6_valueFor_154 : decode cX6_valueFor 154 = .ok (.iload 6, 2) := by decide +kernel
theorem dX6_valueFor_156 : decode cX6_valueFor 156 = .ok (.ineg, 1) := by decide +kernel
theorem dX6_valueFor_157 : decode cX6_valueFor 157 = .ok (.aload_n 0, 1) := by decide +kernel
theorem dX6_valueFor_158 : decode cX6_valueFor 158 = .ok (.getfield 28, 3) := by decide +kernel
theorem dX6_valueFor_161 : decode cX6_valueFor 161 = .ok (.iload 4, 2) := by decide +kernel
theorem dX6_valueFor_163 : decode cX6_valueFor 163 = .ok (.iaload, 1) := by decide +kernel
theorem dX6_valueFor_164 : decode cX6_valueFor 164 = .ok (.invokestatic 31, 3) := by decide +kernel
theorem dX6_valueFor_167 : decode cX6_valueFor 167 = .ok (.iastore, 1) := by decide +kernel
theorem dX6_valueFor_168 : decode cX6_valueFor 168 = .ok (.iinc 5 1, 3) := by decide +kernel
theorem dX6_valueFor_171 : decode cX6_valueFor 171 = .ok (.goto (-165), 3) := by decide +kernel
theorem dX6_valueFor_174 : decode cX6_valueFor 174 = .ok (.iload 4, 2) := by decide +kernel
theorem dX6_valueFor_176 : decode cX6_valueFor 176 = .ok (.ifCond .le 12, 3) := by decide +kernel
theorem dX6_valueFor_179 : decode cX6_valueFor 179 = .ok (.aload_n 0, 1) := by decide +kernel
theorem dX6_valueFor_180 : decode cX6_valueFor 180 = .ok (.getfield 28, 3) := by decide +kernel
theorem dX6_valueFor_183 : decode cX6_valueFor 183 = .ok (.iconst 0, 1) := by decide +kernel
theorem dX6_valueFor_184 : decode cX6_valueFor 184 = .ok (.iaload, 1) := by decide +kernel
theorem dX6_valueFor_185 : decode cX6_valueFor 185 = .ok (.goto 4, 3) := by decide +kernel
theorem dX6_valueFor_188 : decode cX6_valueFor 188 = .ok (.iconst 0, 1) := by decide +kernel
theorem dX6_valueFor_189 : decode cX6_valueFor 189 = .ok (.ireturn, 1) := by decide +kernel
theorem dX6_joined_0 : decode cX6_joined 0 = .ok (.iload_n 1, 1) := by decide +kernel
theorem dX6_joined_1 : decode cX6_joined 1 = .ok (.lookupswitch 188 #[(37, 176), (38, 105), (42, 160), (43, 152), (45, 156), (47, 164), (60, 119), (61, 130), (62, 141), (124, 91)], 91) := by decide +kernel
theorem dX6_joined_92 : decode cX6_joined 92 = .ok (.iload_n 0, 1) := by decide +kernel
theorem dX6_joined_93 : decode cX6_joined 93 = .ok (.ifCond .ne 7, 3) := by decide +kernel
theorem dX6_joined_96 : decode cX6_joined 96 = .ok (.iload_n 2, 1) := by decide +kernel
theorem dX6_joined_97 : decode cX6_joined 97 = .ok (.ifCond .eq 7, 3) := by decide +kernel
theorem dX6_joined_100 : decode cX6_joined 100 = .ok (.iconst 1, 1) := by decide +kernel
theorem dX6_joined_101 : decode cX6_joined 101 = .ok (.goto 4, 3) := by decide +kernel
theorem dX6_joined_104 : decode cX6_joined 104 = .ok (.iconst 0, 1) := by decide +kernel
theorem dX6_joined_105 : decode cX6_joined 105 = .ok (.ireturn, 1) := by decide +kernel
theorem dX6_joined_106 : decode cX6_joined 106 = .ok (.iload_n 0, 1) := by decide +kernel
theorem dX6_joined_107 : decode cX6_joined 107 = .ok (.ifCond .eq 11, 3) := by decide +kernel
theorem dX6_joined_110 : decode cX6_joined 110 = .ok (.iload_n 2, 1) := by decide +kernel
theorem dX6_joined_111 : decode cX6_joined 111 = .ok (.ifCond .eq 7, 3) := by decide +kernel
theorem dX6_joined_114 : decode cX6_joined 114 = .ok (.iconst 1, 1) := by decide +kernel
theorem dX6_joined_115 : decode cX6_joined 115 = .ok (.goto 4, 3) := by decide +kernel
theorem dX6_joined_118 : decode cX6_joined 118 = .ok (.iconst 0, 1) := by decide +kernel
theorem dX6_joined_119 : decode cX6_joined 119 = .ok (.ireturn, 1) := by decide +kernel
theorem dX6_joined_120 : decode cX6_joined 120 = .ok (.iload_n 0, 1) := by decide +kernel
theorem dX6_joined_121 : decode cX6_joined 121 = .ok (.iload_n 2, 1) := by decide +kernel
theorem dX6_joined_122 : decode cX6_joined 122 = .ok (.if_icmp .ge 7, 3) := by decide +kernel
theorem dX6_joined_125 : decode cX6_joined 125 = .ok (.iconst 1, 1) := by decide +kernel
theorem dX6_joined_126 : decode cX6_joined 126 = .ok (.goto 4, 3) := by decide +kernel
theorem dX6_joined_129 : decode cX6_joined 129 = .ok (.iconst 0, 1) := by decide +kernel
theorem dX6_joined_130 : decode cX6_joined 130 = .ok (.ireturn, 1) := by decide +kernel
theorem dX6_joined_131 : decode cX6_joined 131 = .ok (.iload_n 0, 1) := by decide +kernel
theorem dX6_joined_132 : decode cX6_joined 132 = .ok (.iload_n 2, 1) := by decide +kernel
theorem dX6_joined_133 : decode cX6_joined 133 = .ok (.if_icmp .ne 7, 3) := by decide +kernel
theorem dX6_joined_136 : decode cX6_joined 136 = .ok (.iconst 1, 1) := by decide +kernel
theorem dX6_joined_137 : decode cX6_joined 137 = .ok (.goto 4, 3) := by decide +kernel
theorem dX6_joined_140 : decode cX6_joined 140 = .ok (.iconst 0, 1) := by decide +kernel
theorem dX6_joined_141 : decode cX6_joined 141 = .ok (.ireturn, 1) := by decide +kernel
theorem dX6_joined_142 : decode cX6_joined 142 = .ok (.iload_n 0, 1) := by decide +kernel
theorem dX6_joined_143 : decode cX6_joined 143 = .ok (.iload_n 2, 1) := by decide +kernel
theorem dX6_joined_144 : decode cX6_joined 144 = .ok (.if_icmp .le 7, 3) := by decide +kernel
theorem dX6_joined_147 : decode cX6_joined 147 = .ok (.iconst 1, 1) := by decide +kernel
theorem dX6_joined_148 : decode cX6_joined 148 = .ok (.goto 4, 3) := by decide +kernel
theorem dX6_joined_151 : decode cX6_joined 151 = .ok (.iconst 0, 1) := by decide +kernel
theorem dX6_joined_152 : decode cX6_joined 152 = .ok (.ireturn, 1) := by decide +kernel
theorem dX6_joined_153 : decode cX6_joined 153 = .ok (.iload_n 0, 1) := by decide +kernel
theorem dX6_joined_154 : decode cX6_joined 154 = .ok (.iload_n 2, 1) := by decide +kernel
theorem dX6_joined_155 : decode cX6_joined 155 = .ok (.iadd, 1) := by decide +kernel
theorem dX6_joined_156 : decode cX6_joined 156 = .ok (.ireturn, 1) := by decide +kernel
theorem dX6_joined_157 : decode cX6_joined 157 = .ok (.iload_n 0, 1) := by decide +kernel
theorem dX6_joined_158 : decode cX6_joined 158 = .ok (.iload_n 2, 1) := by decide +kernel
theorem dX6_joined_159 : decode cX6_joined 159 = .ok (.isub, 1) := by decide +kernel
theorem dX6_joined_160 : decode cX6_joined 160 = .ok (.ireturn, 1) := by decide +kernel
theorem dX6_joined_161 : decode cX6_joined 161 = .ok (.iload_n 0, 1) := by decide +kernel
theorem dX6_joined_162 : decode cX6_joined 162 = .ok (.iload_n 2, 1) := by decide +kernel
theorem dX6_joined_163 : decode cX6_joined 163 = .ok (.imul, 1) := by decide +kernel
theorem dX6_joined_164 : decode cX6_joined 164 = .ok (.ireturn, 1) := by decide +kernel
theorem dX6_joined_165 : decode cX6_joined 165 = .ok (.iload_n 2, 1) := by decide +kernel
theorem dX6_joined_166 : decode cX6_joined 166 = .ok (.ifCond .ne 7, 3) := by decide +kernel
theorem dX6_joined_169 : decode cX6_joined 169 = .ok (.iconst 0, 1) := by decide +kernel
theorem dX6_joined_170 : decode cX6_joined 170 = .ok (.goto 6, 3) := by decide +kernel
theorem dX6_joined_173 : decode cX6_joined 173 = .ok (.iload_n 0, 1) := by decide +kernel
theorem dX6_joined_174 : decode cX6_joined 174 = .ok (.iload_n 2, 1) := by decide +kernel
theorem dX6_joined_175 : decode cX6_joined 175 = .ok (.idiv, 1) := by decide +kernel
theorem dX6_joined_176 : decode cX6_joined 176 = .ok (.ireturn, 1) := by decide +kernel
theorem dX6_joined_177 : decode cX6_joined 177 = .ok (.iload_n 2, 1) := by decide +kernel
theorem dX6_joined_178 : decode cX6_joined 178 = .ok (.ifCond .ne 7, 3) := by decide +kernel
theorem dX6_joined_181 : decode cX6_joined 181 = .ok (.iconst 0, 1) := by decide +kernel
theorem dX6_joined_182 : decode cX6_joined 182 = .ok (.goto 6, 3) := by decide +kernel
theorem dX6_joined_185 : decode cX6_joined 185 = .ok (.iload_n 0, 1) := by decide +kernel
theorem dX6_joined_186 : decode cX6_joined 186 = .ok (.iload_n 2, 1) := by decide +kernel
theorem dX6_joined_187 : decode cX6_joined 187 = .ok (.irem, 1) := by decide +kernel
theorem dX6_joined_188 : decode cX6_joined 188 = .ok (.ireturn, 1) := by decide +kernel
theorem dX6_joined_189 : decode cX6_joined 189 = .ok (.iconst 0, 1) := by decide +kernel
theorem dX6_joined_190 : decode cX6_joined 190 = .ok (.ireturn, 1) := by decide +kernel
set_option maxRecDepth 20000 in
theorem ggX7_init_X4_init : GoodIn wsX7_init wsX4_init := goodIn_r _ [10, 11, 2, 3, 12, 13, 14, 15, 16, 17, 18, 19] (by decide +kernel) (by decide +kernel)
set_option maxRecDepth 20000 in
theorem gX7_init_X4_init : GoodIn wsX7_init (wsX4_init) := ggX7_init_X4_init
theorem dX7_init_0 : decode cX7_init 0 = .ok (.aload_n 0, 1) := by decide +kernel
theorem dX7_init_1 : decode cX7_init 1 = .ok (.invokespecial 3, 3) := by decide +kernel
theorem dX7_init_4 : decode cX7_init 4 = .ok (.aload_n 0, 1) := by decide +kernel
theorem dX7_init_5 : decode cX7_init 5 = .ok (.new 9, 3) := by decide +kernel
theorem dX7_init_8 : decode cX7_init 8 = .ok (.dup, 1) := by decide +kernel
theorem dX7_init_9 : decode cX7_init 9 = .ok (.bipush 40, 2) := by decide +kernel
theorem dX7_init_11 : decode cX7_init 11 = .ok (.invokespecial 11, 3) := by decide +kernel
theorem dX7_init_14 : decode cX7_init 14 = .ok (.putfield 14, 3) := by decide +kernel
theorem dX7_init_17 : decode cX7_init 17 = .ok (.return_, 1) := by decide +kernel
set_option maxRecDepth 20000 in
theorem ggX7_begin_X4_clear : GoodIn wsX7_begin wsX4_clear := goodIn_r _ [9, 10, 15, 16] (by decide +kernel) (by decide +kernel)
set_option maxRecDepth 20000 in
theorem gX7_begin_X4_clear : GoodIn wsX7_begin (wsV RX7 30 RX4 yX4_clear wsX4_clear) := goodIn_app (goodIn_of _ (by decide +kernel)) ggX7_begin_X4_clear
theorem dX7_begin_0 : decode cX7_begin 0 = .ok (.aload_n 0, 1) := by decide +kernel
theorem dX7_begin_1 : decode cX7_begin 1 = .ok (.iload_n 1, 1) := by decide +kernel
theorem dX7_begin_2 : decode cX7_begin 2 = .ok (.putfield 20, 3) := by decide +kernel
theorem dX7_begin_5 : decode cX7_begin 5 = .ok (.aload_n 0, 1) := by decide +kernel
theorem dX7_begin_6 : decode cX7_begin 6 = .ok (.iload_n 2, 1) := by decide +kernel
theorem dX7_begin_7 : decode cX7_begin 7 = .ok (.putfield 24, 3) := by decide +kernel
theorem dX7_begin_10 : decode cX7_begin 10 = .ok (.aload_n 0, 1) := by decide +kernel
theorem dX7_begin_11 : decode cX7_begin 11 = .ok (.iload_n 3, 1) := by decide +kernel
theorem dX7_begin_12 : decode cX7_begin 12 = .ok (.putfield 27, 3) := by decide +kernel
theorem dX7_begin_15 : decode cX7_begin 15 = .ok (.aload_n 0, 1) := by decide +kernel
theorem dX7_begin_16 : decode cX7_begin 16 = .ok (.getfield 14, 3) := by decide +kernel
theorem dX7_begin_19 : decode cX7_begin 19 = .ok (.invokevirtual 30, 3) := by decide +kernel
theorem dX7_begin_22 : decode cX7_begin 22 = .ok (.return_, 1) := by decide +kernel
set_option maxRecDepth 20000 in
theorem ggX7_answer_X7_say : GoodIn wsX7_answer wsX7_say := goodIn_r _ [5, 1, 6, 7, 8, 9, 10, 4, 11, 12, 13, 14, 15, 16, 17, 18, 19, 20, 21, 22, 23, 24, 25, 26, 27, 28, 29, 30, 2, 3, 31, 32, 33, 34, 35, 36] (by decide +kernel) (by decide +kernel)
set_option maxRecDepth 20000 in
theorem gX7_answer_X7_say : GoodIn wsX7_answer (va_wsS RX7 33 yX7_say wsX7_say) := goodIn_app (goodIn_of _ (by decide +kernel)) ggX7_answer_X7_say
theorem dX7_answer_0 : decode cX7_answer 0 = .ok (.aload_n 0, 1) := by decide +kernel
theorem dX7_answer_1 : decode cX7_answer 1 = .ok (.iload_n 1, 1) := by decide +kernel
theorem dX7_answer_2 : decode cX7_answer 2 = .ok (.aload_n 0, 1) := by decide +kernel
theorem dX7_answer_3 : decode cX7_answer 3 = .ok (.getfield 20, 3) := by decide +kernel
theorem dX7_answer_6 : decode cX7_answer 6 = .ok (.iload_n 2, 1) := by decide +kernel
theorem dX7_answer_7 : decode cX7_answer 7 = .ok (.iconst 0, 1) := by decide +kernel
theorem dX7_answer_8 : decode cX7_answer 8 = .ok (.invokestatic 33, 3) := by decide +kernel
theorem dX7_answer_11 : decode cX7_answer 11 = .ok (.ireturn, 1) := by decide +kernel
set_option maxRecDepth 20000 in
theorem ggX7_ownerOf_X7_bodyOf : GoodIn wsX7_ownerOf wsX7_bodyOf := goodIn_r _ [4, 5] (by decide +kernel) (by decide +kernel)
set_option maxRecDepth 20000 in
theorem gX7_ownerOf_X7_bodyOf : GoodIn wsX7_ownerOf (va_wsS RX7 39 yX7_bodyOf wsX7_bodyOf) := goodIn_app (goodIn_of _ (by decide +kernel)) ggX7_ownerOf_X7_bodyOf
set_option maxRecDepth 20000 in
theorem ggX7_ownerOf_X1_above : GoodIn wsX7_ownerOf wsX1_above := goodIn_r _ [9, 10, 11, 12, 13] (by decide +kernel) (by decide +kernel)
set_option maxRecDepth 20000 in
theorem gX7_ownerOf_X1_above : GoodIn wsX7_ownerOf (va_wsS RX7 43 yX1_above wsX1_above) := goodIn_app (goodIn_of _ (by decide +kernel)) ggX7_ownerOf_X1_above
theorem dX7_ownerOf_0 : decode cX7_ownerOf 0 = .ok (.iload_n 1, 1) := by decide +kernel
theorem dX7_ownerOf_1 : decode cX7_ownerOf 1 = .ok (.istore_n 2, 1) := by decide +kernel
theorem dX7_ownerOf_2 : decode cX7_ownerOf 2 = .ok (.iconst 0, 1) := by decide +kernel
theorem dX7_ownerOf_3 : decode cX7_ownerOf 3 = .ok (.istore_n 3, 1) := by decide +kernel
theorem dX7_ownerOf_4 : decode cX7_ownerOf 4 = .ok (.iload_n 3, 1) := by decide +kernel
theorem dX7_ownerOf_5 : decode cX7_ownerOf 5 = .ok (.bipush 6, 2) := by decide +kernel
theorem dX7_ownerOf_7 : decode cX7_ownerOf 7 = .ok (.if_icmp .gt 28, 3) := by decide +kernel
theorem dX7_ownerOf_10 : decode cX7_ownerOf 10 = .ok (.iload_n 2, 1) := by decide +kernel
theorem dX7_ownerOf_11 : decode cX7_ownerOf 11 = .ok (.ifCond .lt 24, 3) := by decide +kernel
theorem dX7_ownerOf_14 : decode cX7_ownerOf 14 = .ok (.iload_n 0, 1) := by decide +kernel
theorem dX7_ownerOf_15 : decode cX7_ownerOf 15 = .ok (.iload_n 2, 1) := by decide +kernel
theorem dX7_ownerOf_16 : decode cX7_ownerOf 16 = .ok (.invokestatic 39, 3) := by decide +kernel
theorem dX7_ownerOf_19 : decode cX7_ownerOf 19 = .ok (.ifCond .eq 5, 3) := by decide +kernel
theorem dX7_ownerOf_22 : decode cX7_ownerOf 22 = .ok (.iload_n 2, 1) := by decide +kernel
theorem dX7_ownerOf_23 : decode cX7_ownerOf 23 = .ok (.ireturn, 1) := by decide +kernel
theorem dX7_ownerOf_24 : decode cX7_ownerOf 24 = .ok (.iload_n 2, 1) := by decide +kernel
theorem dX7_ownerOf_25 : decode cX7_ownerOf 25 = .ok (.invokestatic 43, 3) := by decide +kernel
theorem dX7_ownerOf_28 : decode cX7_ownerOf 28 = .ok (.istore_n 2, 1) := by decide +kernel
theorem dX7_ownerOf_29 : decode cX7_ownerOf 29 = .ok (.iinc 3 1, 3) := by decide +kernel
theorem dX7_ownerOf_32 : decode cX7_ownerOf 32 = .ok (.goto (-28), 3) := by decide +kernel
theorem dX7_ownerOf_35 : decode cX7_ownerOf 35 = .ok (.iconst (-1), 1) := by decide +kernel
theorem dX7_ownerOf_36 : decode cX7_ownerOf 36 = .ok (.ireturn, 1) := by decide +kernel
theorem dX7_bodyOf_0 : decode cX7_bodyOf 0 = .ok (.iload_n 1, 1) := by decide +kernel
theorem dX7_bodyOf_1 : decode cX7_bodyOf 1 = .ok (.iconst 4, 1) := by decide +kernel
theorem dX7_bodyOf_2 : decode cX7_bodyOf 2 = .ok (.imul, 1) := by decide +kernel
theorem dX7_bodyOf_3 : decode cX7_bodyOf 3 = .ok (.iload_n 0, 1) := by decide +kernel
theorem dX7_bodyOf_4 : decode cX7_bodyOf 4 = .ok (.iadd, 1) := by decide +kernel
theorem dX7_bodyOf_5 : decode cX7_bodyOf 5 = .ok (.istore_n 2, 1) := by decide +kernel
theorem dX7_bodyOf_6 : decode cX7_bodyOf 6 = .ok (.iload_n 2, 1) := by decide +kernel
theorem dX7_bodyOf_7 : decode cX7_bodyOf 7 = .ok (.ifCond .lt 19, 3) := by decide +kernel
theorem dX7_bodyOf_10 : decode cX7_bodyOf 10 = .ok (.iload_n 2, 1) := by decide +kernel
theorem dX7_bodyOf_11 : decode cX7_bodyOf 11 = .ok (.getstatic 47, 3) := by decide +kernel
theorem dX7_bodyOf_14 : decode cX7_bodyOf 14 = .ok (.arraylength, 1) := by decide +kernel
theorem dX7_bodyOf_15 : decode cX7_bodyOf 15 = .ok (.if_icmp .ge 11, 3) := by decide +kernel
theorem dX7_bodyOf_18 : decode cX7_bodyOf 18 = .ok (.getstatic 47, 3) := by decide +kernel
theorem dX7_bodyOf_21 : decode cX7_bodyOf 21 = .ok (.iload_n 2, 1) := by decide +kernel
theorem dX7_bodyOf_22 : decode cX7_bodyOf 22 = .ok (.iaload, 1) := by decide +kernel
theorem dX7_bodyOf_23 : decode cX7_bodyOf 23 = .ok (.goto 4, 3) := by decide +kernel
theorem dX7_bodyOf_26 : decode cX7_bodyOf 26 = .ok (.iconst 0, 1) := by decide +kernel
theorem dX7_bodyOf_27 : decode cX7_bodyOf 27 = .ok (.ireturn, 1) := by decide +kernel
set_option maxRecDepth 20000 in
theorem ggX7_say_X7_ownerOf : GoodIn wsX7_say wsX7_ownerOf := goodIn_r _ [8, 9, 10, 7, 11, 12, 13, 14, 15, 16, 17, 18, 19, 20] (by decide +kernel) (by decide +kernel)
set_option maxRecDepth 20000 in
theorem gX7_say_X7_ownerOf : GoodIn wsX7_say (va_wsS RX7 51 yX7_ownerOf wsX7_ownerOf) := goodIn_app (goodIn_of _ (by decide +kernel)) ggX7_say_X7_ownerOf
set_option maxRecDepth 20000 in
theorem ggX7_say_X1_above : GoodIn wsX7_say wsX1_above := goodIn_r _ [16, 17, 18, 19, 20] (by decide +kernel) (by decide +kernel)
set_option maxRecDepth 20000 in
theorem gX7_say_X1_above : GoodIn wsX7_say (va_wsS RX7 43 yX1_above wsX1_above) := goodIn_app (goodIn_of _ (by decide +kernel)) ggX7_say_X1_above
set_option maxRecDepth 20000 in
theorem ggX7_say_X7_bodyOf : GoodIn wsX7_say wsX7_bodyOf := goodIn_r _ [11, 12] (by decide +kernel) (by decide +kernel)
set_option maxRecDepth 20000 in
theorem gX7_say_X7_bodyOf : GoodIn wsX7_say (va_wsS RX7 39 yX7_bodyOf wsX7_bodyOf) := goodIn_app (goodIn_of _ (by decide +kernel)) ggX7_say_X7_bodyOf
set_option maxRecDepth 20000 in
theorem ggX7_say_X4_add : GoodIn wsX7_say wsX4_add := goodIn_r _ [25, 26, 27, 34, 35] (by decide +kernel) (by decide +kernel)
set_option maxRecDepth 20000 in
theorem gX7_say_X4_add : GoodIn wsX7_say (wsV RX7 54 RX4 yX4_add wsX4_add) := goodIn_app (goodIn_of _ (by decide +kernel)) ggX7_say_X4_add
set_option maxRecDepth 20000 in
theorem ggX7_say_X7_say : GoodIn wsX7_say wsX7_say := goodIn_r _ [0, 1, 2, 3, 4, 5, 6, 7, 8, 9, 10, 11, 12, 13, 14, 15, 16, 17, 18, 19, 20, 21, 22, 23, 24, 25, 26, 27, 28, 29, 30, 31, 32, 33, 34, 35] (by decide +kernel) (by decide +kernel)
set_option maxRecDepth 20000 in
theorem gX7_say_X7_say : GoodIn wsX7_say (va_wsS RX7 33 yX7_say wsX7_say) := goodIn_app (goodIn_of _ (by decide +kernel)) ggX7_say_X7_say
theorem dX7_say_0 : decode cX7_say 0 = .ok (.iload_n 1, 1) := by decide +kernel
theorem dX7_say_1 : decode cX7_say 1 = .ok (.iload_n 2, 1) := by decide +kernel
theorem dX7_say_2 : decode cX7_say 2 = .ok (.invokestatic 51, 3) := by decide +kernel
theorem dX7_say_5 : decode cX7_say 5 = .ok (.istore 5, 2) := by decide +kernel
theorem dX7_say_7 : decode cX7_say 7 = .ok (.iload 5, 2) := by decide +kernel
theorem dX7_say_9 : decode cX7_say 9 = .ok (.ifCond .lt 10, 3) := by decide +kernel
theorem dX7_say_12 : decode cX7_say 12 = .ok (.iload 4, 2) := by decide +kernel
theorem dX7_say_14 : decode cX7_say 14 = .ok (.bipush 12, 2) := by decide +kernel
theorem dX7_say_16 : decode cX7_say 16 = .ok (.if_icmp .le 5, 3) := by decide +kernel
theorem dX7_say_19 : decode cX7_say 19 = .ok (.iconst 0, 1) := by decide +kernel
theorem dX7_say_20 : decode cX7_say 20 = .ok (.ireturn, 1) := by decide +kernel
theorem dX7_say_21 : decode cX7_say 21 = .ok (.iload 5, 2) := by decide +kernel
theorem dX7_say_23 : decode cX7_say 23 = .ok (.invokestatic 43, 3) := by decide +kernel
theorem dX7_say_26 : decode cX7_say 26 = .ok (.istore 6, 2) := by decide +kernel
theorem dX7_say_28 : decode cX7_say 28 = .ok (.iload_n 1, 1) := by decide +kernel
theorem dX7_say_29 : decode cX7_say 29 = .ok (.iload 5, 2) := by decide +kernel
theorem dX7_say_31 : decode cX7_say 31 = .ok (.invokestatic 39, 3) := by decide +kernel
theorem dX7_say_34 : decode cX7_say 34 = .ok (.istore 7, 2) := by decide +kernel
theorem dX7_say_36 : decode cX7_say 36 = .ok (.aload_n 0, 1) := by decide +kernel
theorem dX7_say_37 : decode cX7_say 37 = .ok (.getfield 20, 3) := by decide +kernel
theorem dX7_say_40 : decode cX7_say 40 = .ok (.istore 8, 2) := by decide +kernel
theorem dX7_say_42 : decode cX7_say 42 = .ok (.iload 4, 2) := by decide +kernel
theorem dX7_say_44 : decode cX7_say 44 = .ok (.iconst 1, 1) := by decide +kernel
theorem dX7_say_45 : decode cX7_say 45 = .ok (.iadd, 1) := by decide +kernel
theorem dX7_say_46 : decode cX7_say 46 = .ok (.istore 9, 2) := by decide +kernel
theorem dX7_say_48 : decode cX7_say 48 = .ok (.aload_n 0, 1) := by decide +kernel
theorem dX7_say_49 : decode cX7_say 49 = .ok (.getfield 14, 3) := by decide +kernel
theorem dX7_say_52 : decode cX7_say 52 = .ok (.iload 7, 2) := by decide +kernel
theorem dX7_say_54 : decode cX7_say 54 = .ok (.invokevirtual 54, 3) := by decide +kernel
theorem dX7_say_57 : decode cX7_say 57 = .ok (.iload 7, 2) := by decide +kernel
theorem dX7_say_59 : decode cX7_say 59 = .ok (.lookupswitch 266 #[(10, 97), (11, 104), (12, 117), (13, 124), (20, 146), (30, 159), (40, 181), (50, 193), (60, 215), (70, 228), (71, 244)], 97) := by decide +kernel
theorem dX7_say_156 : decode cX7_say 156 = .ok (.iload_n 3, 1) := by decide +kernel
theorem dX7_say_157 : decode cX7_say 157 = .ok (.aload_n 0, 1) := by decide +kernel
theorem dX7_say_158 : decode cX7_say 158 = .ok (.getfield 24, 3) := by decide +kernel
theorem dX7_say_161 : decode cX7_say 161 = .ok (.iadd, 1) := by decide +kernel
theorem dX7_say_162 : decode cX7_say 162 = .ok (.ireturn, 1) := by decide +kernel
theorem dX7_say_163 : decode cX7_say 163 = .ok (.aload_n 0, 1) := by decide +kernel
theorem dX7_say_164 : decode cX7_say 164 = .ok (.iconst 0, 1) := by decide +kernel
theorem dX7_say_165 : decode cX7_say 165 = .ok (.iload 8, 2) := by decide +kernel
theorem dX7_say_167 : decode cX7_say 167 = .ok (.iload_n 3, 1) := by decide +kernel
theorem dX7_say_168 : decode cX7_say 168 = .ok (.iload 9, 2) := by decide +kernel
theorem dX7_say_170 : decode cX7_say 170 = .ok (.invokestatic 33, 3) := by decide +kernel
theorem dX7_say_173 : decode cX7_say 173 = .ok (.iconst 2, 1) := by decide +kernel
theorem dX7_say_174 : decode cX7_say 174 = .ok (.imul, 1) := by decide +kernel
theorem dX7_say_175 : decode cX7_say 175 = .ok (.ireturn, 1) := by decide +kernel
theorem dX7_say_176 : decode cX7_say 176 = .ok (.iload_n 3, 1) := by decide +kernel
theorem dX7_say_177 : decode cX7_say 177 = .ok (.aload_n 0, 1) := by decide +kernel
theorem dX7_say_178 : decode cX7_say 178 = .ok (.getfield 27, 3) := by decide +kernel
theorem dX7_say_181 : decode cX7_say 181 = .ok (.isub, 1) := by decide +kernel
theorem dX7_say_182 : decode cX7_say 182 = .ok (.ireturn, 1) := by decide +kernel
theorem dX7_say_183 : decode cX7_say 183 = .ok (.aload_n 0, 1) := by decide +kernel
theorem dX7_say_184 : decode cX7_say 184 = .ok (.iconst 1, 1) := by decide +kernel
theorem dX7_say_185 : decode cX7_say 185 = .ok (.iload 8, 2) := by decide +kernel
theorem dX7_say_187 : decode cX7_say 187 = .ok (.iload_n 3, 1) := by decide +kernel
theorem dX7_say_188 : decode cX7_say 188 = .ok (.iload 9, 2) := by decide +kernel
theorem dX7_say_190 : decode cX7_say 190 = .ok (.invokestatic 33, 3) := by decide +kernel
theorem dX7_say_193 : decode cX7_say 193 = .ok (.aload_n 0, 1) := by decide +kernel
theorem dX7_say_194 : decode cX7_say 194 = .ok (.iconst 2, 1) := by decide +kernel
theorem dX7_say_195 : decode cX7_say 195 = .ok (.iload 8, 2) := by decide +kernel
theorem dX7_say_197 : decode cX7_say 197 = .ok (.iload_n 3, 1) := by decide +kernel
theorem dX7_say_198 : decode cX7_say 198 = .ok (.iload 9, 2) := by decide +kernel
theorem dX7_say_200 : decode cX7_say 200 = .ok (.invokestatic 33, 3) := by decide +kernel
theorem dX7_say_203 : decode cX7_say 203 = .ok (.ixor, 1) := by decide +kernel
theorem dX7_say_204 : decode cX7_say 204 = .ok (.ireturn, 1) := by decide +kernel
theorem dX7_say_205 : decode cX7_say 205 = .ok (.aload_n 0, 1) := by decide +kernel
theorem dX7_say_206 : decode cX7_say 206 = .ok (.iconst 0, 1) := by decide +kernel
theorem dX7_say_207 : decode cX7_say 207 = .ok (.iload 6, 2) := by decide +kernel
theorem dX7_say_209 : decode cX7_say 209 = .ok (.iload_n 3, 1) := by decide +kernel
theorem dX7_say_210 : decode cX7_say 210 = .ok (.iload 9, 2) := by decide +kernel
theorem dX7_say_212 : decode cX7_say 212 = .ok (.invokestatic 33, 3) := by decide +kernel
theorem dX7_say_215 : decode cX7_say 215 = .ok (.iconst 3, 1) := by decide +kernel
theorem dX7_say_216 : decode cX7_say 216 = .ok (.imul, 1) := by decide +kernel
theorem dX7_say_217 : decode cX7_say 217 = .ok (.ireturn, 1) := by decide +kernel
theorem dX7_say_218 : decode cX7_say 218 = .ok (.aload_n 0, 1) := by decide +kernel
theorem dX7_say_219 : decode cX7_say 219 = .ok (.iconst 1, 1) := by decide +kernel
theorem dX7_say_220 : decode cX7_say 220 = .ok (.iload 6, 2) := by decide +kernel
theorem dX7_say_222 : decode cX7_say 222 = .ok (.iload_n 3, 1) := by decide +kernel
theorem dX7_say_223 : decode cX7_say 223 = .ok (.iload 9, 2) := by decide +kernel
theorem dX7_say_225 : decode cX7_say 225 = .ok (.invokestatic 33, 3) := by decide +kernel
theorem dX7_say_228 : decode cX7_say 228 = .ok (.aload_n 0, 1) := by decide +kernel
theorem dX7_say_229 : decode cX7_say 229 = .ok (.iconst 2, 1) := by decide +kernel
theorem dX7_say_230 : decode cX7_say 230 = .ok (.iload 8, 2) := by decide +kernel
theorem dX7_say_232 : decode cX7_say 232 = .ok (.iconst 1, 1) := by decide +kernel
theorem dX7_say_233 : decode cX7_say 233 = .ok (.iload 9, 2) := by decide +kernel
theorem dX7_say_235 : decode cX7_say 235 = .ok (.invokestatic 33, 3) := by decide +kernel
theorem dX7_say_238 : decode cX7_say 238 = .ok (.isub, 1) := by decide +kernel
theorem dX7_say_239 : decode cX7_say 239 = .ok (.ireturn, 1) := by decide +kernel
theorem dX7_say_240 : decode cX7_say 240 = .ok (.aload_n 0, 1) := by decide +kernel
theorem dX7_say_241 : decode cX7_say 241 = .ok (.iconst 2, 1) := by decide +kernel
theorem dX7_say_242 : decode cX7_say 242 = .ok (.iload 6, 2) := by decide +kernel
theorem dX7_say_244 : decode cX7_say 244 = .ok (.iload_n 3, 1) := by decide +kernel
theorem dX7_say_245 : decode cX7_say 245 = .ok (.iload 9, 2) := by decide +kernel
theorem dX7_say_247 : decode cX7_say 247 = .ok (.invokestatic 33, 3) := by decide +kernel
theorem dX7_say_250 : decode cX7_say 250 = .ok (.ineg, 1) := by decide +kernel
theorem dX7_say_251 : decode cX7_say 251 = .ok (.ireturn, 1) := by decide +kernel
theorem dX7_say_252 : decode cX7_say 252 = .ok (.aload_n 0, 1) := by decide +kernel
theorem dX7_say_253 : decode cX7_say 253 = .ok (.iconst 3, 1) := by decide +kernel
theorem dX7_say_254 : decode cX7_say 254 = .ok (.iload 6, 2) := by decide +kernel
theorem dX7_say_256 : decode cX7_say 256 = .ok (.iload_n 3, 1) := by decide +kernel
theorem dX7_say_257 : decode cX7_say 257 = .ok (.iload 9, 2) := by decide +kernel
theorem dX7_say_259 : decode cX7_say 259 = .ok (.invokestatic 33, 3) := by decide +kernel
theorem dX7_say_262 : decode cX7_say 262 = .ok (.aload_n 0, 1) := by decide +kernel
theorem dX7_say_263 : decode cX7_say 263 = .ok (.iconst 0, 1) := by decide +kernel
theorem dX7_say_264 : decode cX7_say 264 = .ok (.iload 8, 2) := by decide +kernel
theorem dX7_say_266 : decode cX7_say 266 = .ok (.iconst 2, 1) := by decide +kernel
theorem dX7_say_267 : decode cX7_say 267 = .ok (.iload 9, 2) := by decide +kernel
theorem dX7_say_269 : decode cX7_say 269 = .ok (.invokestatic 33, 3) := by decide +kernel
theorem dX7_say_272 : decode cX7_say 272 = .ok (.isub, 1) := by decide +kernel
theorem dX7_say_273 : decode cX7_say 273 = .ok (.ireturn, 1) := by decide +kernel
theorem dX7_say_274 : decode cX7_say 274 = .ok (.aload_n 0, 1) := by decide +kernel
theorem dX7_say_275 : decode cX7_say 275 = .ok (.iconst 1, 1) := by decide +kernel
theorem dX7_say_276 : decode cX7_say 276 = .ok (.iload 6, 2) := by decide +kernel
theorem dX7_say_278 : decode cX7_say 278 = .ok (.iload_n 3, 1) := by decide +kernel
theorem dX7_say_279 : decode cX7_say 279 = .ok (.iconst 1, 1) := by decide +kernel
theorem dX7_say_280 : decode cX7_say 280 = .ok (.iadd, 1) := by decide +kernel
theorem dX7_say_281 : decode cX7_say 281 = .ok (.iload 9, 2) := by decide +kernel
theorem dX7_say_283 : decode cX7_say 283 = .ok (.invokestatic 33, 3) := by decide +kernel
theorem dX7_say_286 : decode cX7_say 286 = .ok (.ireturn, 1) := by decide +kernel
theorem dX7_say_287 : decode cX7_say 287 = .ok (.aload_n 0, 1) := by decide +kernel
theorem dX7_say_288 : decode cX7_say 288 = .ok (.iconst 2, 1) := by decide +kernel
theorem dX7_say_289 : decode cX7_say 289 = .ok (.iload 6, 2) := by decide +kernel
theorem dX7_say_291 : decode cX7_say 291 = .ok (.iload_n 3, 1) := by decide +kernel
theorem dX7_say_292 : decode cX7_say 292 = .ok (.iload 9, 2) := by decide +kernel
theorem dX7_say_294 : decode cX7_say 294 = .ok (.invokestatic 33, 3) := by decide +kernel
theorem dX7_say_297 : decode cX7_say 297 = .ok (.aload_n 0, 1) := by decide +kernel
theorem dX7_say_298 : decode cX7_say 298 = .ok (.getfield 24, 3) := by decide +kernel
theorem dX7_say_301 : decode cX7_say 301 = .ok (.ixor, 1) := by decide +kernel
theorem dX7_say_302 : decode cX7_say 302 = .ok (.ireturn, 1) := by decide +kernel
theorem dX7_say_303 : decode cX7_say 303 = .ok (.aload_n 0, 1) := by decide +kernel
theorem dX7_say_304 : decode cX7_say 304 = .ok (.iconst 1, 1) := by decide +kernel
theorem dX7_say_305 : decode cX7_say 305 = .ok (.iload 8, 2) := by decide +kernel
theorem dX7_say_307 : decode cX7_say 307 = .ok (.iload_n 3, 1) := by decide +kernel
theorem dX7_say_308 : decode cX7_say 308 = .ok (.iload 9, 2) := by decide +kernel
theorem dX7_say_310 : decode cX7_say 310 = .ok (.invokestatic 33, 3) := by decide +kernel
theorem dX7_say_313 : decode cX7_say 313 = .ok (.aload_n 0, 1) := by decide +kernel
theorem dX7_say_314 : decode cX7_say 314 = .ok (.iconst 3, 1) := by decide +kernel
theorem dX7_say_315 : decode cX7_say 315 = .ok (.iload 6, 2) := by decide +kernel
theorem dX7_say_317 : decode cX7_say 317 = .ok (.iload_n 3, 1) := by decide +kernel
theorem dX7_say_318 : decode cX7_say 318 = .ok (.iload 9, 2) := by decide +kernel
theorem dX7_say_320 : decode cX7_say 320 = .ok (.invokestatic 33, 3) := by decide +kernel
theorem dX7_say_323 : decode cX7_say 323 = .ok (.isub, 1) := by decide +kernel
theorem dX7_say_324 : decode cX7_say 324 = .ok (.ireturn, 1) := by decide +kernel
theorem dX7_say_325 : decode cX7_say 325 = .ok (.iconst 0, 1) := by decide +kernel
theorem dX7_say_326 : decode cX7_say 326 = .ok (.ireturn, 1) := by decide +kernel
set_option maxRecDepth 20000 in
theorem ggX8_init_X0_init : GoodIn wsX8_init wsX0_init := goodIn_r _ [32, 33, 2, 3, 34, 26, 35, 36, 37, 38, 39, 40, 41, 42, 43, 44, 45, 46, 47, 48, 49, 50, 51, 52, 53, 54, 55, 56, 87, 88, 89, 90, 91, 92, 93, 94, 95, 96, 97, 98, 99, 100, 101, 102, 103, 104, 105, 139, 140] (by decide +kernel) (by decide +kernel)
set_option maxRecDepth 20000 in
theorem gX8_init_X0_init : GoodIn wsX8_init (wsX0_init) := ggX8_init_X0_init
set_option maxRecDepth 20000 in
theorem ggX8_init_X3_init : GoodIn wsX8_init wsX3_init := goodIn_r _ [59, 60, 2, 3, 61, 43, 44, 62, 63, 64, 65, 49, 50, 51, 52, 53, 54, 55, 26, 56, 139, 140, 117, 118, 119, 120, 121, 122, 123] (by decide +kernel) (by decide +kernel)
set_option maxRecDepth 20000 in
theorem gX8_init_X3_init : GoodIn wsX8_init (wsX3_init) := ggX8_init_X3_init
set_option maxRecDepth 20000 in
theorem ggX8_init_X2_init : GoodIn wsX8_init wsX2_init := goodIn_r _ [68, 69, 2, 3, 26, 70, 71, 72, 73, 74, 124, 125, 126, 127, 128, 129, 130, 131] (by decide +kernel) (by decide +kernel)
set_option maxRecDepth 20000 in
theorem gX8_init_X2_init : GoodIn wsX8_init (wsX2_init) := ggX8_init_X2_init
set_option maxRecDepth 20000 in
theorem ggX8_init_X7_init : GoodIn wsX8_init wsX7_init := goodIn_r _ [77, 78, 2, 3, 79, 43, 44, 80, 81, 49, 50, 51, 52, 53, 54, 55, 26, 56, 139, 140, 132, 133, 134, 135] (by decide +kernel) (by decide +kernel)
set_option maxRecDepth 20000 in
theorem gX8_init_X7_init : GoodIn wsX8_init (wsX7_init) := ggX8_init_X7_init
set_option maxRecDepth 20000 in
theorem ggX8_init_X5_init : GoodIn wsX8_init wsX5_init := goodIn_r _ [84, 85, 2, 3, 26, 86, 136, 137, 138] (by decide +kernel) (by decide +kernel)
set_option maxRecDepth 20000 in
theorem gX8_init_X5_init : GoodIn wsX8_init (wsX5_init) := ggX8_init_X5_init
theorem dX8_init_0 : decode cX8_init 0 = .ok (.aload_n 0, 1) := by decide +kernel
theorem dX8_init_1 : decode cX8_init 1 = .ok (.invokespecial 1, 3) := by decide +kernel
theorem dX8_init_4 : decode cX8_init 4 = .ok (.aload_n 0, 1) := by decide +kernel
theorem dX8_init_5 : decode cX8_init 5 = .ok (.new 7, 3) := by decide +kernel
theorem dX8_init_8 : decode cX8_init 8 = .ok (.dup, 1) := by decide +kernel
theorem dX8_init_9 : decode cX8_init 9 = .ok (.invokespecial 9, 3) := by decide +kernel
theorem dX8_init_12 : decode cX8_init 12 = .ok (.putfield 10, 3) := by decide +kernel
theorem dX8_init_15 : decode cX8_init 15 = .ok (.aload_n 0, 1) := by decide +kernel
theorem dX8_init_16 : decode cX8_init 16 = .ok (.new 7, 3) := by decide +kernel
theorem dX8_init_19 : decode cX8_init 19 = .ok (.dup, 1) := by decide +kernel
theorem dX8_init_20 : decode cX8_init 20 = .ok (.invokespecial 9, 3) := by decide +kernel
theorem dX8_init_23 : decode cX8_init 23 = .ok (.putfield 16, 3) := by decide +kernel
theorem dX8_init_26 : decode cX8_init 26 = .ok (.aload_n 0, 1) := by decide +kernel
theorem dX8_init_27 : decode cX8_init 27 = .ok (.new 7, 3) := by decide +kernel
theorem dX8_init_30 : decode cX8_init 30 = .ok (.dup, 1) := by decide +kernel
theorem dX8_init_31 : decode cX8_init 31 = .ok (.invokespecial 9, 3) := by decide +kernel
theorem dX8_init_34 : decode cX8_init 34 = .ok (.putfield 19, 3) := by decide +kernel
theorem dX8_init_37 : decode cX8_init 37 = .ok (.aload_n 0, 1) := by decide +kernel
theorem dX8_init_38 : decode cX8_init 38 = .ok (.new 22, 3) := by decide +kernel
theorem dX8_init_41 : decode cX8_init 41 = .ok (.dup, 1) := by decide +kernel
theorem dX8_init_42 : decode cX8_init 42 = .ok (.invokespecial 24, 3) := by decide +kernel
theorem dX8_init_45 : decode cX8_init 45 = .ok (.putfield 25, 3) := by decide +kernel
theorem dX8_init_48 : decode cX8_init 48 = .ok (.aload_n 0, 1) := by decide +kernel
theorem dX8_init_49 : decode cX8_init 49 = .ok (.new 29, 3) := by decide +kernel
theorem dX8_init_52 : decode cX8_init 52 = .ok (.dup, 1) := by decide +kernel
theorem dX8_init_53 : decode cX8_init 53 = .ok (.invokespecial 31, 3) := by decide +kernel
theorem dX8_init_56 : decode cX8_init 56 = .ok (.putfield 32, 3) := by decide +kernel
theorem dX8_init_59 : decode cX8_init 59 = .ok (.aload_n 0, 1) := by decide +kernel
theorem dX8_init_60 : decode cX8_init 60 = .ok (.new 36, 3) := by decide +kernel
theorem dX8_init_63 : decode cX8_init 63 = .ok (.dup, 1) := by decide +kernel
theorem dX8_init_64 : decode cX8_init 64 = .ok (.invokespecial 38, 3) := by decide +kernel
theorem dX8_init_67 : decode cX8_init 67 = .ok (.putfield 39, 3) := by decide +kernel
theorem dX8_init_70 : decode cX8_init 70 = .ok (.aload_n 0, 1) := by decide +kernel
theorem dX8_init_71 : decode cX8_init 71 = .ok (.iconst 4, 1) := by decide +kernel
theorem dX8_init_72 : decode cX8_init 72 = .ok (.anewarray 43, 3) := by decide +kernel
theorem dX8_init_75 : decode cX8_init 75 = .ok (.putfield 45, 3) := by decide +kernel
theorem dX8_init_78 : decode cX8_init 78 = .ok (.iconst 0, 1) := by decide +kernel
theorem dX8_init_79 : decode cX8_init 79 = .ok (.istore_n 1, 1) := by decide +kernel
theorem dX8_init_80 : decode cX8_init 80 = .ok (.iload_n 1, 1) := by decide +kernel
theorem dX8_init_81 : decode cX8_init 81 = .ok (.iconst 4, 1) := by decide +kernel
theorem dX8_init_82 : decode cX8_init 82 = .ok (.if_icmp .ge 22, 3) := by decide +kernel
theorem dX8_init_85 : decode cX8_init 85 = .ok (.aload_n 0, 1) := by decide +kernel
theorem dX8_init_86 : decode cX8_init 86 = .ok (.getfield 45, 3) := by decide +kernel
theorem dX8_init_89 : decode cX8_init 89 = .ok (.iload_n 1, 1) := by decide +kernel
theorem dX8_init_90 : decode cX8_init 90 = .ok (.new 43, 3) := by decide +kernel
theorem dX8_init_93 : decode cX8_init 93 = .ok (.dup, 1) := by decide +kernel
theorem dX8_init_94 : decode cX8_init 94 = .ok (.invokespecial 49, 3) := by decide +kernel
theorem dX8_init_97 : decode cX8_init 97 = .ok (.aastore, 1) := by decide +kernel
theorem dX8_init_98 : decode cX8_init 98 = .ok (.iinc 1 1, 3) := by decide +kernel
theorem dX8_init_101 : decode cX8_init 101 = .ok (.goto (-21), 3) := by decide +kernel
theorem dX8_init_104 : decode cX8_init 104 = .ok (.aload_n 0, 1) := by decide +kernel
theorem dX8_init_105 : decode cX8_init 105 = .ok (.bipush 8, 2) := by decide +kernel
theorem dX8_init_107 : decode cX8_init 107 = .ok (.newarray .int, 2) := by decide +kernel
theorem dX8_init_109 : decode cX8_init 109 = .ok (.putfield 50, 3) := by decide +kernel
theorem dX8_init_112 : decode cX8_init 112 = .ok (.aload_n 0, 1) := by decide +kernel
theorem dX8_init_113 : decode cX8_init 113 = .ok (.bipush 8, 2) := by decide +kernel
theorem dX8_init_115 : decode cX8_init 115 = .ok (.newarray .int, 2) := by decide +kernel
theorem dX8_init_117 : decode cX8_init 117 = .ok (.putfield 54, 3) := by decide +kernel
theorem dX8_init_120 : decode cX8_init 120 = .ok (.aload_n 0, 1) := by decide +kernel
theorem dX8_init_121 : decode cX8_init 121 = .ok (.bipush 6, 2) := by decide +kernel
theorem dX8_init_123 : decode cX8_init 123 = .ok (.newarray .int, 2) := by decide +kernel
theorem dX8_init_125 : decode cX8_init 125 = .ok (.putfield 57, 3) := by decide +kernel
theorem dX8_init_128 : decode cX8_init 128 = .ok (.return_, 1) := by decide +kernel
set_option maxRecDepth 20000 in
theorem ggX8_field_X8_within : GoodIn wsX8_field wsX8_within := goodIn_r _ [7] (by decide +kernel) (by decide +kernel)
set_option maxRecDepth 20000 in
theorem gX8_field_X8_within : GoodIn wsX8_field (va_wsS RX8 60 yX8_within wsX8_within) := goodIn_app (goodIn_of _ (by decide +kernel)) ggX8_field_X8_within
set_option maxRecDepth 20000 in
theorem ggX8_field_X8_error : GoodIn wsX8_field wsX8_error := goodIn_r _ [11, 12, 13, 4, 5, 6, 7, 28, 29, 30, 31, 32, 33, 34, 35, 36, 37, 38] (by decide +kernel) (by decide +kernel)
set_option maxRecDepth 20000 in
theorem gX8_field_X8_error : GoodIn wsX8_field (wsV RX8 64 RX8 yX8_error wsX8_error) := goodIn_app (goodIn_of _ (by decide +kernel)) ggX8_field_X8_error
set_option maxRecDepth 20000 in
theorem ggX8_field_X0_startAnew : GoodIn wsX8_field wsX0_startAnew := goodIn_r _ [18, 19, 20, 21, 22, 23, 24, 25, 26, 27, 39, 40, 41, 42, 43, 44, 45, 46, 47, 48, 49, 50, 51, 52, 53, 54, 55, 56, 57] (by decide +kernel) (by decide +kernel)
set_option maxRecDepth 20000 in
theorem gX8_field_X0_startAnew : GoodIn wsX8_field (wsV RX8 75 RX0 yX0_startAnew wsX0_startAnew) := goodIn_app (goodIn_of _ (by decide +kernel)) ggX8_field_X0_startAnew
theorem dX8_field_0 : decode cX8_field 0 = .ok (.iload_n 1, 1) := by decide +kernel
theorem dX8_field_1 : decode cX8_field 1 = .ok (.iconst 3, 1) := by decide +kernel
theorem dX8_field_2 : decode cX8_field 2 = .ok (.bipush 10, 2) := by decide +kernel
theorem dX8_field_4 : decode cX8_field 4 = .ok (.invokestatic 60, 3) := by decide +kernel
theorem dX8_field_7 : decode cX8_field 7 = .ok (.ifCond .ne 9, 3) := by decide +kernel
theorem dX8_field_10 : decode cX8_field 10 = .ok (.aload_n 0, 1) := by decide +kernel
theorem dX8_field_11 : decode cX8_field 11 = .ok (.iconst 1, 1) := by decide +kernel
theorem dX8_field_12 : decode cX8_field 12 = .ok (.invokevirtual 64, 3) := by decide +kernel
theorem dX8_field_15 : decode cX8_field 15 = .ok (.ireturn, 1) := by decide +kernel
theorem dX8_field_16 : decode cX8_field 16 = .ok (.aload_n 0, 1) := by decide +kernel
theorem dX8_field_17 : decode cX8_field 17 = .ok (.getfield 10, 3) := by decide +kernel
theorem dX8_field_20 : decode cX8_field 20 = .ok (.getfield 68, 3) := by decide +kernel
theorem dX8_field_23 : decode cX8_field 23 = .ok (.ifCond .le 9, 3) := by decide +kernel
theorem dX8_field_26 : decode cX8_field 26 = .ok (.aload_n 0, 1) := by decide +kernel
theorem dX8_field_27 : decode cX8_field 27 = .ok (.iconst 3, 1) := by decide +kernel
theorem dX8_field_28 : decode cX8_field 28 = .ok (.invokevirtual 64, 3) := by decide +kernel
theorem dX8_field_31 : decode cX8_field 31 = .ok (.ireturn, 1) := by decide +kernel
theorem dX8_field_32 : decode cX8_field 32 = .ok (.aload_n 0, 1) := by decide +kernel
theorem dX8_field_33 : decode cX8_field 33 = .ok (.getfield 10, 3) := by decide +kernel
theorem dX8_field_36 : decode cX8_field 36 = .ok (.getfield 72, 3) := by decide +kernel
theorem dX8_field_39 : decode cX8_field 39 = .ok (.istore_n 2, 1) := by decide +kernel
theorem dX8_field_40 : decode cX8_field 40 = .ok (.aload_n 0, 1) := by decide +kernel
theorem dX8_field_41 : decode cX8_field 41 = .ok (.getfield 10, 3) := by decide +kernel
theorem dX8_field_44 : decode cX8_field 44 = .ok (.iload_n 1, 1) := by decide +kernel
theorem dX8_field_45 : decode cX8_field 45 = .ok (.invokevirtual 75, 3) := by decide +kernel
theorem dX8_field_48 : decode cX8_field 48 = .ok (.iload_n 2, 1) := by decide +kernel
theorem dX8_field_49 : decode cX8_field 49 = .ok (.ireturn, 1) := by decide +kernel
set_option maxRecDepth 20000 in
theorem ggX8_sow_X8_isCell : GoodIn wsX8_sow wsX8_isCell := goodIn_r _ [9, 2, 10, 11, 12, 8, 13, 20, 21, 22, 23, 24, 25, 26, 27, 28, 29, 30, 31, 32, 33, 34, 35, 36, 37, 38, 39, 40, 41, 42, 43, 44, 45, 46, 47, 48, 49] (by decide +kernel) (by decide +kernel)
set_option maxRecDepth 20000 in
theorem gX8_sow_X8_isCell : GoodIn wsX8_sow (wsV RX8 79 RX8 yX8_isCell wsX8_isCell) := goodIn_app (goodIn_of _ (by decide +kernel)) ggX8_sow_X8_isCell
set_option maxRecDepth 20000 in
theorem ggX8_sow_X8_within : GoodIn wsX8_sow wsX8_within := goodIn_r _ [13] (by decide +kernel) (by decide +kernel)
set_option maxRecDepth 20000 in
theorem gX8_sow_X8_within : GoodIn wsX8_sow (va_wsS RX8 60 yX8_within wsX8_within) := goodIn_app (goodIn_of _ (by decide +kernel)) ggX8_sow_X8_within
set_option maxRecDepth 20000 in
theorem ggX8_sow_X8_error : GoodIn wsX8_sow wsX8_error := goodIn_r _ [17, 18, 19, 11, 12, 8, 13, 20, 21, 22, 23, 24, 25, 26, 27, 28, 29, 30] (by decide +kernel) (by decide +kernel)
set_option maxRecDepth 20000 in
theorem gX8_sow_X8_error : GoodIn wsX8_sow (wsV RX8 64 RX8 yX8_error wsX8_error) := goodIn_app (goodIn_of _ (by decide +kernel)) ggX8_sow_X8_error
theorem dX8_sow_0 : decode cX8_sow 0 = .ok (.aload_n 0, 1) := by decide +kernel
theorem dX8_sow_1 : decode cX8_sow 1 = .ok (.iload_n 1, 1) := by decide +kernel
theorem dX8_sow_2 : decode cX8_sow 2 = .ok (.invokevirtual 79, 3) := by decide +kernel
theorem dX8_sow_5 : decode cX8_sow 5 = .ok (.ifCond .eq 31, 3) := by decide +kernel
theorem dX8_sow_8 : decode cX8_sow 8 = .ok (.iload_n 2, 1) := by decide +kernel
theorem dX8_sow_9 : decode cX8_sow 9 = .ok (.iconst 0, 1) := by decide +kernel
theorem dX8_sow_10 : decode cX8_sow 10 = .ok (.iconst 1, 1) := by decide +kernel
theorem dX8_sow_11 : decode cX8_sow 11 = .ok (.invokestatic 60, 3) := by decide +kernel
theorem dX8_sow_14 : decode cX8_sow 14 = .ok (.ifCond .eq 22, 3) := by decide +kernel
theorem dX8_sow_17 : decode cX8_sow 17 = .ok (.iload_n 3, 1) := by decide +kernel
theorem dX8_sow_18 : decode cX8_sow 18 = .ok (.iconst 0, 1) := by decide +kernel
theorem dX8_sow_19 : decode cX8_sow 19 = .ok (.iload_n 2, 1) := by decide +kernel
theorem dX8_sow_20 : decode cX8_sow 20 = .ok (.ifCond .ne 8, 3) := by decide +kernel
theorem dX8_sow_23 : decode cX8_sow 23 = .ok (.ldc 83, 2) := by decide +kernel
theorem dX8_sow_25 : decode cX8_sow 25 = .ok (.goto 5, 3) := by decide +kernel
theorem dX8_sow_28 : decode cX8_sow 28 = .ok (.bipush 99, 2) := by decide +kernel
theorem dX8_sow_30 : decode cX8_sow 30 = .ok (.invokestatic 60, 3) := by decide +kernel
theorem dX8_sow_33 : decode cX8_sow 33 = .ok (.ifCond .ne 9, 3) := by decide +kernel
theorem dX8_sow_36 : decode cX8_sow 36 = .ok (.aload_n 0, 1) := by decide +kernel
theorem dX8_sow_37 : decode cX8_sow 37 = .ok (.iconst 1, 1) := by decide +kernel
theorem dX8_sow_38 : decode cX8_sow 38 = .ok (.invokevirtual 64, 3) := by decide +kernel
theorem dX8_sow_41 : decode cX8_sow 41 = .ok (.ireturn, 1) := by decide +kernel
theorem dX8_sow_42 : decode cX8_sow 42 = .ok (.iload_n 2, 1) := by decide +kernel
theorem dX8_sow_43 : decode cX8_sow 43 = .ok (.ifCond .ne 13, 3) := by decide +kernel
theorem dX8_sow_46 : decode cX8_sow 46 = .ok (.aload_n 0, 1) := by decide +kernel
theorem dX8_sow_47 : decode cX8_sow 47 = .ok (.getfield 10, 3) := by decide +kernel
theorem dX8_sow_50 : decode cX8_sow 50 = .ok (.getfield 84, 3) := by decide +kernel
theorem dX8_sow_53 : decode cX8_sow 53 = .ok (.goto 10, 3) := by decide +kernel
theorem dX8_sow_56 : decode cX8_sow 56 = .ok (.aload_n 0, 1) := by decide +kernel
theorem dX8_sow_57 : decode cX8_sow 57 = .ok (.getfield 10, 3) := by decide +kernel
theorem dX8_sow_60 : decode cX8_sow 60 = .ok (.getfield 87, 3) := by decide +kernel
theorem dX8_sow_63 : decode cX8_sow 63 = .ok (.astore 4, 2) := by decide +kernel
theorem dX8_sow_65 : decode cX8_sow 65 = .ok (.aload 4, 2) := by decide +kernel
theorem dX8_sow_67 : decode cX8_sow 67 = .ok (.iload_n 1, 1) := by decide +kernel
theorem dX8_sow_68 : decode cX8_sow 68 = .ok (.iaload, 1) := by decide +kernel
theorem dX8_sow_69 : decode cX8_sow 69 = .ok (.istore 5, 2) := by decide +kernel
theorem dX8_sow_71 : decode cX8_sow 71 = .ok (.aload 4, 2) := by decide +kernel
theorem dX8_sow_73 : decode cX8_sow 73 = .ok (.iload_n 1, 1) := by decide +kernel
theorem dX8_sow_74 : decode cX8_sow 74 = .ok (.iload_n 3, 1) := by decide +kernel
theorem dX8_sow_75 : decode cX8_sow 75 = .ok (.iastore, 1) := by decide +kernel
theorem dX8_sow_76 : decode cX8_sow 76 = .ok (.iload 5, 2) := by decide +kernel
theorem dX8_sow_78 : decode cX8_sow 78 = .ok (.ireturn, 1) := by decide +kernel
set_option maxRecDepth 20000 in
theorem ggX8_ofCell_X8_isCell : GoodIn wsX8_ofCell wsX8_isCell := goodIn_r _ [8, 1, 9, 10, 11, 7, 12, 75, 76, 77, 78, 79, 80, 81, 82, 83, 84, 85, 86, 87, 88, 89, 90, 91, 92, 93, 94, 95, 96, 97, 98, 99, 100, 101, 102, 103, 104] (by decide +kernel) (by decide +kernel)
set_option maxRecDepth 20000 in
theorem gX8_ofCell_X8_isCell : GoodIn wsX8_ofCell (wsV RX8 79 RX8 yX8_isCell wsX8_isCell) := goodIn_app (goodIn_of _ (by decide +kernel)) ggX8_ofCell_X8_isCell
set_option maxRecDepth 20000 in
theorem ggX8_ofCell_X8_error : GoodIn wsX8_ofCell wsX8_error := goodIn_r _ [16, 17, 18, 10, 11, 7, 12, 75, 76, 77, 78, 79, 80, 81, 82, 83, 84, 85] (by decide +kernel) (by decide +kernel)
set_option maxRecDepth 20000 in
theorem gX8_ofCell_X8_error : GoodIn wsX8_ofCell (wsV RX8 64 RX8 yX8_error wsX8_error) := goodIn_app (goodIn_of _ (by decide +kernel)) ggX8_ofCell_X8_error
set_option maxRecDepth 20000 in
theorem ggX8_ofCell_X0_whoSee : GoodIn wsX8_ofCell wsX0_whoSee := goodIn_r _ [23, 24, 25, 26, 27, 22, 28, 29, 30, 31, 32, 33, 34, 35, 36, 37, 38, 39, 40, 41, 42, 43, 44, 45, 46, 47, 48, 49, 50, 51, 52, 53, 54, 7, 55, 56, 57, 58, 59, 60, 61, 62, 63, 64, 65, 66, 67, 68, 69, 70, 86, 87, 88, 89, 90, 91, 92, 93, 94, 95, 96, 97, 98, 99, 100, 101, 102, 103, 104, 105, 106] (by decide +kernel) (by decide +kernel)
set_option maxRecDepth 20000 in
theorem gX8_ofCell_X0_whoSee : GoodIn wsX8_ofCell (wsV RX8 90 RX0 yX0_whoSee wsX0_whoSee) := goodIn_app (goodIn_of _ (by decide +kernel)) ggX8_ofCell_X0_whoSee
set_option maxRecDepth 20000 in
theorem ggX8_ofCell_X0_whoAreAt : GoodIn wsX8_ofCell wsX0_whoAreAt := goodIn_r _ [74, 24, 29, 86, 87, 88, 89, 90, 91, 92, 93, 94, 95, 96, 97, 98, 99, 100, 101, 102, 103, 104] (by decide +kernel) (by decide +kernel)
set_option maxRecDepth 20000 in
theorem gX8_ofCell_X0_whoAreAt : GoodIn wsX8_ofCell (wsV RX8 93 RX0 yX0_whoAreAt wsX0_whoAreAt) := goodIn_app (goodIn_of _ (by decide +kernel)) ggX8_ofCell_X0_whoAreAt
theorem dX8_ofCell_0 : decode cX8_ofCell 0 = .ok (.aload_n 0, 1) := by decide +kernel
theorem dX8_ofCell_1 : decode cX8_ofCell 1 = .ok (.iload_n 1, 1) := by decide +kernel
theorem dX8_ofCell_2 : decode cX8_ofCell 2 = .ok (.invokevirtual 79, 3) := by decide +kernel
theorem dX8_ofCell_5 : decode cX8_ofCell 5 = .ok (.ifCond .ne 9, 3) := by decide +kernel
theorem dX8_ofCell_8 : decode cX8_ofCell 8 = .ok (.aload_n 0, 1) := by decide +kernel
theorem dX8_ofCell_9 : decode cX8_ofCell 9 = .ok (.iconst 1, 1) := by decide +kernel
theorem dX8_ofCell_10 : decode cX8_ofCell 10 = .ok (.invokevirtual 64, 3) := by decide +kernel
theorem dX8_ofCell_13 : decode cX8_ofCell 13 = .ok (.ireturn, 1) := by decide +kernel
theorem dX8_ofCell_14 : decode cX8_ofCell 14 = .ok (.iload_n 2, 1) := by decide +kernel
theorem dX8_ofCell_15 : decode cX8_ofCell 15 = .ok (.tableswitch 67 0 3 #[29, 39, 49, 58], 29) := by decide +kernel
theorem dX8_ofCell_44 : decode cX8_ofCell 44 = .ok (.aload_n 0, 1) := by decide +kernel
theorem dX8_ofCell_45 : decode cX8_ofCell 45 = .ok (.getfield 10, 3) := by decide +kernel
theorem dX8_ofCell_48 : decode cX8_ofCell 48 = .ok (.getfield 84, 3) := by decide +kernel
theorem dX8_ofCell_51 : decode cX8_ofCell 51 = .ok (.iload_n 1, 1) := by decide +kernel
theorem dX8_ofCell_52 : decode cX8_ofCell 52 = .ok (.iaload, 1) := by decide +kernel
theorem dX8_ofCell_53 : decode cX8_ofCell 53 = .ok (.ireturn, 1) := by decide +kernel
theorem dX8_ofCell_54 : decode cX8_ofCell 54 = .ok (.aload_n 0, 1) := by decide +kernel
theorem dX8_ofCell_55 : decode cX8_ofCell 55 = .ok (.getfield 10, 3) := by decide +kernel
theorem dX8_ofCell_58 : decode cX8_ofCell 58 = .ok (.getfield 87, 3) := by decide +kernel
theorem dX8_ofCell_61 : decode cX8_ofCell 61 = .ok (.iload_n 1, 1) := by decide +kernel
theorem dX8_ofCell_62 : decode cX8_ofCell 62 = .ok (.iaload, 1) := by decide +kernel
theorem dX8_ofCell_63 : decode cX8_ofCell 63 = .ok (.ireturn, 1) := by decide +kernel
theorem dX8_ofCell_64 : decode cX8_ofCell 64 = .ok (.aload_n 0, 1) := by decide +kernel
theorem dX8_ofCell_65 : decode cX8_ofCell 65 = .ok (.getfield 10, 3) := by decide +kernel
theorem dX8_ofCell_68 : decode cX8_ofCell 68 = .ok (.iload_n 1, 1) := by decide +kernel
theorem dX8_ofCell_69 : decode cX8_ofCell 69 = .ok (.invokevirtual 90, 3) := by decide +kernel
theorem dX8_ofCell_72 : decode cX8_ofCell 72 = .ok (.ireturn, 1) := by decide +kernel
theorem dX8_ofCell_73 : decode cX8_ofCell 73 = .ok (.aload_n 0, 1) := by decide +kernel
theorem dX8_ofCell_74 : decode cX8_ofCell 74 = .ok (.getfield 10, 3) := by decide +kernel
theorem dX8_ofCell_77 : decode cX8_ofCell 77 = .ok (.iload_n 1, 1) := by decide +kernel
theorem dX8_ofCell_78 : decode cX8_ofCell 78 = .ok (.invokevirtual 93, 3) := by decide +kernel
theorem dX8_ofCell_81 : decode cX8_ofCell 81 = .ok (.ireturn, 1) := by decide +kernel
theorem dX8_ofCell_82 : decode cX8_ofCell 82 = .ok (.aload_n 0, 1) := by decide +kernel
theorem dX8_ofCell_83 : decode cX8_ofCell 83 = .ok (.iconst 1, 1) := by decide +kernel
theorem dX8_ofCell_84 : decode cX8_ofCell 84 = .ok (.invokevirtual 64, 3) := by decide +kernel
theorem dX8_ofCell_87 : decode cX8_ofCell 87 = .ok (.ireturn, 1) := by decide +kernel
set_option maxRecDepth 20000 in
theorem ggX8_lay_X8_within : GoodIn wsX8_lay wsX8_within := goodIn_r _ [8] (by decide +kernel) (by decide +kernel)
set_option maxRecDepth 20000 in
theorem gX8_lay_X8_within : GoodIn wsX8_lay (va_wsS RX8 60 yX8_within wsX8_within) := goodIn_app (goodIn_of _ (by decide +kernel)) ggX8_lay_X8_within
set_option maxRecDepth 20000 in
theorem ggX8_lay_X8_mostLaid : GoodIn wsX8_lay wsX8_mostLaid := goodIn_r _ [12, 1, 13, 20, 21, 22, 23, 24, 25, 26, 27, 28, 29, 30, 31, 32, 33, 34, 35, 36, 37, 38, 39, 40, 41, 42, 43, 44, 45, 46, 47, 48, 49] (by decide +kernel) (by decide +kernel)
set_option maxRecDepth 20000 in
theorem gX8_lay_X8_mostLaid : GoodIn wsX8_lay (wsV RX8 96 RX8 yX8_mostLaid wsX8_mostLaid) := goodIn_app (goodIn_of _ (by decide +kernel)) ggX8_lay_X8_mostLaid
set_option maxRecDepth 20000 in
theorem ggX8_lay_X8_error : GoodIn wsX8_lay wsX8_error := goodIn_r _ [17, 18, 19, 5, 6, 7, 8, 20, 21, 22, 23, 24, 25, 26, 27, 28, 29, 30] (by decide +kernel) (by decide +kernel)
set_option maxRecDepth 20000 in
theorem gX8_lay_X8_error : GoodIn wsX8_lay (wsV RX8 64 RX8 yX8_error wsX8_error) := goodIn_app (goodIn_of _ (by decide +kernel)) ggX8_lay_X8_error
theorem dX8_lay_0 : decode cX8_lay 0 = .ok (.iload_n 1, 1) := by decide +kernel
theorem dX8_lay_1 : decode cX8_lay 1 = .ok (.iconst 0, 1) := by decide +kernel
theorem dX8_lay_2 : decode cX8_lay 2 = .ok (.iconst 2, 1) := by decide +kernel
theorem dX8_lay_3 : decode cX8_lay 3 = .ok (.invokestatic 60, 3) := by decide +kernel
theorem dX8_lay_6 : decode cX8_lay 6 = .ok (.ifCond .eq 16, 3) := by decide +kernel
theorem dX8_lay_9 : decode cX8_lay 9 = .ok (.iload_n 2, 1) := by decide +kernel
theorem dX8_lay_10 : decode cX8_lay 10 = .ok (.iconst 0, 1) := by decide +kernel
theorem dX8_lay_11 : decode cX8_lay 11 = .ok (.aload_n 0, 1) := by decide +kernel
theorem dX8_lay_12 : decode cX8_lay 12 = .ok (.iload_n 1, 1) := by decide +kernel
theorem dX8_lay_13 : decode cX8_lay 13 = .ok (.invokevirtual 96, 3) := by decide +kernel
theorem dX8_lay_16 : decode cX8_lay 16 = .ok (.invokestatic 60, 3) := by decide +kernel
theorem dX8_lay_19 : decode cX8_lay 19 = .ok (.ifCond .ne 9, 3) := by decide +kernel
theorem dX8_lay_22 : decode cX8_lay 22 = .ok (.aload_n 0, 1) := by decide +kernel
theorem dX8_lay_23 : decode cX8_lay 23 = .ok (.iconst 1, 1) := by decide +kernel
theorem dX8_lay_24 : decode cX8_lay 24 = .ok (.invokevirtual 64, 3) := by decide +kernel
theorem dX8_lay_27 : decode cX8_lay 27 = .ok (.ireturn, 1) := by decide +kernel
theorem dX8_lay_28 : decode cX8_lay 28 = .ok (.iload_n 1, 1) := by decide +kernel
theorem dX8_lay_29 : decode cX8_lay 29 = .ok (.ifCond .ne 22, 3) := by decide +kernel
theorem dX8_lay_32 : decode cX8_lay 32 = .ok (.aload_n 0, 1) := by decide +kernel
theorem dX8_lay_33 : decode cX8_lay 33 = .ok (.getfield 10, 3) := by decide +kernel
theorem dX8_lay_36 : decode cX8_lay 36 = .ok (.getfield 99, 3) := by decide +kernel
theorem dX8_lay_39 : decode cX8_lay 39 = .ok (.istore_n 3, 1) := by decide +kernel
theorem dX8_lay_40 : decode cX8_lay 40 = .ok (.aload_n 0, 1) := by decide +kernel
theorem dX8_lay_41 : decode cX8_lay 41 = .ok (.getfield 10, 3) := by decide +kernel
theorem dX8_lay_44 : decode cX8_lay 44 = .ok (.iload_n 2, 1) := by decide +kernel
theorem dX8_lay_45 : decode cX8_lay 45 = .ok (.putfield 99, 3) := by decide +kernel
theorem dX8_lay_48 : decode cX8_lay 48 = .ok (.goto 43, 3) := by decide +kernel
theorem dX8_lay_51 : decode cX8_lay 51 = .ok (.iload_n 1, 1) := by decide +kernel
theorem dX8_lay_52 : decode cX8_lay 52 = .ok (.iconst 1, 1) := by decide +kernel
theorem dX8_lay_53 : decode cX8_lay 53 = .ok (.if_icmp .ne 22, 3) := by decide +kernel
theorem dX8_lay_56 : decode cX8_lay 56 = .ok (.aload_n 0, 1) := by decide +kernel
theorem dX8_lay_57 : decode cX8_lay 57 = .ok (.getfield 10, 3) := by decide +kernel
theorem dX8_lay_60 : decode cX8_lay 60 = .ok (.getfield 102, 3) := by decide +kernel
theorem dX8_lay_63 : decode cX8_lay 63 = .ok (.istore_n 3, 1) := by decide +kernel
theorem dX8_lay_64 : decode cX8_lay 64 = .ok (.aload_n 0, 1) := by decide +kernel
theorem dX8_lay_65 : decode cX8_lay 65 = .ok (.getfield 10, 3) := by decide +kernel
theorem dX8_lay_68 : decode cX8_lay 68 = .ok (.iload_n 2, 1) := by decide +kernel
theorem dX8_lay_69 : decode cX8_lay 69 = .ok (.putfield 102, 3) := by decide +kernel
theorem dX8_lay_72 : decode cX8_lay 72 = .ok (.goto 19, 3) := by decide +kernel
theorem dX8_lay_75 : decode cX8_lay 75 = .ok (.aload_n 0, 1) := by decide +kernel
theorem dX8_lay_76 : decode cX8_lay 76 = .ok (.getfield 10, 3) := by decide +kernel
theorem dX8_lay_79 : decode cX8_lay 79 = .ok (.getfield 105, 3) := by decide +kernel
theorem dX8_lay_82 : decode cX8_lay 82 = .ok (.istore_n 3, 1) := by decide +kernel
theorem dX8_lay_83 : decode cX8_lay 83 = .ok (.aload_n 0, 1) := by decide +kernel
theorem dX8_lay_84 : decode cX8_lay 84 = .ok (.getfield 10, 3) := by decide +kernel
theorem dX8_lay_87 : decode cX8_lay 87 = .ok (.iload_n 2, 1) := by decide +kernel
theorem dX8_lay_88 : decode cX8_lay 88 = .ok (.putfield 105, 3) := by decide +kernel
theorem dX8_lay_91 : decode cX8_lay 91 = .ok (.iload_n 3, 1) := by decide +kernel
theorem dX8_lay_92 : decode cX8_lay 92 = .ok (.ireturn, 1) := by decide +kernel
theorem dX8_mostLaid_0 : decode cX8_mostLaid 0 = .ok (.iload_n 1, 1) := by decide +kernel
theorem dX8_mostLaid_1 : decode cX8_mostLaid 1 = .ok (.lookupswitch 53 #[(0, 27), (1, 41)], 27) := by decide +kernel
theorem dX8_mostLaid_28 : decode cX8_mostLaid 28 = .ok (.iconst 1, 1) := by decide +kernel
theorem dX8_mostLaid_29 : decode cX8_mostLaid 29 = .ok (.aload_n 0, 1) := by decide +kernel
theorem dX8_mostLaid_30 : decode cX8_mostLaid 30 = .ok (.getfield 10, 3) := by decide +kernel
theorem dX8_mostLaid_33 : decode cX8_mostLaid 33 = .ok (.getfield 72, 3) := by decide +kernel
theorem dX8_mostLaid_36 : decode cX8_mostLaid 36 = .ok (.iconst 1, 1) := by decide +kernel
theorem dX8_mostLaid_37 : decode cX8_mostLaid 37 = .ok (.isub, 1) := by decide +kernel
theorem dX8_mostLaid_38 : decode cX8_mostLaid 38 = .ok (.ishl, 1) := by decide +kernel
theorem dX8_mostLaid_39 : decode cX8_mostLaid 39 = .ok (.iconst 1, 1) := by decide +kernel
theorem dX8_mostLaid_40 : decode cX8_mostLaid 40 = .ok (.isub, 1) := by decide +kernel
theorem dX8_mostLaid_41 : decode cX8_mostLaid 41 = .ok (.ireturn, 1) := by decide +kernel
theorem dX8_mostLaid_42 : decode cX8_mostLaid 42 = .ok (.iconst 1, 1) := by decide +kernel
theorem dX8_mostLaid_43 : decode cX8_mostLaid 43 = .ok (.aload_n 0, 1) := by decide +kernel
theorem dX8_mostLaid_44 : decode cX8_mostLaid 44 = .ok (.getfield 10, 3) := by decide +kernel
theorem dX8_mostLaid_47 : decode cX8_mostLaid 47 = .ok (.getfield 72, 3) := by decide +kernel
theorem dX8_mostLaid_50 : decode cX8_mostLaid 50 = .ok (.ishl, 1) := by decide +kernel
theorem dX8_mostLaid_51 : decode cX8_mostLaid 51 = .ok (.iconst 1, 1) := by decide +kernel
theorem dX8_mostLaid_52 : decode cX8_mostLaid 52 = .ok (.isub, 1) := by decide +kernel
theorem dX8_mostLaid_53 : decode cX8_mostLaid 53 = .ok (.ireturn, 1) := by decide +kernel
theorem dX8_mostLaid_54 : decode cX8_mostLaid 54 = .ok (.bipush 9, 2) := by decide +kernel
theorem dX8_mostLaid_56 : decode cX8_mostLaid 56 = .ok (.ireturn, 1) := by decide +kernel
set_option maxRecDepth 20000 in
theorem ggX8_person_X8_isKindAndNumber : GoodIn wsX8_person wsX8_isKindAndNumber := goodIn_r _ [6, 7, 8, 5, 9] (by decide +kernel) (by decide +kernel)
set_option maxRecDepth 20000 in
theorem gX8_person_X8_isKindAndNumber : GoodIn wsX8_person (va_wsS RX8 108 yX8_isKindAndNumber wsX8_isKindAndNumber) := goodIn_app (goodIn_of _ (by decide +kernel)) ggX8_person_X8_isKindAndNumber
set_option maxRecDepth 20000 in
theorem ggX8_person_X8_isCell : GoodIn wsX8_person wsX8_isCell := goodIn_r _ [13, 1, 14, 7, 8, 5, 9, 31, 32, 33, 34, 35, 36, 37, 38, 39, 40, 41, 42, 43, 44, 45, 46, 47, 48, 49, 50, 51, 52, 53, 54, 55, 56, 57, 58, 59, 60] (by decide +kernel) (by decide +kernel)
set_option maxRecDepth 20000 in
theorem gX8_person_X8_isCell : GoodIn wsX8_person (wsV RX8 79 RX8 yX8_isCell wsX8_isCell) := goodIn_app (goodIn_of _ (by decide +kernel)) ggX8_person_X8_isCell
set_option maxRecDepth 20000 in
theorem ggX8_person_X8_error : GoodIn wsX8_person wsX8_error := goodIn_r _ [18, 19, 20, 7, 8, 5, 9, 31, 32, 33, 34, 35, 36, 37, 38, 39, 40, 41] (by decide +kernel) (by decide +kernel)
set_option maxRecDepth 20000 in
theorem gX8_person_X8_error : GoodIn wsX8_person (wsV RX8 64 RX8 yX8_error wsX8_error) := goodIn_app (goodIn_of _ (by decide +kernel)) ggX8_person_X8_error
set_option maxRecDepth 20000 in
theorem ggX8_person_X0_addOne : GoodIn wsX8_person wsX0_addOne := goodIn_r _ [25, 26, 27, 28, 29, 30, 42, 43, 44, 45, 46, 47, 48, 49, 50, 51, 52, 53, 54, 55, 56, 57, 58, 59, 60] (by decide +kernel) (by decide +kernel)
set_option maxRecDepth 20000 in
theorem gX8_person_X0_addOne : GoodIn wsX8_person (wsV RX8 111 RX0 yX0_addOne wsX0_addOne) := goodIn_app (goodIn_of _ (by decide +kernel)) ggX8_person_X0_addOne
theorem dX8_person_0 : decode cX8_person 0 = .ok (.iload_n 1, 1) := by decide +kernel
theorem dX8_person_1 : decode cX8_person 1 = .ok (.invokestatic 108, 3) := by decide +kernel
theorem dX8_person_4 : decode cX8_person 4 = .ok (.ifCond .eq 11, 3) := by decide +kernel
theorem dX8_person_7 : decode cX8_person 7 = .ok (.aload_n 0, 1) := by decide +kernel
theorem dX8_person_8 : decode cX8_person 8 = .ok (.iload_n 2, 1) := by decide +kernel
theorem dX8_person_9 : decode cX8_person 9 = .ok (.invokevirtual 79, 3) := by decide +kernel
theorem dX8_person_12 : decode cX8_person 12 = .ok (.ifCond .ne 9, 3) := by decide +kernel
theorem dX8_person_15 : decode cX8_person 15 = .ok (.aload_n 0, 1) := by decide +kernel
theorem dX8_person_16 : decode cX8_person 16 = .ok (.iconst 1, 1) := by decide +kernel
theorem dX8_person_17 : decode cX8_person 17 = .ok (.invokevirtual 64, 3) := by decide +kernel
theorem dX8_person_20 : decode cX8_person 20 = .ok (.ireturn, 1) := by decide +kernel
theorem dX8_person_21 : decode cX8_person 21 = .ok (.aload_n 0, 1) := by decide +kernel
theorem dX8_person_22 : decode cX8_person 22 = .ok (.getfield 10, 3) := by decide +kernel
theorem dX8_person_25 : decode cX8_person 25 = .ok (.getfield 68, 3) := by decide +kernel
theorem dX8_person_28 : decode cX8_person 28 = .ok (.bipush 8, 2) := by decide +kernel
theorem dX8_person_30 : decode cX8_person 30 = .ok (.if_icmp .lt 9, 3) := by decide +kernel
theorem dX8_person_33 : decode cX8_person 33 = .ok (.aload_n 0, 1) := by decide +kernel
theorem dX8_person_34 : decode cX8_person 34 = .ok (.iconst 4, 1) := by decide +kernel
theorem dX8_person_35 : decode cX8_person 35 = .ok (.invokevirtual 64, 3) := by decide +kernel
theorem dX8_person_38 : decode cX8_person 38 = .ok (.ireturn, 1) := by decide +kernel
theorem dX8_person_39 : decode cX8_person 39 = .ok (.aload_n 0, 1) := by decide +kernel
theorem dX8_person_40 : decode cX8_person 40 = .ok (.getfield 10, 3) := by decide +kernel
theorem dX8_person_43 : decode cX8_person 43 = .ok (.iload_n 1, 1) := by decide +kernel
theorem dX8_person_44 : decode cX8_person 44 = .ok (.bipush 10, 2) := by decide +kernel
theorem dX8_person_46 : decode cX8_person 46 = .ok (.idiv, 1) := by decide +kernel
theorem dX8_person_47 : decode cX8_person 47 = .ok (.iload_n 1, 1) := by decide +kernel
theorem dX8_person_48 : decode cX8_person 48 = .ok (.bipush 10, 2) := by decide +kernel
theorem dX8_person_50 : decode cX8_person 50 = .ok (.irem, 1) := by decide +kernel
theorem dX8_person_51 : decode cX8_person 51 = .ok (.iload_n 2, 1) := by decide +kernel
theorem dX8_person_52 : decode cX8_person 52 = .ok (.invokevirtual 111, 3) := by decide +kernel
theorem dX8_person_55 : decode cX8_person 55 = .ok (.ireturn, 1) := by decide +kernel
set_option maxRecDepth 20000 in
theorem ggX8_ofPerson_X8_isPerson : GoodIn wsX8_ofPerson wsX8_isPerson := goodIn_r _ [13, 1, 14, 15, 16, 12, 17, 94, 95, 96, 97, 98, 99, 100, 101, 102, 103, 104, 105, 106, 107, 108, 109, 110, 111, 112, 113, 114, 115, 116, 117, 118, 119, 120, 121, 122, 123] (by decide +kernel) (by decide +kernel)
set_option maxRecDepth 20000 in
theorem gX8_ofPerson_X8_isPerson : GoodIn wsX8_ofPerson (wsV RX8 115 RX8 yX8_isPerson wsX8_isPerson) := goodIn_app (goodIn_of _ (by decide +kernel)) ggX8_ofPerson_X8_isPerson
set_option maxRecDepth 20000 in
theorem ggX8_ofPerson_X8_error : GoodIn wsX8_ofPerson wsX8_error := goodIn_r _ [21, 22, 23, 15, 16, 12, 17, 94, 95, 96, 97, 98, 99, 100, 101, 102, 103, 104] (by decide +kernel) (by decide +kernel)
set_option maxRecDepth 20000 in
theorem gX8_ofPerson_X8_error : GoodIn wsX8_ofPerson (wsV RX8 64 RX8 yX8_error wsX8_error) := goodIn_app (goodIn_of _ (by decide +kernel)) ggX8_ofPerson_X8_error
set_option maxRecDepth 20000 in
theorem ggX8_ofPerson_X0_sightIn : GoodIn wsX8_ofPerson wsX0_sightIn := goodIn_r _ [28, 29, 30, 31, 32, 33, 27, 34, 35, 36, 37, 38, 39, 40, 41, 42, 43, 44, 45, 46, 12, 47, 48, 49, 50, 51, 105, 106, 107, 108, 109, 110, 111, 112, 113, 114, 115, 116, 117, 118, 119, 120, 121, 122, 123, 124, 125] (by decide +kernel) (by decide +kernel)
set_option maxRecDepth 20000 in
theorem gX8_ofPerson_X0_sightIn : GoodIn wsX8_ofPerson (wsV RX8 133 RX0 yX0_sightIn wsX0_sightIn) := goodIn_app (goodIn_of _ (by decide +kernel)) ggX8_ofPerson_X0_sightIn
set_option maxRecDepth 20000 in
theorem ggX8_ofPerson_X1_countsOf : GoodIn wsX8_ofPerson wsX1_countsOf := goodIn_r _ [54] (by decide +kernel) (by decide +kernel)
set_option maxRecDepth 20000 in
theorem gX8_ofPerson_X1_countsOf : GoodIn wsX8_ofPerson (va_wsS RX8 136 yX1_countsOf wsX1_countsOf) := goodIn_app (goodIn_of _ (by decide +kernel)) ggX8_ofPerson_X1_countsOf
set_option maxRecDepth 20000 in
theorem ggX8_ofPerson_X0_takesFrom : GoodIn wsX8_ofPerson wsX0_takesFrom := goodIn_r _ [58, 29, 30, 59, 60, 50, 61, 62, 63, 64, 65, 16, 12, 17, 66, 67, 68, 27, 69, 70, 36, 37, 38, 39, 40, 41, 42, 43, 44, 45, 46, 47, 71, 72, 73, 105, 106, 107, 108, 109, 110, 111, 112, 113, 114, 115, 116, 117, 118, 119, 120, 121, 122, 123, 124, 125] (by decide +kernel) (by decide +kernel)
set_option maxRecDepth 20000 in
theorem gX8_ofPerson_X0_takesFrom : GoodIn wsX8_ofPerson (wsV RX8 142 RX0 yX0_takesFrom wsX0_takesFrom) := goodIn_app (goodIn_of _ (by decide +kernel)) ggX8_ofPerson_X0_takesFrom
set_option maxRecDepth 20000 in
theorem ggX8_ofPerson_X0_seenBy : GoodIn wsX8_ofPerson wsX0_seenBy := goodIn_r _ [77, 78, 79, 80, 81, 82, 25, 26, 27, 28, 29, 30, 31, 32, 33, 34, 35, 36, 37, 38, 39, 40, 41, 42, 43, 44, 45, 46, 12, 47, 48, 49, 50, 51, 83, 84, 85, 86, 87, 88, 89, 90, 91, 92, 93, 105, 106, 107, 108, 109, 110, 111, 112, 113, 114, 115, 116, 117, 118, 119, 120, 121, 122, 123, 124, 125] (by decide +kernel) (by decide +kernel)
set_option maxRecDepth 20000 in
theorem gX8_ofPerson_X0_seenBy : GoodIn wsX8_ofPerson (wsV RX8 145 RX0 yX0_seenBy wsX0_seenBy) := goodIn_app (goodIn_of _ (by decide +kernel)) ggX8_ofPerson_X0_seenBy
theorem dX8_ofPerson_0 : decode cX8_ofPerson 0 = .ok (.aload_n 0, 1) := by decide +kernel
theorem dX8_ofPerson_1 : decode cX8_ofPerson 1 = .ok (.iload_n 1, 1) := by decide +kernel
theorem dX8_ofPerson_2 : decode cX8_ofPerson 2 = .ok (.invokevirtual 115, 3) := by decide +kernel
theorem dX8_ofPerson_5 : decode cX8_ofPerson 5 = .ok (.ifCond .ne 9, 3) := by decide +kernel
theorem dX8_ofPerson_8 : decode cX8_ofPerson 8 = .ok (.aload_n 0, 1) := by decide +kernel
theorem dX8_ofPerson_9 : decode cX8_ofPerson 9 = .ok (.iconst 1, 1) := by decide +kernel
theorem dX8_ofPerson_10 : decode cX8_ofPerson 10 = .ok (.invokevirtual 64, 3) := by decide +kernel
theorem dX8_ofPerson_13 : decode cX8_ofPerson 13 = .ok (.ireturn, 1) := by decide +kernel
theorem dX8_ofPerson_14 : decode cX8_ofPerson 14 = .ok (.iload_n 2, 1) := by decide +kernel
theorem dX8_ofPerson_15 : decode cX8_ofPerson 15 = .ok (.tableswitch 172 0 7 #[45, 55, 65, 75, 85, 108, 130, 163], 45) := by decide +kernel
theorem dX8_ofPerson_60 : decode cX8_ofPerson 60 = .ok (.aload_n 0, 1) := by decide +kernel
theorem dX8_ofPerson_61 : decode cX8_ofPerson 61 = .ok (.getfield 10, 3) := by decide +kernel
theorem dX8_ofPerson_64 : decode cX8_ofPerson 64 = .ok (.getfield 118, 3) := by decide +kernel
theorem dX8_ofPerson_67 : decode cX8_ofPerson 67 = .ok (.iload_n 1, 1) := by decide +kernel
theorem dX8_ofPerson_68 : decode cX8_ofPerson 68 = .ok (.iaload, 1) := by decide +kernel
theorem dX8_ofPerson_69 : decode cX8_ofPerson 69 = .ok (.ireturn, 1) := by decide +kernel
theorem dX8_ofPerson_70 : decode cX8_ofPerson 70 = .ok (.aload_n 0, 1) := by decide +kernel
theorem dX8_ofPerson_71 : decode cX8_ofPerson 71 = .ok (.getfield 10, 3) := by decide +kernel
theorem dX8_ofPerson_74 : decode cX8_ofPerson 74 = .ok (.getfield 121, 3) := by decide +kernel
theorem dX8_ofPerson_77 : decode cX8_ofPerson 77 = .ok (.iload_n 1, 1) := by decide +kernel
theorem dX8_ofPerson_78 : decode cX8_ofPerson 78 = .ok (.iaload, 1) := by decide +kernel
theorem dX8_ofPerson_79 : decode cX8_ofPerson 79 = .ok (.ireturn, 1) := by decide +kernel
theorem dX8_ofPerson_80 : decode cX8_ofPerson 80 = .ok (.aload_n 0, 1) := by decide +kernel
theorem dX8_ofPerson_81 : decode cX8_ofPerson 81 = .ok (.getfield 10, 3) := by decide +kernel
theorem dX8_ofPerson_84 : decode cX8_ofPerson 84 = .ok (.getfield 124, 3) := by decide +kernel
theorem dX8_ofPerson_87 : decode cX8_ofPerson 87 = .ok (.iload_n 1, 1) := by decide +kernel
theorem dX8_ofPerson_88 : decode cX8_ofPerson 88 = .ok (.iaload, 1) := by decide +kernel
theorem dX8_ofPerson_89 : decode cX8_ofPerson 89 = .ok (.ireturn, 1) := by decide +kernel
theorem dX8_ofPerson_90 : decode cX8_ofPerson 90 = .ok (.aload_n 0, 1) := by decide +kernel
theorem dX8_ofPerson_91 : decode cX8_ofPerson 91 = .ok (.getfield 10, 3) := by decide +kernel
theorem dX8_ofPerson_94 : decode cX8_ofPerson 94 = .ok (.getfield 127, 3) := by decide +kernel
theorem dX8_ofPerson_97 : decode cX8_ofPerson 97 = .ok (.iload_n 1, 1) := by decide +kernel
theorem dX8_ofPerson_98 : decode cX8_ofPerson 98 = .ok (.iaload, 1) := by decide +kernel
theorem dX8_ofPerson_99 : decode cX8_ofPerson 99 = .ok (.ireturn, 1) := by decide +kernel
theorem dX8_ofPerson_100 : decode cX8_ofPerson 100 = .ok (.aload_n 0, 1) := by decide +kernel
theorem dX8_ofPerson_101 : decode cX8_ofPerson 101 = .ok (.getfield 10, 3) := by decide +kernel
theorem dX8_ofPerson_104 : decode cX8_ofPerson 104 = .ok (.iload_n 1, 1) := by decide +kernel
theorem dX8_ofPerson_105 : decode cX8_ofPerson 105 = .ok (.aload_n 0, 1) := by decide +kernel
theorem dX8_ofPerson_106 : decode cX8_ofPerson 106 = .ok (.getfield 10, 3) := by decide +kernel
theorem dX8_ofPerson_109 : decode cX8_ofPerson 109 = .ok (.getfield 105, 3) := by decide +kernel
theorem dX8_ofPerson_112 : decode cX8_ofPerson 112 = .ok (.aload_n 0, 1) := by decide +kernel
theorem dX8_ofPerson_113 : decode cX8_ofPerson 113 = .ok (.getfield 10, 3) := by decide +kernel
theorem dX8_ofPerson_116 : decode cX8_ofPerson 116 = .ok (.getfield 130, 3) := by decide +kernel
theorem dX8_ofPerson_119 : decode cX8_ofPerson 119 = .ok (.invokevirtual 133, 3) := by decide +kernel
theorem dX8_ofPerson_122 : decode cX8_ofPerson 122 = .ok (.ireturn, 1) := by decide +kernel
theorem dX8_ofPerson_123 : decode cX8_ofPerson 123 = .ok (.aload_n 0, 1) := by decide +kernel
theorem dX8_ofPerson_124 : decode cX8_ofPerson 124 = .ok (.getfield 10, 3) := by decide +kernel
theorem dX8_ofPerson_127 : decode cX8_ofPerson 127 = .ok (.getfield 118, 3) := by decide +kernel
theorem dX8_ofPerson_130 : decode cX8_ofPerson 130 = .ok (.iload_n 1, 1) := by decide +kernel
theorem dX8_ofPerson_131 : decode cX8_ofPerson 131 = .ok (.iaload, 1) := by decide +kernel
theorem dX8_ofPerson_132 : decode cX8_ofPerson 132 = .ok (.aload_n 0, 1) := by decide +kernel
theorem dX8_ofPerson_133 : decode cX8_ofPerson 133 = .ok (.getfield 10, 3) := by decide +kernel
theorem dX8_ofPerson_136 : decode cX8_ofPerson 136 = .ok (.getfield 121, 3) := by decide +kernel
theorem dX8_ofPerson_139 : decode cX8_ofPerson 139 = .ok (.iload_n 1, 1) := by decide +kernel
theorem dX8_ofPerson_140 : decode cX8_ofPerson 140 = .ok (.iaload, 1) := by decide +kernel
theorem dX8_ofPerson_141 : decode cX8_ofPerson 141 = .ok (.invokestatic 136, 3) := by decide +kernel
theorem dX8_ofPerson_144 : decode cX8_ofPerson 144 = .ok (.ireturn, 1) := by decide +kernel
theorem dX8_ofPerson_145 : decode cX8_ofPerson 145 = .ok (.aload_n 0, 1) := by decide +kernel
theorem dX8_ofPerson_146 : decode cX8_ofPerson 146 = .ok (.getfield 10, 3) := by decide +kernel
theorem dX8_ofPerson_149 : decode cX8_ofPerson 149 = .ok (.iload_n 1, 1) := by decide +kernel
theorem dX8_ofPerson_150 : decode cX8_ofPerson 150 = .ok (.aload_n 0, 1) := by decide +kernel
theorem dX8_ofPerson_151 : decode cX8_ofPerson 151 = .ok (.getfield 10, 3) := by decide +kernel
theorem dX8_ofPerson_154 : decode cX8_ofPerson 154 = .ok (.getfield 84, 3) := by decide +kernel
theorem dX8_ofPerson_157 : decode cX8_ofPerson 157 = .ok (.aload_n 0, 1) := by decide +kernel
theorem dX8_ofPerson_158 : decode cX8_ofPerson 158 = .ok (.getfield 10, 3) := by decide +kernel
theorem dX8_ofPerson_161 : decode cX8_ofPerson 161 = .ok (.getfield 124, 3) := by decide +kernel
theorem dX8_ofPerson_164 : decode cX8_ofPerson 164 = .ok (.iload_n 1, 1) := by decide +kernel
theorem dX8_ofPerson_165 : decode cX8_ofPerson 165 = .ok (.iaload, 1) := by decide +kernel
theorem dX8_ofPerson_166 : decode cX8_ofPerson 166 = .ok (.iaload, 1) := by decide +kernel
theorem dX8_ofPerson_167 : decode cX8_ofPerson 167 = .ok (.aload_n 0, 1) := by decide +kernel
theorem dX8_ofPerson_168 : decode cX8_ofPerson 168 = .ok (.getfield 10, 3) := by decide +kernel
theorem dX8_ofPerson_171 : decode cX8_ofPerson 171 = .ok (.getfield 130, 3) := by decide +kernel
theorem dX8_ofPerson_174 : decode cX8_ofPerson 174 = .ok (.invokevirtual 142, 3) := by decide +kernel
theorem dX8_ofPerson_177 : decode cX8_ofPerson 177 = .ok (.ireturn, 1) := by decide +kernel
theorem dX8_ofPerson_178 : decode cX8_ofPerson 178 = .ok (.aload_n 0, 1) := by decide +kernel
theorem dX8_ofPerson_179 : decode cX8_ofPerson 179 = .ok (.getfield 10, 3) := by decide +kernel
