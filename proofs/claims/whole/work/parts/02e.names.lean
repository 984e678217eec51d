theorem dX8_ofPerson_182 : decode cX8_ofPerson 182 = .ok (.iload_n 1, 1) := by decide +kernel
theorem dX8_ofPerson_183 : decode cX8_ofPerson 183 = .ok (.invokevirtual 145, 3) := by decide +kernel
theorem dX8_ofPerson_186 : decode cX8_ofPerson 186 = .ok (.ireturn, 1) := by decide +kernel
theorem dX8_ofPerson_187 : decode cX8_ofPerson 187 = .ok (.aload_n 0, 1) := by decide +kernel
theorem dX8_ofPerson_188 : decode cX8_ofPerson 188 = .ok (.iconst 1, 1) := by decide +kernel
theorem dX8_ofPerson_189 : decode cX8_ofPerson 189 = .ok (.invokevirtual 64, 3) := by decide +kernel
theorem dX8_ofPerson_192 : decode cX8_ofPerson 192 = .ok (.ireturn, 1) := by decide +kernel
set_option maxRecDepth 20000 in
theorem ggX8_lead_X8_isPerson : GoodIn wsX8_lead wsX8_isPerson := goodIn_r _ [8, 1, 9, 10, 11, 7, 12, 24, 25, 26, 27, 28, 29, 30, 31, 32, 33, 34, 35, 36, 37, 38, 39, 40, 41, 42, 43, 44, 45, 46, 47, 48, 49, 50, 51, 52, 53] (by decide +kernel) (by decide +kernel)
set_option maxRecDepth 20000 in
theorem gX8_lead_X8_isPerson : GoodIn wsX8_lead (wsV RX8 115 RX8 yX8_isPerson wsX8_isPerson) := goodIn_app (goodIn_of _ (by decide +kernel)) ggX8_lead_X8_isPerson
set_option maxRecDepth 20000 in
theorem ggX8_lead_X8_within : GoodIn wsX8_lead wsX8_within := goodIn_r _ [12] (by decide +kernel) (by decide +kernel)
set_option maxRecDepth 20000 in
theorem gX8_lead_X8_within : GoodIn wsX8_lead (va_wsS RX8 60 yX8_within wsX8_within) := goodIn_app (goodIn_of _ (by decide +kernel)) ggX8_lead_X8_within
set_option maxRecDepth 20000 in
theorem ggX8_lead_X8_isCell : GoodIn wsX8_lead wsX8_isCell := goodIn_r _ [16, 1, 17, 10, 11, 7, 12, 24, 25, 26, 27, 28, 29, 30, 31, 32, 33, 34, 35, 36, 37, 38, 39, 40, 41, 42, 43, 44, 45, 46, 47, 48, 49, 50, 51, 52, 53] (by decide +kernel) (by decide +kernel)
set_option maxRecDepth 20000 in
theorem gX8_lead_X8_isCell : GoodIn wsX8_lead (wsV RX8 79 RX8 yX8_isCell wsX8_isCell) := goodIn_app (goodIn_of _ (by decide +kernel)) ggX8_lead_X8_isCell
set_option maxRecDepth 20000 in
theorem ggX8_lead_X8_error : GoodIn wsX8_lead wsX8_error := goodIn_r _ [21, 22, 23, 10, 11, 7, 12, 24, 25, 26, 27, 28, 29, 30, 31, 32, 33, 34] (by decide +kernel) (by decide +kernel)
set_option maxRecDepth 20000 in
theorem gX8_lead_X8_error : GoodIn wsX8_lead (wsV RX8 64 RX8 yX8_error wsX8_error) := goodIn_app (goodIn_of _ (by decide +kernel)) ggX8_lead_X8_error
theorem dX8_lead_0 : decode cX8_lead 0 = .ok (.aload_n 0, 1) := by decide +kernel
theorem dX8_lead_1 : decode cX8_lead 1 = .ok (.iload_n 1, 1) := by decide +kernel
theorem dX8_lead_2 : decode cX8_lead 2 = .ok (.invokevirtual 115, 3) := by decide +kernel
theorem dX8_lead_5 : decode cX8_lead 5 = .ok (.ifCond .eq 36, 3) := by decide +kernel
theorem dX8_lead_8 : decode cX8_lead 8 = .ok (.iload_n 2, 1) := by decide +kernel
theorem dX8_lead_9 : decode cX8_lead 9 = .ok (.iconst 0, 1) := by decide +kernel
theorem dX8_lead_10 : decode cX8_lead 10 = .ok (.iconst 1, 1) := by decide +kernel
theorem dX8_lead_11 : decode cX8_lead 11 = .ok (.invokestatic 60, 3) := by decide +kernel
theorem dX8_lead_14 : decode cX8_lead 14 = .ok (.ifCond .eq 27, 3) := by decide +kernel
theorem dX8_lead_17 : decode cX8_lead 17 = .ok (.iload_n 2, 1) := by decide +kernel
theorem dX8_lead_18 : decode cX8_lead 18 = .ok (.ifCond .ne 14, 3) := by decide +kernel
theorem dX8_lead_21 : decode cX8_lead 21 = .ok (.aload_n 0, 1) := by decide +kernel
theorem dX8_lead_22 : decode cX8_lead 22 = .ok (.iload_n 3, 1) := by decide +kernel
theorem dX8_lead_23 : decode cX8_lead 23 = .ok (.invokevirtual 79, 3) := by decide +kernel
theorem dX8_lead_26 : decode cX8_lead 26 = .ok (.ifCond .eq 15, 3) := by decide +kernel
theorem dX8_lead_29 : decode cX8_lead 29 = .ok (.goto 18, 3) := by decide +kernel
theorem dX8_lead_32 : decode cX8_lead 32 = .ok (.iload_n 3, 1) := by decide +kernel
theorem dX8_lead_33 : decode cX8_lead 33 = .ok (.iconst (-1), 1) := by decide +kernel
theorem dX8_lead_34 : decode cX8_lead 34 = .ok (.iconst 1, 1) := by decide +kernel
theorem dX8_lead_35 : decode cX8_lead 35 = .ok (.invokestatic 60, 3) := by decide +kernel
theorem dX8_lead_38 : decode cX8_lead 38 = .ok (.ifCond .ne 9, 3) := by decide +kernel
theorem dX8_lead_41 : decode cX8_lead 41 = .ok (.aload_n 0, 1) := by decide +kernel
theorem dX8_lead_42 : decode cX8_lead 42 = .ok (.iconst 1, 1) := by decide +kernel
theorem dX8_lead_43 : decode cX8_lead 43 = .ok (.invokevirtual 64, 3) := by decide +kernel
theorem dX8_lead_46 : decode cX8_lead 46 = .ok (.ireturn, 1) := by decide +kernel
theorem dX8_lead_47 : decode cX8_lead 47 = .ok (.iload_n 2, 1) := by decide +kernel
theorem dX8_lead_48 : decode cX8_lead 48 = .ok (.ifCond .ne 13, 3) := by decide +kernel
theorem dX8_lead_51 : decode cX8_lead 51 = .ok (.aload_n 0, 1) := by decide +kernel
theorem dX8_lead_52 : decode cX8_lead 52 = .ok (.getfield 10, 3) := by decide +kernel
theorem dX8_lead_55 : decode cX8_lead 55 = .ok (.getfield 124, 3) := by decide +kernel
theorem dX8_lead_58 : decode cX8_lead 58 = .ok (.goto 10, 3) := by decide +kernel
theorem dX8_lead_61 : decode cX8_lead 61 = .ok (.aload_n 0, 1) := by decide +kernel
theorem dX8_lead_62 : decode cX8_lead 62 = .ok (.getfield 10, 3) := by decide +kernel
theorem dX8_lead_65 : decode cX8_lead 65 = .ok (.getfield 127, 3) := by decide +kernel
theorem dX8_lead_68 : decode cX8_lead 68 = .ok (.astore 4, 2) := by decide +kernel
theorem dX8_lead_70 : decode cX8_lead 70 = .ok (.aload 4, 2) := by decide +kernel
theorem dX8_lead_72 : decode cX8_lead 72 = .ok (.iload_n 1, 1) := by decide +kernel
theorem dX8_lead_73 : decode cX8_lead 73 = .ok (.iaload, 1) := by decide +kernel
theorem dX8_lead_74 : decode cX8_lead 74 = .ok (.istore 5, 2) := by decide +kernel
theorem dX8_lead_76 : decode cX8_lead 76 = .ok (.aload 4, 2) := by decide +kernel
theorem dX8_lead_78 : decode cX8_lead 78 = .ok (.iload_n 1, 1) := by decide +kernel
theorem dX8_lead_79 : decode cX8_lead 79 = .ok (.iload_n 3, 1) := by decide +kernel
theorem dX8_lead_80 : decode cX8_lead 80 = .ok (.iastore, 1) := by decide +kernel
theorem dX8_lead_81 : decode cX8_lead 81 = .ok (.iload 5, 2) := by decide +kernel
theorem dX8_lead_83 : decode cX8_lead 83 = .ok (.ireturn, 1) := by decide +kernel
set_option maxRecDepth 20000 in
theorem ggX8_become_X8_isPerson : GoodIn wsX8_become wsX8_isPerson := goodIn_r _ [8, 1, 9, 10, 11, 7, 12, 22, 23, 24, 25, 26, 27, 28, 29, 30, 31, 32, 33, 34, 35, 36, 37, 38, 39, 40, 41, 42, 43, 44, 45, 46, 47, 48, 49, 50, 51] (by decide +kernel) (by decide +kernel)
set_option maxRecDepth 20000 in
theorem gX8_become_X8_isPerson : GoodIn wsX8_become (wsV RX8 115 RX8 yX8_isPerson wsX8_isPerson) := goodIn_app (goodIn_of _ (by decide +kernel)) ggX8_become_X8_isPerson
set_option maxRecDepth 20000 in
theorem ggX8_become_X8_isKindAndNumber : GoodIn wsX8_become wsX8_isKindAndNumber := goodIn_r _ [15, 10, 11, 7, 12] (by decide +kernel) (by decide +kernel)
set_option maxRecDepth 20000 in
theorem gX8_become_X8_isKindAndNumber : GoodIn wsX8_become (va_wsS RX8 108 yX8_isKindAndNumber wsX8_isKindAndNumber) := goodIn_app (goodIn_of _ (by decide +kernel)) ggX8_become_X8_isKindAndNumber
set_option maxRecDepth 20000 in
theorem ggX8_become_X8_error : GoodIn wsX8_become wsX8_error := goodIn_r _ [19, 20, 21, 10, 11, 7, 12, 22, 23, 24, 25, 26, 27, 28, 29, 30, 31, 32] (by decide +kernel) (by decide +kernel)
set_option maxRecDepth 20000 in
theorem gX8_become_X8_error : GoodIn wsX8_become (wsV RX8 64 RX8 yX8_error wsX8_error) := goodIn_app (goodIn_of _ (by decide +kernel)) ggX8_become_X8_error
theorem dX8_become_0 : decode cX8_become 0 = .ok (.aload_n 0, 1) := by decide +kernel
theorem dX8_become_1 : decode cX8_become 1 = .ok (.iload_n 1, 1) := by decide +kernel
theorem dX8_become_2 : decode cX8_become 2 = .ok (.invokevirtual 115, 3) := by decide +kernel
theorem dX8_become_5 : decode cX8_become 5 = .ok (.ifCond .eq 10, 3) := by decide +kernel
theorem dX8_become_8 : decode cX8_become 8 = .ok (.iload_n 2, 1) := by decide +kernel
theorem dX8_become_9 : decode cX8_become 9 = .ok (.invokestatic 108, 3) := by decide +kernel
theorem dX8_become_12 : decode cX8_become 12 = .ok (.ifCond .ne 9, 3) := by decide +kernel
theorem dX8_become_15 : decode cX8_become 15 = .ok (.aload_n 0, 1) := by decide +kernel
theorem dX8_become_16 : decode cX8_become 16 = .ok (.iconst 1, 1) := by decide +kernel
theorem dX8_become_17 : decode cX8_become 17 = .ok (.invokevirtual 64, 3) := by decide +kernel
theorem dX8_become_20 : decode cX8_become 20 = .ok (.ireturn, 1) := by decide +kernel
theorem dX8_become_21 : decode cX8_become 21 = .ok (.aload_n 0, 1) := by decide +kernel
theorem dX8_become_22 : decode cX8_become 22 = .ok (.getfield 10, 3) := by decide +kernel
theorem dX8_become_25 : decode cX8_become 25 = .ok (.getfield 118, 3) := by decide +kernel
theorem dX8_become_28 : decode cX8_become 28 = .ok (.iload_n 1, 1) := by decide +kernel
theorem dX8_become_29 : decode cX8_become 29 = .ok (.iaload, 1) := by decide +kernel
theorem dX8_become_30 : decode cX8_become 30 = .ok (.istore_n 3, 1) := by decide +kernel
theorem dX8_become_31 : decode cX8_become 31 = .ok (.aload_n 0, 1) := by decide +kernel
theorem dX8_become_32 : decode cX8_become 32 = .ok (.getfield 10, 3) := by decide +kernel
theorem dX8_become_35 : decode cX8_become 35 = .ok (.getfield 118, 3) := by decide +kernel
theorem dX8_become_38 : decode cX8_become 38 = .ok (.iload_n 1, 1) := by decide +kernel
theorem dX8_become_39 : decode cX8_become 39 = .ok (.iload_n 2, 1) := by decide +kernel
theorem dX8_become_40 : decode cX8_become 40 = .ok (.bipush 10, 2) := by decide +kernel
theorem dX8_become_42 : decode cX8_become 42 = .ok (.idiv, 1) := by decide +kernel
theorem dX8_become_43 : decode cX8_become 43 = .ok (.iastore, 1) := by decide +kernel
theorem dX8_become_44 : decode cX8_become 44 = .ok (.aload_n 0, 1) := by decide +kernel
theorem dX8_become_45 : decode cX8_become 45 = .ok (.getfield 10, 3) := by decide +kernel
theorem dX8_become_48 : decode cX8_become 48 = .ok (.getfield 121, 3) := by decide +kernel
theorem dX8_become_51 : decode cX8_become 51 = .ok (.iload_n 1, 1) := by decide +kernel
theorem dX8_become_52 : decode cX8_become 52 = .ok (.iload_n 2, 1) := by decide +kernel
theorem dX8_become_53 : decode cX8_become 53 = .ok (.bipush 10, 2) := by decide +kernel
theorem dX8_become_55 : decode cX8_become 55 = .ok (.irem, 1) := by decide +kernel
theorem dX8_become_56 : decode cX8_become 56 = .ok (.iastore, 1) := by decide +kernel
theorem dX8_become_57 : decode cX8_become 57 = .ok (.iload_n 3, 1) := by decide +kernel
theorem dX8_become_58 : decode cX8_become 58 = .ok (.ireturn, 1) := by decide +kernel
set_option maxRecDepth 20000 in
theorem ggX8_as_X8_isPerson : GoodIn wsX8_as wsX8_isPerson := goodIn_r _ [8, 1, 9, 10, 11, 7, 12, 27, 28, 29, 30, 31, 32, 33, 34, 35, 36, 37, 38, 39, 40, 41, 42, 43, 44, 45, 46, 47, 48, 49, 50, 51, 52, 53, 54, 55, 56] (by decide +kernel) (by decide +kernel)
set_option maxRecDepth 20000 in
theorem gX8_as_X8_isPerson : GoodIn wsX8_as (wsV RX8 115 RX8 yX8_isPerson wsX8_isPerson) := goodIn_app (goodIn_of _ (by decide +kernel)) ggX8_as_X8_isPerson
set_option maxRecDepth 20000 in
theorem ggX8_as_X8_within : GoodIn wsX8_as wsX8_within := goodIn_r _ [12] (by decide +kernel) (by decide +kernel)
set_option maxRecDepth 20000 in
theorem gX8_as_X8_within : GoodIn wsX8_as (va_wsS RX8 60 yX8_within wsX8_within) := goodIn_app (goodIn_of _ (by decide +kernel)) ggX8_as_X8_within
set_option maxRecDepth 20000 in
theorem ggX8_as_X8_error : GoodIn wsX8_as wsX8_error := goodIn_r _ [16, 17, 18, 10, 11, 7, 12, 27, 28, 29, 30, 31, 32, 33, 34, 35, 36, 37] (by decide +kernel) (by decide +kernel)
set_option maxRecDepth 20000 in
theorem gX8_as_X8_error : GoodIn wsX8_as (wsV RX8 64 RX8 yX8_error wsX8_error) := goodIn_app (goodIn_of _ (by decide +kernel)) ggX8_as_X8_error
set_option maxRecDepth 20000 in
theorem ggX8_as_X1_isOneOf : GoodIn wsX8_as wsX1_isOneOf := goodIn_r _ [22, 23, 24, 21, 25, 26, 11, 7, 12] (by decide +kernel) (by decide +kernel)
set_option maxRecDepth 20000 in
theorem gX8_as_X1_isOneOf : GoodIn wsX8_as (va_wsS RX8 148 yX1_isOneOf wsX1_isOneOf) := goodIn_app (goodIn_of _ (by decide +kernel)) ggX8_as_X1_isOneOf
theorem dX8_as_0 : decode cX8_as 0 = .ok (.aload_n 0, 1) := by decide +kernel
theorem dX8_as_1 : decode cX8_as 1 = .ok (.iload_n 1, 1) := by decide +kernel
theorem dX8_as_2 : decode cX8_as 2 = .ok (.invokevirtual 115, 3) := by decide +kernel
theorem dX8_as_5 : decode cX8_as 5 = .ok (.ifCond .eq 13, 3) := by decide +kernel
theorem dX8_as_8 : decode cX8_as 8 = .ok (.iload_n 2, 1) := by decide +kernel
theorem dX8_as_9 : decode cX8_as 9 = .ok (.iconst 0, 1) := by decide +kernel
theorem dX8_as_10 : decode cX8_as 10 = .ok (.bipush 6, 2) := by decide +kernel
theorem dX8_as_12 : decode cX8_as 12 = .ok (.invokestatic 60, 3) := by decide +kernel
theorem dX8_as_15 : decode cX8_as 15 = .ok (.ifCond .ne 9, 3) := by decide +kernel
theorem dX8_as_18 : decode cX8_as 18 = .ok (.aload_n 0, 1) := by decide +kernel
theorem dX8_as_19 : decode cX8_as 19 = .ok (.iconst 1, 1) := by decide +kernel
theorem dX8_as_20 : decode cX8_as 20 = .ok (.invokevirtual 64, 3) := by decide +kernel
theorem dX8_as_23 : decode cX8_as 23 = .ok (.ireturn, 1) := by decide +kernel
theorem dX8_as_24 : decode cX8_as 24 = .ok (.aload_n 0, 1) := by decide +kernel
theorem dX8_as_25 : decode cX8_as 25 = .ok (.getfield 10, 3) := by decide +kernel
theorem dX8_as_28 : decode cX8_as 28 = .ok (.getfield 118, 3) := by decide +kernel
theorem dX8_as_31 : decode cX8_as 31 = .ok (.iload_n 1, 1) := by decide +kernel
theorem dX8_as_32 : decode cX8_as 32 = .ok (.iaload, 1) := by decide +kernel
theorem dX8_as_33 : decode cX8_as 33 = .ok (.iload_n 2, 1) := by decide +kernel
theorem dX8_as_34 : decode cX8_as 34 = .ok (.invokestatic 148, 3) := by decide +kernel
theorem dX8_as_37 : decode cX8_as 37 = .ok (.ifCond .ne 9, 3) := by decide +kernel
theorem dX8_as_40 : decode cX8_as 40 = .ok (.aload_n 0, 1) := by decide +kernel
theorem dX8_as_41 : decode cX8_as 41 = .ok (.iconst 5, 1) := by decide +kernel
theorem dX8_as_42 : decode cX8_as 42 = .ok (.invokevirtual 64, 3) := by decide +kernel
theorem dX8_as_45 : decode cX8_as 45 = .ok (.ireturn, 1) := by decide +kernel
theorem dX8_as_46 : decode cX8_as 46 = .ok (.aload_n 0, 1) := by decide +kernel
theorem dX8_as_47 : decode cX8_as 47 = .ok (.getfield 10, 3) := by decide +kernel
theorem dX8_as_50 : decode cX8_as 50 = .ok (.getfield 121, 3) := by decide +kernel
theorem dX8_as_53 : decode cX8_as 53 = .ok (.iload_n 1, 1) := by decide +kernel
theorem dX8_as_54 : decode cX8_as 54 = .ok (.iaload, 1) := by decide +kernel
theorem dX8_as_55 : decode cX8_as 55 = .ok (.ireturn, 1) := by decide +kernel
set_option maxRecDepth 20000 in
theorem ggX8_feed_X8_within : GoodIn wsX8_feed wsX8_within := goodIn_r _ [8] (by decide +kernel) (by decide +kernel)
set_option maxRecDepth 20000 in
theorem gX8_feed_X8_within : GoodIn wsX8_feed (va_wsS RX8 60 yX8_within wsX8_within) := goodIn_app (goodIn_of _ (by decide +kernel)) ggX8_feed_X8_within
set_option maxRecDepth 20000 in
theorem ggX8_feed_X8_error : GoodIn wsX8_feed wsX8_error := goodIn_r _ [12, 13, 14, 5, 6, 7, 8, 22, 23, 24, 25, 26, 27, 28, 29, 30, 31, 32] (by decide +kernel) (by decide +kernel)
set_option maxRecDepth 20000 in
theorem gX8_feed_X8_error : GoodIn wsX8_feed (wsV RX8 64 RX8 yX8_error wsX8_error) := goodIn_app (goodIn_of _ (by decide +kernel)) ggX8_feed_X8_error
set_option maxRecDepth 20000 in
theorem ggX8_feed_X4_add : GoodIn wsX8_feed wsX4_add := goodIn_r _ [19, 20, 21, 52, 53] (by decide +kernel) (by decide +kernel)
set_option maxRecDepth 20000 in
theorem gX8_feed_X4_add : GoodIn wsX8_feed (wsV RX8 163 RX4 yX4_add wsX4_add) := goodIn_app (goodIn_of _ (by decide +kernel)) ggX8_feed_X4_add
theorem dX8_feed_0 : decode cX8_feed 0 = .ok (.iload_n 3, 1) := by decide +kernel
theorem dX8_feed_1 : decode cX8_feed 1 = .ok (.iconst 1, 1) := by decide +kernel
theorem dX8_feed_2 : decode cX8_feed 2 = .ok (.bipush 8, 2) := by decide +kernel
theorem dX8_feed_4 : decode cX8_feed 4 = .ok (.invokestatic 60, 3) := by decide +kernel
theorem dX8_feed_7 : decode cX8_feed 7 = .ok (.ifCond .ne 9, 3) := by decide +kernel
theorem dX8_feed_10 : decode cX8_feed 10 = .ok (.aload_n 0, 1) := by decide +kernel
theorem dX8_feed_11 : decode cX8_feed 11 = .ok (.iconst 1, 1) := by decide +kernel
theorem dX8_feed_12 : decode cX8_feed 12 = .ok (.invokevirtual 64, 3) := by decide +kernel
theorem dX8_feed_15 : decode cX8_feed 15 = .ok (.ireturn, 1) := by decide +kernel
theorem dX8_feed_16 : decode cX8_feed 16 = .ok (.aload_n 0, 1) := by decide +kernel
theorem dX8_feed_17 : decode cX8_feed 17 = .ok (.getfield 10, 3) := by decide +kernel
theorem dX8_feed_20 : decode cX8_feed 20 = .ok (.getfield 152, 3) := by decide +kernel
theorem dX8_feed_23 : decode cX8_feed 23 = .ok (.getfield 156, 3) := by decide +kernel
theorem dX8_feed_26 : decode cX8_feed 26 = .ok (.iload_n 3, 1) := by decide +kernel
theorem dX8_feed_27 : decode cX8_feed 27 = .ok (.iadd, 1) := by decide +kernel
theorem dX8_feed_28 : decode cX8_feed 28 = .ok (.bipush 50, 2) := by decide +kernel
theorem dX8_feed_30 : decode cX8_feed 30 = .ok (.if_icmp .le 9, 3) := by decide +kernel
theorem dX8_feed_33 : decode cX8_feed 33 = .ok (.aload_n 0, 1) := by decide +kernel
theorem dX8_feed_34 : decode cX8_feed 34 = .ok (.iconst 4, 1) := by decide +kernel
theorem dX8_feed_35 : decode cX8_feed 35 = .ok (.invokevirtual 64, 3) := by decide +kernel
theorem dX8_feed_38 : decode cX8_feed 38 = .ok (.ireturn, 1) := by decide +kernel
theorem dX8_feed_39 : decode cX8_feed 39 = .ok (.iconst 0, 1) := by decide +kernel
theorem dX8_feed_40 : decode cX8_feed 40 = .ok (.istore 4, 2) := by decide +kernel
theorem dX8_feed_42 : decode cX8_feed 42 = .ok (.iload 4, 2) := by decide +kernel
theorem dX8_feed_44 : decode cX8_feed 44 = .ok (.iload_n 3, 1) := by decide +kernel
theorem dX8_feed_45 : decode cX8_feed 45 = .ok (.if_icmp .ge 31, 3) := by decide +kernel
theorem dX8_feed_48 : decode cX8_feed 48 = .ok (.aload_n 0, 1) := by decide +kernel
theorem dX8_feed_49 : decode cX8_feed 49 = .ok (.getfield 10, 3) := by decide +kernel
theorem dX8_feed_52 : decode cX8_feed 52 = .ok (.getfield 152, 3) := by decide +kernel
theorem dX8_feed_55 : decode cX8_feed 55 = .ok (.lload_n 1, 1) := by decide +kernel
theorem dX8_feed_56 : decode cX8_feed 56 = .ok (.bipush 8, 2) := by decide +kernel
theorem dX8_feed_58 : decode cX8_feed 58 = .ok (.iload 4, 2) := by decide +kernel
theorem dX8_feed_60 : decode cX8_feed 60 = .ok (.imul, 1) := by decide +kernel
theorem dX8_feed_61 : decode cX8_feed 61 = .ok (.lushr, 1) := by decide +kernel
theorem dX8_feed_62 : decode cX8_feed 62 = .ok (.ldc2_w 161, 3) := by decide +kernel
theorem dX8_feed_65 : decode cX8_feed 65 = .ok (.land, 1) := by decide +kernel
theorem dX8_feed_66 : decode cX8_feed 66 = .ok (.l2i, 1) := by decide +kernel
theorem dX8_feed_67 : decode cX8_feed 67 = .ok (.invokevirtual 163, 3) := by decide +kernel
theorem dX8_feed_70 : decode cX8_feed 70 = .ok (.iinc 4 1, 3) := by decide +kernel
theorem dX8_feed_73 : decode cX8_feed 73 = .ok (.goto (-31), 3) := by decide +kernel
theorem dX8_feed_76 : decode cX8_feed 76 = .ok (.aload_n 0, 1) := by decide +kernel
theorem dX8_feed_77 : decode cX8_feed 77 = .ok (.getfield 10, 3) := by decide +kernel
theorem dX8_feed_80 : decode cX8_feed 80 = .ok (.getfield 152, 3) := by decide +kernel
theorem dX8_feed_83 : decode cX8_feed 83 = .ok (.getfield 156, 3) := by decide +kernel
theorem dX8_feed_86 : decode cX8_feed 86 = .ok (.ireturn, 1) := by decide +kernel
set_option maxRecDepth 20000 in
theorem ggX8_text_X8_within : GoodIn wsX8_text wsX8_within := goodIn_r _ [9] (by decide +kernel) (by decide +kernel)
set_option maxRecDepth 20000 in
theorem gX8_text_X8_within : GoodIn wsX8_text (va_wsS RX8 60 yX8_within wsX8_within) := goodIn_app (goodIn_of _ (by decide +kernel)) ggX8_text_X8_within
set_option maxRecDepth 20000 in
theorem ggX8_text_X8_error : GoodIn wsX8_text wsX8_error := goodIn_r _ [13, 14, 15, 6, 7, 8, 9, 215, 216, 217, 218, 219, 220, 221, 222, 223, 224, 225] (by decide +kernel) (by decide +kernel)
set_option maxRecDepth 20000 in
theorem gX8_text_X8_error : GoodIn wsX8_text (wsV RX8 64 RX8 yX8_error wsX8_error) := goodIn_app (goodIn_of _ (by decide +kernel)) ggX8_text_X8_error
set_option maxRecDepth 20000 in
theorem ggX8_text_X3_faultOf : GoodIn wsX8_text wsX3_faultOf := goodIn_r _ [20, 21, 22, 23, 24, 25, 26, 27, 28, 29, 30, 31, 32, 33, 34, 35, 36, 37, 38, 39, 40, 41, 19, 42, 43, 44, 45, 46, 47, 48, 49, 50, 51, 52, 53, 54, 55, 56, 57, 58, 59, 60, 61, 62, 63, 64, 65, 66, 67, 68, 69, 70, 71, 72, 73, 74, 75, 76, 77, 78, 79, 80, 81, 82, 83, 84, 85, 86, 87, 88, 89, 90, 91, 92, 93, 94, 95, 96, 97, 98, 99, 100, 101, 102, 103, 104, 105, 106, 107, 108, 109, 110, 111, 112, 113, 114, 115, 116, 117, 118, 119, 120, 121, 122, 123, 124, 125, 126, 127, 128, 129, 130, 131, 132, 133, 134, 135, 136, 137, 138, 139, 140, 141, 142, 143, 144, 145, 146, 147, 148, 149, 150, 151, 152, 153, 154, 155, 156, 157, 158, 159, 160, 161, 162, 163, 164, 165, 166, 167, 168, 169, 170, 171, 172, 173, 174, 175, 176, 177, 178, 179, 180, 245, 246, 247, 248, 249, 250, 251, 252, 253] (by decide +kernel) (by decide +kernel)
set_option maxRecDepth 20000 in
theorem gX8_text_X3_faultOf : GoodIn wsX8_text (wsV RX8 170 RX3 yX3_faultOf wsX3_faultOf) := goodIn_app (goodIn_of _ (by decide +kernel)) ggX8_text_X3_faultOf
set_option maxRecDepth 20000 in
theorem ggX8_text_X4_clear : GoodIn wsX8_text wsX4_clear := goodIn_r _ [32, 33, 252, 253] (by decide +kernel) (by decide +kernel)
set_option maxRecDepth 20000 in
theorem gX8_text_X4_clear : GoodIn wsX8_text (wsV RX8 174 RX4 yX4_clear wsX4_clear) := goodIn_app (goodIn_of _ (by decide +kernel)) ggX8_text_X4_clear
set_option maxRecDepth 20000 in
theorem ggX8_text_X3_textRead : GoodIn wsX8_text wsX3_textRead := goodIn_r _ [185, 186, 187, 188, 22, 189, 190, 191, 192, 193, 194, 195, 196, 197, 198, 199, 200, 201, 202, 203, 204, 205, 206, 207, 208, 209, 210, 110, 107, 111, 211, 212, 213, 214, 254, 255, 245, 246, 247, 248, 249, 250, 251, 252, 253] (by decide +kernel) (by decide +kernel)
set_option maxRecDepth 20000 in
theorem gX8_text_X3_textRead : GoodIn wsX8_text (wsV RX8 177 RX3 yX3_textRead wsX3_textRead) := goodIn_app (goodIn_of _ (by decide +kernel)) ggX8_text_X3_textRead
theorem dX8_text_0 : decode cX8_text 0 = .ok (.iload_n 1, 1) := by decide +kernel
theorem dX8_text_1 : decode cX8_text 1 = .ok (.iconst 0, 1) := by decide +kernel
theorem dX8_text_2 : decode cX8_text 2 = .ok (.iconst 1, 1) := by decide +kernel
theorem dX8_text_3 : decode cX8_text 3 = .ok (.invokestatic 60, 3) := by decide +kernel
theorem dX8_text_6 : decode cX8_text 6 = .ok (.ifCond .ne 9, 3) := by decide +kernel
theorem dX8_text_9 : decode cX8_text 9 = .ok (.aload_n 0, 1) := by decide +kernel
theorem dX8_text_10 : decode cX8_text 10 = .ok (.iconst 1, 1) := by decide +kernel
theorem dX8_text_11 : decode cX8_text 11 = .ok (.invokevirtual 64, 3) := by decide +kernel
theorem dX8_text_14 : decode cX8_text 14 = .ok (.ireturn, 1) := by decide +kernel
theorem dX8_text_15 : decode cX8_text 15 = .ok (.aload_n 0, 1) := by decide +kernel
theorem dX8_text_16 : decode cX8_text 16 = .ok (.getfield 25, 3) := by decide +kernel
theorem dX8_text_19 : decode cX8_text 19 = .ok (.aload_n 0, 1) := by decide +kernel
theorem dX8_text_20 : decode cX8_text 20 = .ok (.getfield 10, 3) := by decide +kernel
theorem dX8_text_23 : decode cX8_text 23 = .ok (.getfield 152, 3) := by decide +kernel
theorem dX8_text_26 : decode cX8_text 26 = .ok (.iload_n 1, 1) := by decide +kernel
theorem dX8_text_27 : decode cX8_text 27 = .ok (.ifCond .ne 8, 3) := by decide +kernel
theorem dX8_text_30 : decode cX8_text 30 = .ok (.ldc 166, 2) := by decide +kernel
theorem dX8_text_32 : decode cX8_text 32 = .ok (.goto 5, 3) := by decide +kernel
theorem dX8_text_35 : decode cX8_text 35 = .ok (.ldc 168, 2) := by decide +kernel
theorem dX8_text_37 : decode cX8_text 37 = .ok (.invokevirtual 170, 3) := by decide +kernel
theorem dX8_text_40 : decode cX8_text 40 = .ok (.istore_n 2, 1) := by decide +kernel
theorem dX8_text_41 : decode cX8_text 41 = .ok (.aload_n 0, 1) := by decide +kernel
theorem dX8_text_42 : decode cX8_text 42 = .ok (.getfield 10, 3) := by decide +kernel
theorem dX8_text_45 : decode cX8_text 45 = .ok (.getfield 152, 3) := by decide +kernel
theorem dX8_text_48 : decode cX8_text 48 = .ok (.invokevirtual 174, 3) := by decide +kernel
theorem dX8_text_51 : decode cX8_text 51 = .ok (.iload_n 2, 1) := by decide +kernel
theorem dX8_text_52 : decode cX8_text 52 = .ok (.ifCond .lt 8, 3) := by decide +kernel
theorem dX8_text_55 : decode cX8_text 55 = .ok (.bipush (-10), 2) := by decide +kernel
theorem dX8_text_57 : decode cX8_text 57 = .ok (.iload_n 2, 1) := by decide +kernel
theorem dX8_text_58 : decode cX8_text 58 = .ok (.isub, 1) := by decide +kernel
theorem dX8_text_59 : decode cX8_text 59 = .ok (.ireturn, 1) := by decide +kernel
theorem dX8_text_60 : decode cX8_text 60 = .ok (.iload_n 1, 1) := by decide +kernel
theorem dX8_text_61 : decode cX8_text 61 = .ok (.ifCond .ne 20, 3) := by decide +kernel
theorem dX8_text_64 : decode cX8_text 64 = .ok (.aload_n 0, 1) := by decide +kernel
theorem dX8_text_65 : decode cX8_text 65 = .ok (.getfield 10, 3) := by decide +kernel
theorem dX8_text_68 : decode cX8_text 68 = .ok (.aload_n 0, 1) := by decide +kernel
theorem dX8_text_69 : decode cX8_text 69 = .ok (.getfield 25, 3) := by decide +kernel
theorem dX8_text_72 : decode cX8_text 72 = .ok (.invokevirtual 177, 3) := by decide +kernel
theorem dX8_text_75 : decode cX8_text 75 = .ok (.putfield 181, 3) := by decide +kernel
theorem dX8_text_78 : decode cX8_text 78 = .ok (.goto 17, 3) := by decide +kernel
theorem dX8_text_81 : decode cX8_text 81 = .ok (.aload_n 0, 1) := by decide +kernel
theorem dX8_text_82 : decode cX8_text 82 = .ok (.getfield 10, 3) := by decide +kernel
theorem dX8_text_85 : decode cX8_text 85 = .ok (.aload_n 0, 1) := by decide +kernel
theorem dX8_text_86 : decode cX8_text 86 = .ok (.getfield 25, 3) := by decide +kernel
theorem dX8_text_89 : decode cX8_text 89 = .ok (.invokevirtual 177, 3) := by decide +kernel
theorem dX8_text_92 : decode cX8_text 92 = .ok (.putfield 185, 3) := by decide +kernel
theorem dX8_text_95 : decode cX8_text 95 = .ok (.iconst 1, 1) := by decide +kernel
theorem dX8_text_96 : decode cX8_text 96 = .ok (.ireturn, 1) := by decide +kernel
set_option maxRecDepth 20000 in
theorem ggX8_law_X8_within : GoodIn wsX8_law wsX8_within := goodIn_r _ [5] (by decide +kernel) (by decide +kernel)
set_option maxRecDepth 20000 in
theorem gX8_law_X8_within : GoodIn wsX8_law (va_wsS RX8 60 yX8_within wsX8_within) := goodIn_app (goodIn_of _ (by decide +kernel)) ggX8_law_X8_within
set_option maxRecDepth 20000 in
theorem ggX8_law_X8_error : GoodIn wsX8_law wsX8_error := goodIn_r _ [9, 10, 11, 2, 3, 4, 5, 35, 36, 37, 38, 39, 40, 41, 42, 43, 44, 45] (by decide +kernel) (by decide +kernel)
set_option maxRecDepth 20000 in
theorem gX8_law_X8_error : GoodIn wsX8_law (wsV RX8 64 RX8 yX8_error wsX8_error) := goodIn_app (goodIn_of _ (by decide +kernel)) ggX8_law_X8_error
set_option maxRecDepth 20000 in
theorem ggX8_law_X0_sightGiven : GoodIn wsX8_law wsX0_sightGiven := goodIn_r _ [16, 17, 18, 19, 20, 21, 22, 23, 24, 25, 26, 27, 28, 4, 29, 46, 47, 48, 49, 50, 51, 52, 53, 54, 55, 56, 57, 58, 59, 60, 61, 62, 63, 64, 65, 66] (by decide +kernel) (by decide +kernel)
set_option maxRecDepth 20000 in
theorem gX8_law_X0_sightGiven : GoodIn wsX8_law (wsV RX8 188 RX0 yX0_sightGiven wsX0_sightGiven) := goodIn_app (goodIn_of _ (by decide +kernel)) ggX8_law_X0_sightGiven
set_option maxRecDepth 20000 in
theorem ggX8_law_X0_theftGiven : GoodIn wsX8_law wsX0_theftGiven := goodIn_r _ [33, 34, 18, 19, 20, 21, 22, 23, 24, 25, 26, 27, 28, 4, 29, 46, 47, 48, 49, 50, 51, 52, 53, 54, 55, 56, 57, 58, 59, 60, 61, 62, 63, 64, 65, 66] (by decide +kernel) (by decide +kernel)
set_option maxRecDepth 20000 in
theorem gX8_law_X0_theftGiven : GoodIn wsX8_law (wsV RX8 191 RX0 yX0_theftGiven wsX0_theftGiven) := goodIn_app (goodIn_of _ (by decide +kernel)) ggX8_law_X0_theftGiven
theorem dX8_law_0 : decode cX8_law 0 = .ok (.iload_n 1, 1) := by decide +kernel
theorem dX8_law_1 : decode cX8_law 1 = .ok (.iconst 0, 1) := by decide +kernel
theorem dX8_law_2 : decode cX8_law 2 = .ok (.iconst 1, 1) := by decide +kernel
theorem dX8_law_3 : decode cX8_law 3 = .ok (.invokestatic 60, 3) := by decide +kernel
theorem dX8_law_6 : decode cX8_law 6 = .ok (.ifCond .ne 9, 3) := by decide +kernel
theorem dX8_law_9 : decode cX8_law 9 = .ok (.aload_n 0, 1) := by decide +kernel
theorem dX8_law_10 : decode cX8_law 10 = .ok (.iconst 1, 1) := by decide +kernel
theorem dX8_law_11 : decode cX8_law 11 = .ok (.invokevirtual 64, 3) := by decide +kernel
theorem dX8_law_14 : decode cX8_law 14 = .ok (.ireturn, 1) := by decide +kernel
theorem dX8_law_15 : decode cX8_law 15 = .ok (.iload_n 1, 1) := by decide +kernel
theorem dX8_law_16 : decode cX8_law 16 = .ok (.ifCond .ne 17, 3) := by decide +kernel
theorem dX8_law_19 : decode cX8_law 19 = .ok (.aload_n 0, 1) := by decide +kernel
theorem dX8_law_20 : decode cX8_law 20 = .ok (.getfield 10, 3) := by decide +kernel
theorem dX8_law_23 : decode cX8_law 23 = .ok (.iload_n 2, 1) := by decide +kernel
theorem dX8_law_24 : decode cX8_law 24 = .ok (.iload_n 3, 1) := by decide +kernel
theorem dX8_law_25 : decode cX8_law 25 = .ok (.iload 4, 2) := by decide +kernel
theorem dX8_law_27 : decode cX8_law 27 = .ok (.invokevirtual 188, 3) := by decide +kernel
theorem dX8_law_30 : decode cX8_law 30 = .ok (.goto 14, 3) := by decide +kernel
theorem dX8_law_33 : decode cX8_law 33 = .ok (.aload_n 0, 1) := by decide +kernel
theorem dX8_law_34 : decode cX8_law 34 = .ok (.getfield 10, 3) := by decide +kernel
theorem dX8_law_37 : decode cX8_law 37 = .ok (.iload_n 2, 1) := by decide +kernel
theorem dX8_law_38 : decode cX8_law 38 = .ok (.iload_n 3, 1) := by decide +kernel
theorem dX8_law_39 : decode cX8_law 39 = .ok (.iload 4, 2) := by decide +kernel
theorem dX8_law_41 : decode cX8_law 41 = .ok (.invokevirtual 191, 3) := by decide +kernel
theorem dX8_law_44 : decode cX8_law 44 = .ok (.ireturn, 1) := by decide +kernel
set_option maxRecDepth 20000 in
theorem ggX8_hours_X8_within : GoodIn wsX8_hours wsX8_within := goodIn_r _ [6] (by decide +kernel) (by decide +kernel)
set_option maxRecDepth 20000 in
theorem gX8_hours_X8_within : GoodIn wsX8_hours (va_wsS RX8 60 yX8_within wsX8_within) := goodIn_app (goodIn_of _ (by decide +kernel)) ggX8_hours_X8_within
set_option maxRecDepth 20000 in
theorem ggX8_hours_X8_error : GoodIn wsX8_hours wsX8_error := goodIn_r _ [10, 11, 12, 3, 4, 5, 6, 113, 114, 115, 116, 117, 118, 119, 120, 121, 122, 123] (by decide +kernel) (by decide +kernel)
set_option maxRecDepth 20000 in
theorem gX8_hours_X8_error : GoodIn wsX8_hours (wsV RX8 64 RX8 yX8_error wsX8_error) := goodIn_app (goodIn_of _ (by decide +kernel)) ggX8_hours_X8_error
set_option maxRecDepth 20000 in
theorem ggX8_hours_X0_passHour : GoodIn wsX8_hours wsX0_passHour := goodIn_r _ [17, 18, 19, 20, 21, 22, 23, 24, 25, 26, 27, 28, 29, 30, 16, 31, 32, 33, 34, 35, 36, 37, 38, 39, 40, 41, 42, 43, 44, 45, 46, 47, 48, 49, 50, 51, 52, 53, 54, 55, 56, 57, 58, 59, 60, 61, 62, 63, 64, 65, 66, 5, 67, 68, 69, 70, 71, 72, 73, 74, 75, 76, 77, 78, 79, 80, 81, 82, 83, 84, 85, 86, 87, 88, 89, 90, 91, 4, 6, 92, 93, 94, 95, 96, 97, 98, 99, 100, 101, 102, 103, 104, 124, 125, 126, 127, 128, 129, 130, 131, 132, 133, 134, 135, 136, 137, 138, 139, 140, 141, 142, 143, 144] (by decide +kernel) (by decide +kernel)
set_option maxRecDepth 20000 in
theorem gX8_hours_X0_passHour : GoodIn wsX8_hours (wsV RX8 194 RX0 yX0_passHour wsX0_passHour) := goodIn_app (goodIn_of _ (by decide +kernel)) ggX8_hours_X0_passHour
set_option maxRecDepth 20000 in
theorem ggX8_hours_X0_together : GoodIn wsX8_hours wsX0_together := goodIn_r _ [108, 37, 109, 110, 111, 16, 112, 20, 75, 5, 76, 124, 125, 126, 127, 128, 129, 130, 131, 132, 133, 134, 135, 136, 137, 138, 139, 140, 141, 142] (by decide +kernel) (by decide +kernel)
set_option maxRecDepth 20000 in
theorem gX8_hours_X0_together : GoodIn wsX8_hours (wsV RX8 197 RX0 yX0_together wsX0_together) := goodIn_app (goodIn_of _ (by decide +kernel)) ggX8_hours_X0_together
theorem dX8_hours_0 : decode cX8_hours 0 = .ok (.iload_n 1, 1) := by decide +kernel
theorem dX8_hours_1 : decode cX8_hours 1 = .ok (.iconst 1, 1) := by decide +kernel
theorem dX8_hours_2 : decode cX8_hours 2 = .ok (.bipush 50, 2) := by decide +kernel
theorem dX8_hours_4 : decode cX8_hours 4 = .ok (.invokestatic 60, 3) := by decide +kernel
theorem dX8_hours_7 : decode cX8_hours 7 = .ok (.ifCond .ne 9, 3) := by decide +kernel
theorem dX8_hours_10 : decode cX8_hours 10 = .ok (.aload_n 0, 1) := by decide +kernel
theorem dX8_hours_11 : decode cX8_hours 11 = .ok (.iconst 1, 1) := by decide +kernel
theorem dX8_hours_12 : decode cX8_hours 12 = .ok (.invokevirtual 64, 3) := by decide +kernel
theorem dX8_hours_15 : decode cX8_hours 15 = .ok (.ireturn, 1) := by decide +kernel
theorem dX8_hours_16 : decode cX8_hours 16 = .ok (.aload_n 0, 1) := by decide +kernel
theorem dX8_hours_17 : decode cX8_hours 17 = .ok (.getfield 10, 3) := by decide +kernel
theorem dX8_hours_20 : decode cX8_hours 20 = .ok (.getfield 130, 3) := by decide +kernel
theorem dX8_hours_23 : decode cX8_hours 23 = .ok (.iload_n 1, 1) := by decide +kernel
theorem dX8_hours_24 : decode cX8_hours 24 = .ok (.iadd, 1) := by decide +kernel
theorem dX8_hours_25 : decode cX8_hours 25 = .ok (.sipush 9999, 3) := by decide +kernel
theorem dX8_hours_28 : decode cX8_hours 28 = .ok (.if_icmp .le 9, 3) := by decide +kernel
theorem dX8_hours_31 : decode cX8_hours 31 = .ok (.aload_n 0, 1) := by decide +kernel
theorem dX8_hours_32 : decode cX8_hours 32 = .ok (.iconst 3, 1) := by decide +kernel
theorem dX8_hours_33 : decode cX8_hours 33 = .ok (.invokevirtual 64, 3) := by decide +kernel
theorem dX8_hours_36 : decode cX8_hours 36 = .ok (.ireturn, 1) := by decide +kernel
theorem dX8_hours_37 : decode cX8_hours 37 = .ok (.iconst 0, 1) := by decide +kernel
theorem dX8_hours_38 : decode cX8_hours 38 = .ok (.istore_n 2, 1) := by decide +kernel
theorem dX8_hours_39 : decode cX8_hours 39 = .ok (.iload_n 2, 1) := by decide +kernel
theorem dX8_hours_40 : decode cX8_hours 40 = .ok (.iload_n 1, 1) := by decide +kernel
theorem dX8_hours_41 : decode cX8_hours 41 = .ok (.if_icmp .ge 16, 3) := by decide +kernel
theorem dX8_hours_44 : decode cX8_hours 44 = .ok (.aload_n 0, 1) := by decide +kernel
theorem dX8_hours_45 : decode cX8_hours 45 = .ok (.getfield 10, 3) := by decide +kernel
theorem dX8_hours_48 : decode cX8_hours 48 = .ok (.invokevirtual 194, 3) := by decide +kernel
theorem dX8_hours_51 : decode cX8_hours 51 = .ok (.iinc 2 1, 3) := by decide +kernel
theorem dX8_hours_54 : decode cX8_hours 54 = .ok (.goto (-15), 3) := by decide +kernel
theorem dX8_hours_57 : decode cX8_hours 57 = .ok (.aload_n 0, 1) := by decide +kernel
theorem dX8_hours_58 : decode cX8_hours 58 = .ok (.getfield 10, 3) := by decide +kernel
theorem dX8_hours_61 : decode cX8_hours 61 = .ok (.invokevirtual 197, 3) := by decide +kernel
theorem dX8_hours_64 : decode cX8_hours 64 = .ok (.ireturn, 1) := by decide +kernel
set_option maxRecDepth 20000 in
theorem ggX8_loose_X8_within : GoodIn wsX8_loose wsX8_within := goodIn_r _ [6] (by decide +kernel) (by decide +kernel)
set_option maxRecDepth 20000 in
theorem gX8_loose_X8_within : GoodIn wsX8_loose (va_wsS RX8 60 yX8_within wsX8_within) := goodIn_app (goodIn_of _ (by decide +kernel)) ggX8_loose_X8_within
set_option maxRecDepth 20000 in
theorem ggX8_loose_X8_error : GoodIn wsX8_loose wsX8_error := goodIn_r _ [10, 11, 12, 3, 4, 5, 6, 123, 124, 125, 126, 127, 128, 129, 130, 131, 132, 133] (by decide +kernel) (by decide +kernel)
set_option maxRecDepth 20000 in
theorem gX8_loose_X8_error : GoodIn wsX8_loose (wsV RX8 64 RX8 yX8_error wsX8_error) := goodIn_app (goodIn_of _ (by decide +kernel)) ggX8_loose_X8_error
set_option maxRecDepth 20000 in
theorem ggX8_loose_X0_turnOneByDraws : GoodIn wsX8_loose wsX0_turnOneByDraws := goodIn_r _ [17, 18, 19, 20, 21, 22, 16, 23, 24, 25, 134, 135, 136, 137, 138, 139, 140, 141, 142, 143, 144, 145, 146, 147, 148, 149, 150, 151, 152] (by decide +kernel) (by decide +kernel)
set_option maxRecDepth 20000 in
theorem gX8_loose_X0_turnOneByDraws : GoodIn wsX8_loose (wsV RX8 201 RX0 yX0_turnOneByDraws wsX0_turnOneByDraws) := goodIn_app (goodIn_of _ (by decide +kernel)) ggX8_loose_X0_turnOneByDraws
set_option maxRecDepth 20000 in
theorem ggX8_loose_X0_passHour : GoodIn wsX8_loose wsX0_passHour := goodIn_r _ [29, 18, 30, 31, 32, 33, 34, 35, 36, 37, 38, 39, 40, 41, 16, 42, 43, 44, 45, 46, 47, 48, 49, 50, 51, 52, 53, 54, 55, 56, 57, 58, 59, 60, 61, 62, 63, 64, 65, 66, 67, 68, 69, 70, 71, 72, 73, 74, 75, 76, 77, 5, 78, 79, 80, 81, 82, 83, 84, 85, 86, 87, 88, 89, 90, 91, 92, 93, 94, 95, 96, 97, 98, 99, 100, 101, 102, 4, 6, 103, 104, 105, 106, 107, 108, 109, 110, 111, 112, 113, 114, 19, 134, 135, 136, 137, 138, 139, 140, 141, 142, 143, 144, 145, 146, 147, 148, 149, 150, 151, 152, 153, 154] (by decide +kernel) (by decide +kernel)
set_option maxRecDepth 20000 in
theorem gX8_loose_X0_passHour : GoodIn wsX8_loose (wsV RX8 194 RX0 yX0_passHour wsX0_passHour) := goodIn_app (goodIn_of _ (by decide +kernel)) ggX8_loose_X0_passHour
set_option maxRecDepth 20000 in
theorem ggX8_loose_X0_together : GoodIn wsX8_loose wsX0_together := goodIn_r _ [118, 48, 119, 120, 121, 16, 122, 31, 86, 5, 87, 134, 135, 136, 137, 138, 139, 140, 141, 142, 143, 144, 145, 146, 147, 148, 149, 150, 151, 152] (by decide +kernel) (by decide +kernel)
set_option maxRecDepth 20000 in
theorem gX8_loose_X0_together : GoodIn wsX8_loose (wsV RX8 197 RX0 yX0_together wsX0_together) := goodIn_app (goodIn_of _ (by decide +kernel)) ggX8_loose_X0_together
theorem dX8_loose_0 : decode cX8_loose 0 = .ok (.iload_n 1, 1) := by decide +kernel
theorem dX8_loose_1 : decode cX8_loose 1 = .ok (.iconst 1, 1) := by decide +kernel
theorem dX8_loose_2 : decode cX8_loose 2 = .ok (.bipush 40, 2) := by decide +kernel
theorem dX8_loose_4 : decode cX8_loose 4 = .ok (.invokestatic 60, 3) := by decide +kernel
theorem dX8_loose_7 : decode cX8_loose 7 = .ok (.ifCond .ne 9, 3) := by decide +kernel
theorem dX8_loose_10 : decode cX8_loose 10 = .ok (.aload_n 0, 1) := by decide +kernel
theorem dX8_loose_11 : decode cX8_loose 11 = .ok (.iconst 1, 1) := by decide +kernel
theorem dX8_loose_12 : decode cX8_loose 12 = .ok (.invokevirtual 64, 3) := by decide +kernel
theorem dX8_loose_15 : decode cX8_loose 15 = .ok (.ireturn, 1) := by decide +kernel
theorem dX8_loose_16 : decode cX8_loose 16 = .ok (.aload_n 0, 1) := by decide +kernel
theorem dX8_loose_17 : decode cX8_loose 17 = .ok (.getfield 10, 3) := by decide +kernel
theorem dX8_loose_20 : decode cX8_loose 20 = .ok (.getfield 130, 3) := by decide +kernel
theorem dX8_loose_23 : decode cX8_loose 23 = .ok (.iload_n 1, 1) := by decide +kernel
theorem dX8_loose_24 : decode cX8_loose 24 = .ok (.iadd, 1) := by decide +kernel
theorem dX8_loose_25 : decode cX8_loose 25 = .ok (.sipush 9999, 3) := by decide +kernel
theorem dX8_loose_28 : decode cX8_loose 28 = .ok (.if_icmp .le 9, 3) := by decide +kernel
theorem dX8_loose_31 : decode cX8_loose 31 = .ok (.aload_n 0, 1) := by decide +kernel
theorem dX8_loose_32 : decode cX8_loose 32 = .ok (.iconst 3, 1) := by decide +kernel
theorem dX8_loose_33 : decode cX8_loose 33 = .ok (.invokevirtual 64, 3) := by decide +kernel
theorem dX8_loose_36 : decode cX8_loose 36 = .ok (.ireturn, 1) := by decide +kernel
theorem dX8_loose_37 : decode cX8_loose 37 = .ok (.iconst 0, 1) := by decide +kernel
theorem dX8_loose_38 : decode cX8_loose 38 = .ok (.istore_n 2, 1) := by decide +kernel
theorem dX8_loose_39 : decode cX8_loose 39 = .ok (.iload_n 2, 1) := by decide +kernel
theorem dX8_loose_40 : decode cX8_loose 40 = .ok (.iload_n 1, 1) := by decide +kernel
theorem dX8_loose_41 : decode cX8_loose 41 = .ok (.if_icmp .ge 23, 3) := by decide +kernel
theorem dX8_loose_44 : decode cX8_loose 44 = .ok (.aload_n 0, 1) := by decide +kernel
theorem dX8_loose_45 : decode cX8_loose 45 = .ok (.getfield 10, 3) := by decide +kernel
theorem dX8_loose_48 : decode cX8_loose 48 = .ok (.invokevirtual 201, 3) := by decide +kernel
theorem dX8_loose_51 : decode cX8_loose 51 = .ok (.aload_n 0, 1) := by decide +kernel
theorem dX8_loose_52 : decode cX8_loose 52 = .ok (.getfield 10, 3) := by decide +kernel
theorem dX8_loose_55 : decode cX8_loose 55 = .ok (.invokevirtual 194, 3) := by decide +kernel
theorem dX8_loose_58 : decode cX8_loose 58 = .ok (.iinc 2 1, 3) := by decide +kernel
theorem dX8_loose_61 : decode cX8_loose 61 = .ok (.goto (-22), 3) := by decide +kernel
theorem dX8_loose_64 : decode cX8_loose 64 = .ok (.aload_n 0, 1) := by decide +kernel
theorem dX8_loose_65 : decode cX8_loose 65 = .ok (.getfield 10, 3) := by decide +kernel
theorem dX8_loose_68 : decode cX8_loose 68 = .ok (.invokevirtual 197, 3) := by decide +kernel
theorem dX8_loose_71 : decode cX8_loose 71 = .ok (.ireturn, 1) := by decide +kernel
set_option maxRecDepth 20000 in
theorem ggX8_evening_X0_addUpLeaning : GoodIn wsX8_evening wsX0_addUpLeaning := goodIn_r _ [6, 7, 8, 9, 10, 11, 12, 13, 14, 15, 35, 36, 37, 38, 39, 40, 41, 42, 43, 44, 45, 46, 47, 48, 49, 50, 51, 52, 53] (by decide +kernel) (by decide +kernel)
set_option maxRecDepth 20000 in
theorem gX8_evening_X0_addUpLeaning : GoodIn wsX8_evening (wsV RX8 204 RX0 yX0_addUpLeaning wsX0_addUpLeaning) := goodIn_app (goodIn_of _ (by decide +kernel)) ggX8_evening_X0_addUpLeaning
set_option maxRecDepth 20000 in
theorem ggX8_evening_X0_together : GoodIn wsX8_evening wsX0_together := goodIn_r _ [19, 7, 20, 21, 22, 5, 23, 9, 11, 12, 13, 35, 36, 37, 38, 39, 40, 41, 42, 43, 44, 45, 46, 47, 48, 49, 50, 51, 52, 53] (by decide +kernel) (by decide +kernel)
set_option maxRecDepth 20000 in
theorem gX8_evening_X0_together : GoodIn wsX8_evening (wsV RX8 197 RX0 yX0_together wsX0_together) := goodIn_app (goodIn_of _ (by decide +kernel)) ggX8_evening_X0_together
theorem dX8_evening_0 : decode cX8_evening 0 = .ok (.aload_n 0, 1) := by decide +kernel
theorem dX8_evening_1 : decode cX8_evening 1 = .ok (.getfield 10, 3) := by decide +kernel
theorem dX8_evening_4 : decode cX8_evening 4 = .ok (.invokevirtual 204, 3) := by decide +kernel
theorem dX8_evening_7 : decode cX8_evening 7 = .ok (.aload_n 0, 1) := by decide +kernel
theorem dX8_evening_8 : decode cX8_evening 8 = .ok (.getfield 10, 3) := by decide +kernel
theorem dX8_evening_11 : decode cX8_evening 11 = .ok (.invokevirtual 197, 3) := by decide +kernel
theorem dX8_evening_14 : decode cX8_evening 14 = .ok (.ireturn, 1) := by decide +kernel
set_option maxRecDepth 20000 in
theorem ggX8_hail_X8_within : GoodIn wsX8_hail wsX8_within := goodIn_r _ [5] (by decide +kernel) (by decide +kernel)
set_option maxRecDepth 20000 in
theorem gX8_hail_X8_within : GoodIn wsX8_hail (va_wsS RX8 60 yX8_within wsX8_within) := goodIn_app (goodIn_of _ (by decide +kernel)) ggX8_hail_X8_within
set_option maxRecDepth 20000 in
theorem ggX8_hail_X8_error : GoodIn wsX8_hail wsX8_error := goodIn_r _ [9, 10, 11, 2, 3, 4, 5, 29, 30, 31, 32, 33, 34, 35, 36, 37, 38, 39] (by decide +kernel) (by decide +kernel)
set_option maxRecDepth 20000 in
theorem gX8_hail_X8_error : GoodIn wsX8_hail (wsV RX8 64 RX8 yX8_error wsX8_error) := goodIn_app (goodIn_of _ (by decide +kernel)) ggX8_hail_X8_error
set_option maxRecDepth 20000 in
theorem ggX8_hail_X0_divideGrains : GoodIn wsX8_hail wsX0_divideGrains := goodIn_r _ [16, 17, 18, 40, 41, 42, 43, 44, 45, 46, 47, 48, 49, 50, 51, 52, 53, 54, 55, 56, 57, 58] (by decide +kernel) (by decide +kernel)
set_option maxRecDepth 20000 in
theorem gX8_hail_X0_divideGrains : GoodIn wsX8_hail (wsV RX8 207 RX0 yX0_divideGrains wsX0_divideGrains) := goodIn_app (goodIn_of _ (by decide +kernel)) ggX8_hail_X0_divideGrains
set_option maxRecDepth 20000 in
theorem ggX8_hail_X0_together : GoodIn wsX8_hail wsX0_together := goodIn_r _ [22, 17, 23, 24, 25, 15, 26, 18, 27, 4, 28, 40, 41, 42, 43, 44, 45, 46, 47, 48, 49, 50, 51, 52, 53, 54, 55, 56, 57, 58] (by decide +kernel) (by decide +kernel)
set_option maxRecDepth 20000 in
theorem gX8_hail_X0_together : GoodIn wsX8_hail (wsV RX8 197 RX0 yX0_together wsX0_together) := goodIn_app (goodIn_of _ (by decide +kernel)) ggX8_hail_X0_together
theorem dX8_hail_0 : decode cX8_hail 0 = .ok (.iload_n 1, 1) := by decide +kernel
theorem dX8_hail_1 : decode cX8_hail 1 = .ok (.iconst 2, 1) := by decide +kernel
theorem dX8_hail_2 : decode cX8_hail 2 = .ok (.bipush 9, 2) := by decide +kernel
theorem dX8_hail_4 : decode cX8_hail 4 = .ok (.invokestatic 60, 3) := by decide +kernel
theorem dX8_hail_7 : decode cX8_hail 7 = .ok (.ifCond .ne 9, 3) := by decide +kernel
theorem dX8_hail_10 : decode cX8_hail 10 = .ok (.aload_n 0, 1) := by decide +kernel
theorem dX8_hail_11 : decode cX8_hail 11 = .ok (.iconst 1, 1) := by decide +kernel
theorem dX8_hail_12 : decode cX8_hail 12 = .ok (.invokevirtual 64, 3) := by decide +kernel
theorem dX8_hail_15 : decode cX8_hail 15 = .ok (.ireturn, 1) := by decide +kernel
theorem dX8_hail_16 : decode cX8_hail 16 = .ok (.aload_n 0, 1) := by decide +kernel
theorem dX8_hail_17 : decode cX8_hail 17 = .ok (.getfield 10, 3) := by decide +kernel
theorem dX8_hail_20 : decode cX8_hail 20 = .ok (.iload_n 1, 1) := by decide +kernel
theorem dX8_hail_21 : decode cX8_hail 21 = .ok (.invokevirtual 207, 3) := by decide +kernel
theorem dX8_hail_24 : decode cX8_hail 24 = .ok (.aload_n 0, 1) := by decide +kernel
theorem dX8_hail_25 : decode cX8_hail 25 = .ok (.getfield 10, 3) := by decide +kernel
theorem dX8_hail_28 : decode cX8_hail 28 = .ok (.invokevirtual 197, 3) := by decide +kernel
theorem dX8_hail_31 : decode cX8_hail 31 = .ok (.ireturn, 1) := by decide +kernel
set_option maxRecDepth 20000 in
theorem ggX8_then_X8_within : GoodIn wsX8_then wsX8_within := goodIn_r _ [9] (by decide +kernel) (by decide +kernel)
set_option maxRecDepth 20000 in
theorem gX8_then_X8_within : GoodIn wsX8_then (va_wsS RX8 60 yX8_within wsX8_within) := goodIn_app (goodIn_of _ (by decide +kernel)) ggX8_then_X8_within
set_option maxRecDepth 20000 in
theorem ggX8_then_X8_error : GoodIn wsX8_then wsX8_error := goodIn_r _ [13, 14, 15, 6, 7, 8, 9, 139, 140, 141, 142, 143, 144, 145, 146, 147, 148, 149] (by decide +kernel) (by decide +kernel)
set_option maxRecDepth 20000 in
theorem gX8_then_X8_error : GoodIn wsX8_then (wsV RX8 64 RX8 yX8_error wsX8_error) := goodIn_app (goodIn_of _ (by decide +kernel)) ggX8_then_X8_error
set_option maxRecDepth 20000 in
theorem ggX8_then_X0_takeOver : GoodIn wsX8_then wsX0_takeOver := goodIn_r _ [20, 21, 22, 23, 24, 25, 26, 27, 28, 29, 30, 31, 32, 33, 34, 35, 36, 37, 38, 39, 40, 41, 42, 43, 44, 45, 46, 47, 48, 49, 50, 51, 52, 53, 54, 55, 56, 57, 58, 59, 60, 61, 150, 151, 152, 153, 154, 155, 156, 157, 158, 159, 160, 161, 162, 163, 164, 165, 166, 167, 168, 169, 170] (by decide +kernel) (by decide +kernel)
set_option maxRecDepth 20000 in
theorem gX8_then_X0_takeOver : GoodIn wsX8_then (wsV RX8 210 RX0 yX0_takeOver wsX0_takeOver) := goodIn_app (goodIn_of _ (by decide +kernel)) ggX8_then_X0_takeOver
set_option maxRecDepth 20000 in
theorem ggX8_then_X0_passHour : GoodIn wsX8_then wsX0_passHour := goodIn_r _ [65, 33, 36, 22, 31, 66, 67, 68, 69, 32, 70, 71, 72, 73, 19, 74, 75, 34, 35, 30, 28, 21, 27, 76, 77, 78, 79, 80, 81, 82, 83, 84, 85, 86, 87, 88, 89, 90, 91, 38, 92, 93, 94, 95, 96, 97, 98, 99, 100, 101, 102, 8, 103, 104, 105, 106, 107, 108, 109, 110, 111, 112, 113, 114, 115, 116, 117, 118, 119, 120, 121, 122, 123, 124, 125, 126, 127, 7, 9, 128, 129, 130, 131, 39, 132, 133, 134, 135, 136, 137, 138, 37, 150, 151, 152, 153, 154, 155, 156, 157, 158, 159, 160, 161, 162, 163, 164, 165, 166, 167, 168, 171, 172] (by decide +kernel) (by decide +kernel)
set_option maxRecDepth 20000 in
theorem gX8_then_X0_passHour : GoodIn wsX8_then (wsV RX8 194 RX0 yX0_passHour wsX0_passHour) := goodIn_app (goodIn_of _ (by decide +kernel)) ggX8_then_X0_passHour
theorem dX8_then_0 : decode cX8_then 0 = .ok (.iload_n 1, 1) := by decide +kernel
theorem dX8_then_1 : decode cX8_then 1 = .ok (.iconst 0, 1) := by decide +kernel
theorem dX8_then_2 : decode cX8_then 2 = .ok (.bipush 50, 2) := by decide +kernel
theorem dX8_then_4 : decode cX8_then 4 = .ok (.invokestatic 60, 3) := by decide +kernel
theorem dX8_then_7 : decode cX8_then 7 = .ok (.ifCond .eq 20, 3) := by decide +kernel
theorem dX8_then_10 : decode cX8_then 10 = .ok (.iload_n 2, 1) := by decide +kernel
theorem dX8_then_11 : decode cX8_then 11 = .ok (.iconst (-1), 1) := by decide +kernel
theorem dX8_then_12 : decode cX8_then 12 = .ok (.aload_n 0, 1) := by decide +kernel
theorem dX8_then_13 : decode cX8_then 13 = .ok (.getfield 10, 3) := by decide +kernel
theorem dX8_then_16 : decode cX8_then 16 = .ok (.getfield 72, 3) := by decide +kernel
theorem dX8_then_19 : decode cX8_then 19 = .ok (.iconst 1, 1) := by decide +kernel
theorem dX8_then_20 : decode cX8_then 20 = .ok (.isub, 1) := by decide +kernel
theorem dX8_then_21 : decode cX8_then 21 = .ok (.invokestatic 60, 3) := by decide +kernel
theorem dX8_then_24 : decode cX8_then 24 = .ok (.ifCond .ne 9, 3) := by decide +kernel
theorem dX8_then_27 : decode cX8_then 27 = .ok (.aload_n 0, 1) := by decide +kernel
theorem dX8_then_28 : decode cX8_then 28 = .ok (.iconst 1, 1) := by decide +kernel
theorem dX8_then_29 : decode cX8_then 29 = .ok (.invokevirtual 64, 3) := by decide +kernel
theorem dX8_then_32 : decode cX8_then 32 = .ok (.ireturn, 1) := by decide +kernel
theorem dX8_then_33 : decode cX8_then 33 = .ok (.aload_n 0, 1) := by decide +kernel
theorem dX8_then_34 : decode cX8_then 34 = .ok (.getfield 16, 3) := by decide +kernel
theorem dX8_then_37 : decode cX8_then 37 = .ok (.aload_n 0, 1) := by decide +kernel
theorem dX8_then_38 : decode cX8_then 38 = .ok (.getfield 10, 3) := by decide +kernel
theorem dX8_then_41 : decode cX8_then 41 = .ok (.invokevirtual 210, 3) := by decide +kernel
theorem dX8_then_44 : decode cX8_then 44 = .ok (.iconst 0, 1) := by decide +kernel
theorem dX8_then_45 : decode cX8_then 45 = .ok (.istore_n 3, 1) := by decide +kernel
theorem dX8_then_46 : decode cX8_then 46 = .ok (.iload_n 3, 1) := by decide +kernel
theorem dX8_then_47 : decode cX8_then 47 = .ok (.iload_n 1, 1) := by decide +kernel
theorem dX8_then_48 : decode cX8_then 48 = .ok (.if_icmp .ge 16, 3) := by decide +kernel
theorem dX8_then_51 : decode cX8_then 51 = .ok (.aload_n 0, 1) := by decide +kernel
theorem dX8_then_52 : decode cX8_then 52 = .ok (.getfield 16, 3) := by decide +kernel
theorem dX8_then_55 : decode cX8_then 55 = .ok (.invokevirtual 194, 3) := by decide +kernel
theorem dX8_then_58 : decode cX8_then 58 = .ok (.iinc 3 1, 3) := by decide +kernel
theorem dX8_then_61 : decode cX8_then 61 = .ok (.goto (-15), 3) := by decide +kernel
theorem dX8_then_64 : decode cX8_then 64 = .ok (.iload_n 2, 1) := by decide +kernel
theorem dX8_then_65 : decode cX8_then 65 = .ok (.ifCond .ge 13, 3) := by decide +kernel
theorem dX8_then_68 : decode cX8_then 68 = .ok (.aload_n 0, 1) := by decide +kernel
theorem dX8_then_69 : decode cX8_then 69 = .ok (.getfield 16, 3) := by decide +kernel
theorem dX8_then_72 : decode cX8_then 72 = .ok (.getfield 214, 3) := by decide +kernel
theorem dX8_then_75 : decode cX8_then 75 = .ok (.goto 12, 3) := by decide +kernel
theorem dX8_then_78 : decode cX8_then 78 = .ok (.aload_n 0, 1) := by decide +kernel
theorem dX8_then_79 : decode cX8_then 79 = .ok (.getfield 16, 3) := by decide +kernel
theorem dX8_then_82 : decode cX8_then 82 = .ok (.getfield 84, 3) := by decide +kernel
theorem dX8_then_85 : decode cX8_then 85 = .ok (.iload_n 2, 1) := by decide +kernel
theorem dX8_then_86 : decode cX8_then 86 = .ok (.iaload, 1) := by decide +kernel
theorem dX8_then_87 : decode cX8_then 87 = .ok (.ireturn, 1) := by decide +kernel
set_option maxRecDepth 20000 in
theorem ggX8_full_X8_within : GoodIn wsX8_full wsX8_within := goodIn_r _ [7] (by decide +kernel) (by decide +kernel)
set_option maxRecDepth 20000 in
theorem gX8_full_X8_within : GoodIn wsX8_full (va_wsS RX8 60 yX8_within wsX8_within) := goodIn_app (goodIn_of _ (by decide +kernel)) ggX8_full_X8_within
set_option maxRecDepth 20000 in
theorem ggX8_full_X8_error : GoodIn wsX8_full wsX8_error := goodIn_r _ [11, 12, 13, 4, 5, 6, 7, 145, 146, 147, 148, 149, 150, 151, 152, 153, 154, 155] (by decide +kernel) (by decide +kernel)
set_option maxRecDepth 20000 in
theorem gX8_full_X8_error : GoodIn wsX8_full (wsV RX8 64 RX8 yX8_error wsX8_error) := goodIn_app (goodIn_of _ (by decide +kernel)) ggX8_full_X8_error
set_option maxRecDepth 20000 in
theorem ggX8_full_X0_takeOver : GoodIn wsX8_full wsX0_takeOver := goodIn_r _ [18, 19, 20, 21, 22, 23, 24, 25, 26, 27, 28, 29, 30, 31, 32, 33, 34, 35, 36, 37, 38, 39, 40, 41, 42, 43, 44, 45, 46, 47, 48, 49, 50, 51, 52, 53, 54, 55, 56, 57, 58, 59, 156, 157, 158, 159, 160, 161, 162, 163, 164, 165, 166, 167, 168, 169, 170, 171, 172, 173, 174, 175, 176] (by decide +kernel) (by decide +kernel)
set_option maxRecDepth 20000 in
theorem gX8_full_X0_takeOver : GoodIn wsX8_full (wsV RX8 210 RX0 yX0_takeOver wsX0_takeOver) := goodIn_app (goodIn_of _ (by decide +kernel)) ggX8_full_X0_takeOver
set_option maxRecDepth 20000 in
theorem ggX8_full_X0_together : GoodIn wsX8_full wsX0_together := goodIn_r _ [63, 19, 64, 65, 66, 17, 67, 20, 68, 6, 69, 156, 157, 158, 159, 160, 161, 162, 163, 164, 165, 166, 167, 168, 169, 170, 171, 172, 173, 174] (by decide +kernel) (by decide +kernel)
set_option maxRecDepth 20000 in
theorem gX8_full_X0_together : GoodIn wsX8_full (wsV RX8 197 RX0 yX0_together wsX0_together) := goodIn_app (goodIn_of _ (by decide +kernel)) ggX8_full_X0_together
set_option maxRecDepth 20000 in
theorem ggX8_full_X0_passHour : GoodIn wsX8_full wsX0_passHour := goodIn_r _ [73, 31, 34, 20, 29, 74, 75, 76, 77, 30, 78, 79, 80, 81, 17, 82, 83, 32, 33, 28, 26, 19, 25, 84, 85, 86, 87, 88, 89, 90, 91, 92, 93, 94, 95, 96, 97, 98, 99, 36, 100, 101, 102, 103, 104, 105, 106, 107, 108, 109, 110, 6, 111, 112, 113, 114, 115, 116, 117, 118, 68, 69, 119, 120, 121, 122, 123, 124, 125, 126, 127, 128, 129, 130, 131, 132, 133, 5, 7, 134, 135, 136, 137, 37, 138, 139, 140, 141, 142, 143, 144, 35, 156, 157, 158, 159, 160, 161, 162, 163, 164, 165, 166, 167, 168, 169, 170, 171, 172, 173, 174, 177, 178] (by decide +kernel) (by decide +kernel)
set_option maxRecDepth 20000 in
theorem gX8_full_X0_passHour : GoodIn wsX8_full (wsV RX8 194 RX0 yX0_passHour wsX0_passHour) := goodIn_app (goodIn_of _ (by decide +kernel)) ggX8_full_X0_passHour
theorem dX8_full_0 : decode cX8_full 0 = .ok (.iload_n 1, 1) := by decide +kernel
theorem dX8_full_1 : decode cX8_full 1 = .ok (.iconst 0, 1) := by decide +kernel
theorem dX8_full_2 : decode cX8_full 2 = .ok (.ldc 217, 2) := by decide +kernel
theorem dX8_full_4 : decode cX8_full 4 = .ok (.invokestatic 60, 3) := by decide +kernel
theorem dX8_full_7 : decode cX8_full 7 = .ok (.ifCond .ne 9, 3) := by decide +kernel
theorem dX8_full_10 : decode cX8_full 10 = .ok (.aload_n 0, 1) := by decide +kernel
theorem dX8_full_11 : decode cX8_full 11 = .ok (.iconst 1, 1) := by decide +kernel
theorem dX8_full_12 : decode cX8_full 12 = .ok (.invokevirtual 64, 3) := by decide +kernel
theorem dX8_full_15 : decode cX8_full 15 = .ok (.ireturn, 1) := by decide +kernel
theorem dX8_full_16 : decode cX8_full 16 = .ok (.aload_n 0, 1) := by decide +kernel
theorem dX8_full_17 : decode cX8_full 17 = .ok (.getfield 16, 3) := by decide +kernel
theorem dX8_full_20 : decode cX8_full 20 = .ok (.aload_n 0, 1) := by decide +kernel
theorem dX8_full_21 : decode cX8_full 21 = .ok (.getfield 10, 3) := by decide +kernel
theorem dX8_full_24 : decode cX8_full 24 = .ok (.invokevirtual 210, 3) := by decide +kernel
theorem dX8_full_27 : decode cX8_full 27 = .ok (.iconst 0, 1) := by decide +kernel
theorem dX8_full_28 : decode cX8_full 28 = .ok (.istore_n 2, 1) := by decide +kernel
theorem dX8_full_29 : decode cX8_full 29 = .ok (.iload_n 2, 1) := by decide +kernel
theorem dX8_full_30 : decode cX8_full 30 = .ok (.bipush 50, 2) := by decide +kernel
theorem dX8_full_32 : decode cX8_full 32 = .ok (.if_icmp .gt 29, 3) := by decide +kernel
theorem dX8_full_35 : decode cX8_full 35 = .ok (.aload_n 0, 1) := by decide +kernel
theorem dX8_full_36 : decode cX8_full 36 = .ok (.getfield 16, 3) := by decide +kernel
theorem dX8_full_39 : decode cX8_full 39 = .ok (.invokevirtual 197, 3) := by decide +kernel
theorem dX8_full_42 : decode cX8_full 42 = .ok (.iload_n 1, 1) := by decide +kernel
theorem dX8_full_43 : decode cX8_full 43 = .ok (.if_icmp .lt 5, 3) := by decide +kernel
theorem dX8_full_46 : decode cX8_full 46 = .ok (.iload_n 2, 1) := by decide +kernel
theorem dX8_full_47 : decode cX8_full 47 = .ok (.ireturn, 1) := by decide +kernel
theorem dX8_full_48 : decode cX8_full 48 = .ok (.aload_n 0, 1) := by decide +kernel
theorem dX8_full_49 : decode cX8_full 49 = .ok (.getfield 16, 3) := by decide +kernel
theorem dX8_full_52 : decode cX8_full 52 = .ok (.invokevirtual 194, 3) := by decide +kernel
theorem dX8_full_55 : decode cX8_full 55 = .ok (.iinc 2 1, 3) := by decide +kernel
theorem dX8_full_58 : decode cX8_full 58 = .ok (.goto (-29), 3) := by decide +kernel
theorem dX8_full_61 : decode cX8_full 61 = .ok (.aload_n 0, 1) := by decide +kernel
theorem dX8_full_62 : decode cX8_full 62 = .ok (.iconst 2, 1) := by decide +kernel
theorem dX8_full_63 : decode cX8_full 63 = .ok (.invokevirtual 64, 3) := by decide +kernel
theorem dX8_full_66 : decode cX8_full 66 = .ok (.ireturn, 1) := by decide +kernel
set_option maxRecDepth 20000 in
theorem ggX8_leads_X8_isCell : GoodIn wsX8_leads wsX8_isCell := goodIn_r _ [10, 3, 11, 12, 13, 9, 14, 149, 150, 151, 152, 153, 154, 155, 156, 157, 158, 159, 168, 169, 170, 171, 172, 173, 174, 175, 176, 177, 178, 179, 180, 181, 182, 183, 184, 185, 186] (by decide +kernel) (by decide +kernel)
set_option maxRecDepth 20000 in
theorem gX8_leads_X8_isCell : GoodIn wsX8_leads (wsV RX8 79 RX8 yX8_isCell wsX8_isCell) := goodIn_app (goodIn_of _ (by decide +kernel)) ggX8_leads_X8_isCell
set_option maxRecDepth 20000 in
theorem ggX8_leads_X8_within : GoodIn wsX8_leads wsX8_within := goodIn_r _ [14] (by decide +kernel) (by decide +kernel)
set_option maxRecDepth 20000 in
theorem gX8_leads_X8_within : GoodIn wsX8_leads (va_wsS RX8 60 yX8_within wsX8_within) := goodIn_app (goodIn_of _ (by decide +kernel)) ggX8_leads_X8_within
set_option maxRecDepth 20000 in
theorem ggX8_leads_X8_error : GoodIn wsX8_leads wsX8_error := goodIn_r _ [18, 19, 20, 12, 13, 9, 14, 149, 150, 151, 152, 153, 154, 155, 156, 157, 158, 159] (by decide +kernel) (by decide +kernel)
set_option maxRecDepth 20000 in
theorem gX8_leads_X8_error : GoodIn wsX8_leads (wsV RX8 64 RX8 yX8_error wsX8_error) := goodIn_app (goodIn_of _ (by decide +kernel)) ggX8_leads_X8_error
set_option maxRecDepth 20000 in
theorem ggX8_leads_X2_isFound : GoodIn wsX8_leads wsX2_isFound := goodIn_r _ [25, 26, 27, 28, 29, 30, 31, 32, 33, 34, 9, 35, 36, 37, 38, 39, 40, 41, 42, 24, 43, 44, 45, 46, 47, 48, 49, 50, 51, 52, 53, 54, 55, 56, 57, 58, 59, 60, 61, 62, 63, 64, 65, 66, 67, 68, 69, 70, 71, 72, 73, 74, 75, 76, 77, 78, 79, 80, 81, 82, 83, 84, 85, 13, 14, 86, 87, 88, 89, 90, 91, 92, 93, 94, 95, 96, 97, 98, 99, 100, 101, 102, 103, 104, 105, 106, 107, 108, 109, 110, 111, 112, 113, 114, 115, 116, 117, 118, 119, 120, 121, 122, 123, 124, 125, 126, 127, 128, 129, 130, 131, 132, 133, 134, 135, 136, 137, 138, 139, 140, 141, 142, 143, 144, 145, 146, 147, 148, 160, 161, 162, 163, 164, 165, 166, 167, 168, 169, 170, 171, 172, 173, 174, 175, 176, 177, 178, 179, 180, 181, 182, 183, 184, 185, 186, 187, 188] (by decide +kernel) (by decide +kernel)
set_option maxRecDepth 20000 in
theorem gX8_leads_X2_isFound : GoodIn wsX8_leads (wsV RX8 218 RX2 yX2_isFound wsX2_isFound) := goodIn_app (goodIn_of _ (by decide +kernel)) ggX8_leads_X2_isFound
theorem dX8_leads_0 : decode cX8_leads 0 = .ok (.aload_n 0, 1) := by decide +kernel
theorem dX8_leads_1 : decode cX8_leads 1 = .ok (.iload_n 1, 1) := by decide +kernel
theorem dX8_leads_2 : decode cX8_leads 2 = .ok (.invokevirtual 79, 3) := by decide +kernel
theorem dX8_leads_5 : decode cX8_leads 5 = .ok (.ifCond .eq 32, 3) := by decide +kernel
theorem dX8_leads_8 : decode cX8_leads 8 = .ok (.iload_n 2, 1) := by decide +kernel
theorem dX8_leads_9 : decode cX8_leads 9 = .ok (.iconst 0, 1) := by decide +kernel
theorem dX8_leads_10 : decode cX8_leads 10 = .ok (.ldc 83, 2) := by decide +kernel
theorem dX8_leads_12 : decode cX8_leads 12 = .ok (.invokestatic 60, 3) := by decide +kernel
theorem dX8_leads_15 : decode cX8_leads 15 = .ok (.ifCond .eq 22, 3) := by decide +kernel
theorem dX8_leads_18 : decode cX8_leads 18 = .ok (.iload_n 3, 1) := by decide +kernel
theorem dX8_leads_19 : decode cX8_leads 19 = .ok (.iconst 0, 1) := by decide +kernel
theorem dX8_leads_20 : decode cX8_leads 20 = .ok (.iconst 3, 1) := by decide +kernel
theorem dX8_leads_21 : decode cX8_leads 21 = .ok (.invokestatic 60, 3) := by decide +kernel
theorem dX8_leads_24 : decode cX8_leads 24 = .ok (.ifCond .eq 13, 3) := by decide +kernel
theorem dX8_leads_27 : decode cX8_leads 27 = .ok (.iload 4, 2) := by decide +kernel
theorem dX8_leads_29 : decode cX8_leads 29 = .ok (.iconst (-1), 1) := by decide +kernel
theorem dX8_leads_30 : decode cX8_leads 30 = .ok (.iconst 3, 1) := by decide +kernel
theorem dX8_leads_31 : decode cX8_leads 31 = .ok (.invokestatic 60, 3) := by decide +kernel
theorem dX8_leads_34 : decode cX8_leads 34 = .ok (.ifCond .ne 9, 3) := by decide +kernel
theorem dX8_leads_37 : decode cX8_leads 37 = .ok (.aload_n 0, 1) := by decide +kernel
theorem dX8_leads_38 : decode cX8_leads 38 = .ok (.iconst 1, 1) := by decide +kernel
theorem dX8_leads_39 : decode cX8_leads 39 = .ok (.invokevirtual 64, 3) := by decide +kernel
theorem dX8_leads_42 : decode cX8_leads 42 = .ok (.ireturn, 1) := by decide +kernel
theorem dX8_leads_43 : decode cX8_leads 43 = .ok (.aload_n 0, 1) := by decide +kernel
theorem dX8_leads_44 : decode cX8_leads 44 = .ok (.getfield 32, 3) := by decide +kernel
theorem dX8_leads_47 : decode cX8_leads 47 = .ok (.aload_n 0, 1) := by decide +kernel
theorem dX8_leads_48 : decode cX8_leads 48 = .ok (.getfield 10, 3) := by decide +kernel
theorem dX8_leads_51 : decode cX8_leads 51 = .ok (.iload_n 1, 1) := by decide +kernel
theorem dX8_leads_52 : decode cX8_leads 52 = .ok (.iload_n 2, 1) := by decide +kernel
theorem dX8_leads_53 : decode cX8_leads 53 = .ok (.iload_n 3, 1) := by decide +kernel
theorem dX8_leads_54 : decode cX8_leads 54 = .ok (.invokevirtual 218, 3) := by decide +kernel
theorem dX8_leads_57 : decode cX8_leads 57 = .ok (.ifCond .ne 9, 3) := by decide +kernel
theorem dX8_leads_60 : decode cX8_leads 60 = .ok (.aload_n 0, 1) := by decide +kernel
theorem dX8_leads_61 : decode cX8_leads 61 = .ok (.iconst 2, 1) := by decide +kernel
theorem dX8_leads_62 : decode cX8_leads 62 = .ok (.invokevirtual 64, 3) := by decide +kernel
theorem dX8_leads_65 : decode cX8_leads 65 = .ok (.ireturn, 1) := by decide +kernel
theorem dX8_leads_66 : decode cX8_leads 66 = .ok (.iload 4, 2) := by decide +kernel
theorem dX8_leads_68 : decode cX8_leads 68 = .ok (.ifCond .ge 13, 3) := by decide +kernel
theorem dX8_leads_71 : decode cX8_leads 71 = .ok (.aload_n 0, 1) := by decide +kernel
theorem dX8_leads_72 : decode cX8_leads 72 = .ok (.getfield 32, 3) := by decide +kernel
theorem dX8_leads_75 : decode cX8_leads 75 = .ok (.getfield 222, 3) := by decide +kernel
theorem dX8_leads_78 : decode cX8_leads 78 = .ok (.goto 13, 3) := by decide +kernel
theorem dX8_leads_81 : decode cX8_leads 81 = .ok (.aload_n 0, 1) := by decide +kernel
theorem dX8_leads_82 : decode cX8_leads 82 = .ok (.getfield 32, 3) := by decide +kernel
theorem dX8_leads_85 : decode cX8_leads 85 = .ok (.getfield 225, 3) := by decide +kernel
theorem dX8_leads_88 : decode cX8_leads 88 = .ok (.iload 4, 2) := by decide +kernel
theorem dX8_leads_90 : decode cX8_leads 90 = .ok (.iaload, 1) := by decide +kernel
theorem dX8_leads_91 : decode cX8_leads 91 = .ok (.ireturn, 1) := by decide +kernel
set_option maxRecDepth 20000 in
theorem ggX8_sums_X8_within : GoodIn wsX8_sums wsX8_within := goodIn_r _ [7] (by decide +kernel) (by decide +kernel)
set_option maxRecDepth 20000 in
theorem gX8_sums_X8_within : GoodIn wsX8_sums (va_wsS RX8 60 yX8_within wsX8_within) := goodIn_app (goodIn_of _ (by decide +kernel)) ggX8_sums_X8_within
set_option maxRecDepth 20000 in
theorem ggX8_sums_X8_error : GoodIn wsX8_sums wsX8_error := goodIn_r _ [11, 12, 13, 4, 5, 6, 7, 27, 28, 29, 30, 31, 32, 33, 34, 35, 36, 37] (by decide +kernel) (by decide +kernel)
set_option maxRecDepth 20000 in
theorem gX8_sums_X8_error : GoodIn wsX8_sums (wsV RX8 64 RX8 yX8_error wsX8_error) := goodIn_app (goodIn_of _ (by decide +kernel)) ggX8_sums_X8_error
set_option maxRecDepth 20000 in
theorem ggX8_sums_X0_grainsIn : GoodIn wsX8_sums wsX0_grainsIn := goodIn_r _ [18, 19, 20, 21, 6, 22, 38, 39, 40, 41, 42, 43, 44, 45, 46, 47, 48, 49, 50, 51, 52, 53, 54, 55, 56] (by decide +kernel) (by decide +kernel)
set_option maxRecDepth 20000 in
theorem gX8_sums_X0_grainsIn : GoodIn wsX8_sums (wsV RX8 228 RX0 yX0_grainsIn wsX0_grainsIn) := goodIn_app (goodIn_of _ (by decide +kernel)) ggX8_sums_X0_grainsIn
set_option maxRecDepth 20000 in
theorem ggX8_sums_X8_manyOrLeast : GoodIn wsX8_sums wsX8_manyOrLeast := goodIn_r _ [26, 8, 9, 10, 6, 11, 12, 13, 4, 5, 7, 27, 28, 29, 30, 31, 32, 33, 34, 35, 36, 37] (by decide +kernel) (by decide +kernel)
set_option maxRecDepth 20000 in
theorem gX8_sums_X8_manyOrLeast : GoodIn wsX8_sums (wsV RX8 231 RX8 yX8_manyOrLeast wsX8_manyOrLeast) := goodIn_app (goodIn_of _ (by decide +kernel)) ggX8_sums_X8_manyOrLeast
theorem dX8_sums_0 : decode cX8_sums 0 = .ok (.iload_n 1, 1) := by decide +kernel
theorem dX8_sums_1 : decode cX8_sums 1 = .ok (.iconst 0, 1) := by decide +kernel
theorem dX8_sums_2 : decode cX8_sums 2 = .ok (.ldc 217, 2) := by decide +kernel
theorem dX8_sums_4 : decode cX8_sums 4 = .ok (.invokestatic 60, 3) := by decide +kernel
theorem dX8_sums_7 : decode cX8_sums 7 = .ok (.ifCond .eq 12, 3) := by decide +kernel
theorem dX8_sums_10 : decode cX8_sums 10 = .ok (.iload_n 2, 1) := by decide +kernel
theorem dX8_sums_11 : decode cX8_sums 11 = .ok (.iconst 0, 1) := by decide +kernel
theorem dX8_sums_12 : decode cX8_sums 12 = .ok (.iconst 1, 1) := by decide +kernel
theorem dX8_sums_13 : decode cX8_sums 13 = .ok (.invokestatic 60, 3) := by decide +kernel
theorem dX8_sums_16 : decode cX8_sums 16 = .ok (.ifCond .ne 9, 3) := by decide +kernel
theorem dX8_sums_19 : decode cX8_sums 19 = .ok (.aload_n 0, 1) := by decide +kernel
theorem dX8_sums_20 : decode cX8_sums 20 = .ok (.iconst 1, 1) := by decide +kernel
theorem dX8_sums_21 : decode cX8_sums 21 = .ok (.invokevirtual 64, 3) := by decide +kernel
theorem dX8_sums_24 : decode cX8_sums 24 = .ok (.ireturn, 1) := by decide +kernel
theorem dX8_sums_25 : decode cX8_sums 25 = .ok (.iconst 0, 1) := by decide +kernel
theorem dX8_sums_26 : decode cX8_sums 26 = .ok (.istore_n 3, 1) := by decide +kernel
theorem dX8_sums_27 : decode cX8_sums 27 = .ok (.iconst (-1), 1) := by decide +kernel
theorem dX8_sums_28 : decode cX8_sums 28 = .ok (.istore 4, 2) := by decide +kernel
theorem dX8_sums_30 : decode cX8_sums 30 = .ok (.iconst 1, 1) := by decide +kernel
theorem dX8_sums_31 : decode cX8_sums 31 = .ok (.aload_n 0, 1) := by decide +kernel
theorem dX8_sums_32 : decode cX8_sums 32 = .ok (.getfield 10, 3) := by decide +kernel
theorem dX8_sums_35 : decode cX8_sums 35 = .ok (.getfield 72, 3) := by decide +kernel
theorem dX8_sums_38 : decode cX8_sums 38 = .ok (.ishl, 1) := by decide +kernel
theorem dX8_sums_39 : decode cX8_sums 39 = .ok (.iconst 1, 1) := by decide +kernel
theorem dX8_sums_40 : decode cX8_sums 40 = .ok (.isub, 1) := by decide +kernel
theorem dX8_sums_41 : decode cX8_sums 41 = .ok (.istore 5, 2) := by decide +kernel
theorem dX8_sums_43 : decode cX8_sums 43 = .ok (.iload 5, 2) := by decide +kernel
theorem dX8_sums_45 : decode cX8_sums 45 = .ok (.ifCond .lt 29, 3) := by decide +kernel
theorem dX8_sums_48 : decode cX8_sums 48 = .ok (.aload_n 0, 1) := by decide +kernel
theorem dX8_sums_49 : decode cX8_sums 49 = .ok (.getfield 10, 3) := by decide +kernel
theorem dX8_sums_52 : decode cX8_sums 52 = .ok (.iload 5, 2) := by decide +kernel
theorem dX8_sums_54 : decode cX8_sums 54 = .ok (.invokevirtual 228, 3) := by decide +kernel
theorem dX8_sums_57 : decode cX8_sums 57 = .ok (.iload_n 1, 1) := by decide +kernel
theorem dX8_sums_58 : decode cX8_sums 58 = .ok (.if_icmp .ne 10, 3) := by decide +kernel
theorem dX8_sums_61 : decode cX8_sums 61 = .ok (.iinc 3 1, 3) := by decide +kernel
theorem dX8_sums_64 : decode cX8_sums 64 = .ok (.iload 5, 2) := by decide +kernel
theorem dX8_sums_66 : decode cX8_sums 66 = .ok (.istore 4, 2) := by decide +kernel
theorem dX8_sums_68 : decode cX8_sums 68 = .ok (.iinc 5 (-1), 3) := by decide +kernel
theorem dX8_sums_71 : decode cX8_sums 71 = .ok (.goto (-28), 3) := by decide +kernel
theorem dX8_sums_74 : decode cX8_sums 74 = .ok (.aload_n 0, 1) := by decide +kernel
theorem dX8_sums_75 : decode cX8_sums 75 = .ok (.iload_n 2, 1) := by decide +kernel
theorem dX8_sums_76 : decode cX8_sums 76 = .ok (.iload_n 3, 1) := by decide +kernel
theorem dX8_sums_77 : decode cX8_sums 77 = .ok (.iload 4, 2) := by decide +kernel
theorem dX8_sums_79 : decode cX8_sums 79 = .ok (.invokevirtual 231, 3) := by decide +kernel
theorem dX8_sums_82 : decode cX8_sums 82 = .ok (.ireturn, 1) := by decide +kernel
set_option maxRecDepth 20000 in
theorem ggX8_looked_X8_isSheet : GoodIn wsX8_looked wsX8_isSheet := goodIn_r _ [9, 10, 11, 8, 12] (by decide +kernel) (by decide +kernel)
set_option maxRecDepth 20000 in
theorem gX8_looked_X8_isSheet : GoodIn wsX8_looked (va_wsS RX8 234 yX8_isSheet wsX8_isSheet) := goodIn_app (goodIn_of _ (by decide +kernel)) ggX8_looked_X8_isSheet
set_option maxRecDepth 20000 in
theorem ggX8_looked_X8_within : GoodIn wsX8_looked wsX8_within := goodIn_r _ [12] (by decide +kernel) (by decide +kernel)
set_option maxRecDepth 20000 in
theorem gX8_looked_X8_within : GoodIn wsX8_looked (va_wsS RX8 60 yX8_within wsX8_within) := goodIn_app (goodIn_of _ (by decide +kernel)) ggX8_looked_X8_within
set_option maxRecDepth 20000 in
theorem ggX8_looked_X8_error : GoodIn wsX8_looked wsX8_error := goodIn_r _ [16, 17, 18, 10, 11, 8, 12, 92, 93, 94, 95, 96, 97, 98, 99, 100, 101, 102] (by decide +kernel) (by decide +kernel)
set_option maxRecDepth 20000 in
theorem gX8_looked_X8_error : GoodIn wsX8_looked (wsV RX8 64 RX8 yX8_error wsX8_error) := goodIn_app (goodIn_of _ (by decide +kernel)) ggX8_looked_X8_error
set_option maxRecDepth 20000 in
theorem ggX8_looked_X5_isMissing : GoodIn wsX8_looked wsX5_isMissing := goodIn_r _ [23, 24, 103, 104, 105] (by decide +kernel) (by decide +kernel)
set_option maxRecDepth 20000 in
theorem gX8_looked_X5_isMissing : GoodIn wsX8_looked (wsV RX8 237 RX5 yX5_isMissing wsX5_isMissing) := goodIn_app (goodIn_of _ (by decide +kernel)) ggX8_looked_X5_isMissing
set_option maxRecDepth 20000 in
theorem ggX8_looked_X8_lookAround : GoodIn wsX8_looked wsX8_lookAround := goodIn_r _ [28, 3, 5, 29, 30, 31, 32, 33, 34, 35, 36, 37, 38, 39, 40, 41, 42, 43, 44, 45, 46, 47, 48, 49, 50, 51, 52, 53, 54, 55, 56, 57, 58, 59, 60, 8, 61, 62, 63, 64, 65, 66, 67, 68, 69, 70, 71, 72, 73, 74, 75, 76, 92, 93, 94, 95, 96, 97, 98, 99, 100, 101, 102, 106, 107, 108, 109, 110, 111, 112, 113, 114, 115, 116, 117, 118, 119, 120, 121, 122, 123, 124, 125, 126] (by decide +kernel) (by decide +kernel)
set_option maxRecDepth 20000 in
theorem gX8_looked_X8_lookAround : GoodIn wsX8_looked (wsV RX8 242 RX8 yX8_lookAround wsX8_lookAround) := goodIn_app (goodIn_of _ (by decide +kernel)) ggX8_looked_X8_lookAround
set_option maxRecDepth 20000 in
theorem ggX8_looked_X8_growsAs : GoodIn wsX8_looked wsX8_growsAs := goodIn_r _ [80, 3, 4, 2, 5, 29, 81, 82, 83, 84, 71, 8, 72, 85, 86, 64, 87, 92, 93, 94, 95, 96, 97, 98, 99, 100, 101, 102, 106, 107, 108, 109, 110, 111, 112, 113, 114, 115, 116, 117, 118, 119, 120, 121, 122, 123, 124, 103, 104, 105] (by decide +kernel) (by decide +kernel)
set_option maxRecDepth 20000 in
theorem gX8_looked_X8_growsAs : GoodIn wsX8_looked (wsV RX8 245 RX8 yX8_growsAs wsX8_growsAs) := goodIn_app (goodIn_of _ (by decide +kernel)) ggX8_looked_X8_growsAs
set_option maxRecDepth 20000 in
theorem ggX8_looked_X8_manyOrLeast : GoodIn wsX8_looked wsX8_manyOrLeast := goodIn_r _ [91, 13, 14, 15, 8, 16, 17, 18, 10, 11, 12, 92, 93, 94, 95, 96, 97, 98, 99, 100, 101, 102] (by decide +kernel) (by decide +kernel)
set_option maxRecDepth 20000 in
theorem gX8_looked_X8_manyOrLeast : GoodIn wsX8_looked (wsV RX8 231 RX8 yX8_manyOrLeast wsX8_manyOrLeast) := goodIn_app (goodIn_of _ (by decide +kernel)) ggX8_looked_X8_manyOrLeast
theorem dX8_looked_0 : decode cX8_looked 0 = .ok (.iload_n 1, 1) := by decide +kernel
theorem dX8_looked_1 : decode cX8_looked 1 = .ok (.invokestatic 234, 3) := by decide +kernel
theorem dX8_looked_4 : decode cX8_looked 4 = .ok (.ifCond .eq 12, 3) := by decide +kernel
theorem dX8_looked_7 : decode cX8_looked 7 = .ok (.iload_n 2, 1) := by decide +kernel
theorem dX8_looked_8 : decode cX8_looked 8 = .ok (.iconst 0, 1) := by decide +kernel
theorem dX8_looked_9 : decode cX8_looked 9 = .ok (.iconst 1, 1) := by decide +kernel
theorem dX8_looked_10 : decode cX8_looked 10 = .ok (.invokestatic 60, 3) := by decide +kernel
theorem dX8_looked_13 : decode cX8_looked 13 = .ok (.ifCond .ne 9, 3) := by decide +kernel
theorem dX8_looked_16 : decode cX8_looked 16 = .ok (.aload_n 0, 1) := by decide +kernel
theorem dX8_looked_17 : decode cX8_looked 17 = .ok (.iconst 1, 1) := by decide +kernel
theorem dX8_looked_18 : decode cX8_looked 18 = .ok (.invokevirtual 64, 3) := by decide +kernel
theorem dX8_looked_21 : decode cX8_looked 21 = .ok (.ireturn, 1) := by decide +kernel
theorem dX8_looked_22 : decode cX8_looked 22 = .ok (.aload_n 0, 1) := by decide +kernel
theorem dX8_looked_23 : decode cX8_looked 23 = .ok (.getfield 45, 3) := by decide +kernel
theorem dX8_looked_26 : decode cX8_looked 26 = .ok (.iload_n 1, 1) := by decide +kernel
theorem dX8_looked_27 : decode cX8_looked 27 = .ok (.aaload, 1) := by decide +kernel
theorem dX8_looked_28 : decode cX8_looked 28 = .ok (.invokevirtual 237, 3) := by decide +kernel
theorem dX8_looked_31 : decode cX8_looked 31 = .ok (.ifCond .ne 22, 3) := by decide +kernel
theorem dX8_looked_34 : decode cX8_looked 34 = .ok (.aload_n 0, 1) := by decide +kernel
theorem dX8_looked_35 : decode cX8_looked 35 = .ok (.getfield 45, 3) := by decide +kernel
theorem dX8_looked_38 : decode cX8_looked 38 = .ok (.iload_n 1, 1) := by decide +kernel
theorem dX8_looked_39 : decode cX8_looked 39 = .ok (.aaload, 1) := by decide +kernel
theorem dX8_looked_40 : decode cX8_looked 40 = .ok (.getfield 241, 3) := by decide +kernel
theorem dX8_looked_43 : decode cX8_looked 43 = .ok (.aload_n 0, 1) := by decide +kernel
theorem dX8_looked_44 : decode cX8_looked 44 = .ok (.getfield 10, 3) := by decide +kernel
theorem dX8_looked_47 : decode cX8_looked 47 = .ok (.getfield 72, 3) := by decide +kernel
theorem dX8_looked_50 : decode cX8_looked 50 = .ok (.if_icmp .eq 9, 3) := by decide +kernel
theorem dX8_looked_53 : decode cX8_looked 53 = .ok (.aload_n 0, 1) := by decide +kernel
theorem dX8_looked_54 : decode cX8_looked 54 = .ok (.iconst 2, 1) := by decide +kernel
theorem dX8_looked_55 : decode cX8_looked 55 = .ok (.invokevirtual 64, 3) := by decide +kernel
theorem dX8_looked_58 : decode cX8_looked 58 = .ok (.ireturn, 1) := by decide +kernel
theorem dX8_looked_59 : decode cX8_looked 59 = .ok (.aload_n 0, 1) := by decide +kernel
theorem dX8_looked_60 : decode cX8_looked 60 = .ok (.invokevirtual 242, 3) := by decide +kernel
theorem dX8_looked_63 : decode cX8_looked 63 = .ok (.iconst 0, 1) := by decide +kernel
theorem dX8_looked_64 : decode cX8_looked 64 = .ok (.istore_n 3, 1) := by decide +kernel
theorem dX8_looked_65 : decode cX8_looked 65 = .ok (.iconst (-1), 1) := by decide +kernel
theorem dX8_looked_66 : decode cX8_looked 66 = .ok (.istore 4, 2) := by decide +kernel
theorem dX8_looked_68 : decode cX8_looked 68 = .ok (.iconst 1, 1) := by decide +kernel
theorem dX8_looked_69 : decode cX8_looked 69 = .ok (.aload_n 0, 1) := by decide +kernel
theorem dX8_looked_70 : decode cX8_looked 70 = .ok (.getfield 10, 3) := by decide +kernel
theorem dX8_looked_73 : decode cX8_looked 73 = .ok (.getfield 68, 3) := by decide +kernel
theorem dX8_looked_76 : decode cX8_looked 76 = .ok (.ishl, 1) := by decide +kernel
theorem dX8_looked_77 : decode cX8_looked 77 = .ok (.iconst 1, 1) := by decide +kernel
theorem dX8_looked_78 : decode cX8_looked 78 = .ok (.isub, 1) := by decide +kernel
theorem dX8_looked_79 : decode cX8_looked 79 = .ok (.istore 5, 2) := by decide +kernel
theorem dX8_looked_81 : decode cX8_looked 81 = .ok (.iload 5, 2) := by decide +kernel
theorem dX8_looked_83 : decode cX8_looked 83 = .ok (.ifCond .lt 31, 3) := by decide +kernel
theorem dX8_looked_86 : decode cX8_looked 86 = .ok (.aload_n 0, 1) := by decide +kernel
theorem dX8_looked_87 : decode cX8_looked 87 = .ok (.iload 5, 2) := by decide +kernel
theorem dX8_looked_89 : decode cX8_looked 89 = .ok (.aload_n 0, 1) := by decide +kernel
theorem dX8_looked_90 : decode cX8_looked 90 = .ok (.getfield 45, 3) := by decide +kernel
theorem dX8_looked_93 : decode cX8_looked 93 = .ok (.iload_n 1, 1) := by decide +kernel
theorem dX8_looked_94 : decode cX8_looked 94 = .ok (.aaload, 1) := by decide +kernel
theorem dX8_looked_95 : decode cX8_looked 95 = .ok (.invokevirtual 245, 3) := by decide +kernel
theorem dX8_looked_98 : decode cX8_looked 98 = .ok (.ifCond .eq 10, 3) := by decide +kernel
theorem dX8_looked_101 : decode cX8_looked 101 = .ok (.iinc 3 1, 3) := by decide +kernel
theorem dX8_looked_104 : decode cX8_looked 104 = .ok (.iload 5, 2) := by decide +kernel
theorem dX8_looked_106 : decode cX8_looked 106 = .ok (.istore 4, 2) := by decide +kernel
theorem dX8_looked_108 : decode cX8_looked 108 = .ok (.iinc 5 (-1), 3) := by decide +kernel
theorem dX8_looked_111 : decode cX8_looked 111 = .ok (.goto (-30), 3) := by decide +kernel
theorem dX8_looked_114 : decode cX8_looked 114 = .ok (.aload_n 0, 1) := by decide +kernel
theorem dX8_looked_115 : decode cX8_looked 115 = .ok (.iload_n 2, 1) := by decide +kernel
theorem dX8_looked_116 : decode cX8_looked 116 = .ok (.iload_n 3, 1) := by decide +kernel
theorem dX8_looked_117 : decode cX8_looked 117 = .ok (.iload 4, 2) := by decide +kernel
theorem dX8_looked_119 : decode cX8_looked 119 = .ok (.invokevirtual 231, 3) := by decide +kernel
theorem dX8_looked_122 : decode cX8_looked 122 = .ok (.ireturn, 1) := by decide +kernel
set_option maxRecDepth 20000 in
theorem ggX8_manyOrLeast_X8_error : GoodIn wsX8_manyOrLeast wsX8_error := goodIn_r _ [5, 6, 7, 8, 9, 4, 10, 11, 12, 13, 14, 15, 16, 17, 18, 19, 20, 21] (by decide +kernel) (by decide +kernel)
set_option maxRecDepth 20000 in
theorem gX8_manyOrLeast_X8_error : GoodIn wsX8_manyOrLeast (wsV RX8 64 RX8 yX8_error wsX8_error) := goodIn_app (goodIn_of _ (by decide +kernel)) ggX8_manyOrLeast_X8_error
theorem dX8_manyOrLeast_0 : decode cX8_manyOrLeast 0 = .ok (.iload_n 1, 1) := by decide +kernel
theorem dX8_manyOrLeast_1 : decode cX8_manyOrLeast 1 = .ok (.ifCond .ne 5, 3) := by decide +kernel
theorem dX8_manyOrLeast_4 : decode cX8_manyOrLeast 4 = .ok (.iload_n 2, 1) := by decide +kernel
theorem dX8_manyOrLeast_5 : decode cX8_manyOrLeast 5 = .ok (.ireturn, 1) := by decide +kernel
theorem dX8_manyOrLeast_6 : decode cX8_manyOrLeast 6 = .ok (.iload_n 3, 1) := by decide +kernel
theorem dX8_manyOrLeast_7 : decode cX8_manyOrLeast 7 = .ok (.ifCond .ge 11, 3) := by decide +kernel
theorem dX8_manyOrLeast_10 : decode cX8_manyOrLeast 10 = .ok (.aload_n 0, 1) := by decide +kernel
theorem dX8_manyOrLeast_11 : decode cX8_manyOrLeast 11 = .ok (.iconst 2, 1) := by decide +kernel
theorem dX8_manyOrLeast_12 : decode cX8_manyOrLeast 12 = .ok (.invokevirtual 64, 3) := by decide +kernel
theorem dX8_manyOrLeast_15 : decode cX8_manyOrLeast 15 = .ok (.goto 4, 3) := by decide +kernel
theorem dX8_manyOrLeast_18 : decode cX8_manyOrLeast 18 = .ok (.iload_n 3, 1) := by decide +kernel
theorem dX8_manyOrLeast_19 : decode cX8_manyOrLeast 19 = .ok (.ireturn, 1) := by decide +kernel
set_option maxRecDepth 20000 in
theorem ggX8_growsAs_X8_has : GoodIn wsX8_growsAs wsX8_has := goodIn_r _ [12] (by decide +kernel) (by decide +kernel)
set_option maxRecDepth 20000 in
theorem gX8_growsAs_X8_has : GoodIn wsX8_growsAs (va_wsS RX8 249 yX8_has wsX8_has) := goodIn_app (goodIn_of _ (by decide +kernel)) ggX8_growsAs_X8_has
set_option maxRecDepth 20000 in
theorem ggX8_growsAs_X1_countsOf : GoodIn wsX8_growsAs wsX1_countsOf := goodIn_r _ [16] (by decide +kernel) (by decide +kernel)
set_option maxRecDepth 20000 in
theorem gX8_growsAs_X1_countsOf : GoodIn wsX8_growsAs (va_wsS RX8 136 yX1_countsOf wsX1_countsOf) := goodIn_app (goodIn_of _ (by decide +kernel)) ggX8_growsAs_X1_countsOf
theorem dX8_growsAs_0 : decode cX8_growsAs 0 = .ok (.iconst 0, 1) := by decide +kernel
theorem dX8_growsAs_1 : decode cX8_growsAs 1 = .ok (.istore_n 3, 1) := by decide +kernel
theorem dX8_growsAs_2 : decode cX8_growsAs 2 = .ok (.iload_n 3, 1) := by decide +kernel
theorem dX8_growsAs_3 : decode cX8_growsAs 3 = .ok (.aload_n 0, 1) := by decide +kernel
theorem dX8_growsAs_4 : decode cX8_growsAs 4 = .ok (.getfield 10, 3) := by decide +kernel
theorem dX8_growsAs_7 : decode cX8_growsAs 7 = .ok (.getfield 72, 3) := by decide +kernel
theorem dX8_growsAs_10 : decode cX8_growsAs 10 = .ok (.if_icmp .ge 117, 3) := by decide +kernel
theorem dX8_growsAs_13 : decode cX8_growsAs 13 = .ok (.iload_n 3, 1) := by decide +kernel
theorem dX8_growsAs_14 : decode cX8_growsAs 14 = .ok (.aload_n 2, 1) := by decide +kernel
theorem dX8_growsAs_15 : decode cX8_growsAs 15 = .ok (.getfield 241, 3) := by decide +kernel
theorem dX8_growsAs_18 : decode cX8_growsAs 18 = .ok (.if_icmp .ge 109, 3) := by decide +kernel
theorem dX8_growsAs_21 : decode cX8_growsAs 21 = .ok (.iconst 0, 1) := by decide +kernel
theorem dX8_growsAs_22 : decode cX8_growsAs 22 = .ok (.istore 4, 2) := by decide +kernel
theorem dX8_growsAs_24 : decode cX8_growsAs 24 = .ok (.iconst 0, 1) := by decide +kernel
theorem dX8_growsAs_25 : decode cX8_growsAs 25 = .ok (.istore 5, 2) := by decide +kernel
theorem dX8_growsAs_27 : decode cX8_growsAs 27 = .ok (.iload 5, 2) := by decide +kernel
theorem dX8_growsAs_29 : decode cX8_growsAs 29 = .ok (.aload_n 0, 1) := by decide +kernel
theorem dX8_growsAs_30 : decode cX8_growsAs 30 = .ok (.getfield 10, 3) := by decide +kernel
theorem dX8_growsAs_33 : decode cX8_growsAs 33 = .ok (.getfield 68, 3) := by decide +kernel
theorem dX8_growsAs_36 : decode cX8_growsAs 36 = .ok (.if_icmp .ge 70, 3) := by decide +kernel
theorem dX8_growsAs_39 : decode cX8_growsAs 39 = .ok (.iload 5, 2) := by decide +kernel
theorem dX8_growsAs_41 : decode cX8_growsAs 41 = .ok (.aload_n 0, 1) := by decide +kernel
theorem dX8_growsAs_42 : decode cX8_growsAs 42 = .ok (.getfield 54, 3) := by decide +kernel
theorem dX8_growsAs_45 : decode cX8_growsAs 45 = .ok (.arraylength, 1) := by decide +kernel
theorem dX8_growsAs_46 : decode cX8_growsAs 46 = .ok (.if_icmp .ge 60, 3) := by decide +kernel
theorem dX8_growsAs_49 : decode cX8_growsAs 49 = .ok (.iload_n 1, 1) := by decide +kernel
theorem dX8_growsAs_50 : decode cX8_growsAs 50 = .ok (.iload 5, 2) := by decide +kernel
theorem dX8_growsAs_52 : decode cX8_growsAs 52 = .ok (.invokestatic 249, 3) := by decide +kernel
theorem dX8_growsAs_55 : decode cX8_growsAs 55 = .ok (.ifCond .eq 45, 3) := by decide +kernel
theorem dX8_growsAs_58 : decode cX8_growsAs 58 = .ok (.aload_n 0, 1) := by decide +kernel
theorem dX8_growsAs_59 : decode cX8_growsAs 59 = .ok (.getfield 54, 3) := by decide +kernel
theorem dX8_growsAs_62 : decode cX8_growsAs 62 = .ok (.iload 5, 2) := by decide +kernel
theorem dX8_growsAs_64 : decode cX8_growsAs 64 = .ok (.iaload, 1) := by decide +kernel
theorem dX8_growsAs_65 : decode cX8_growsAs 65 = .ok (.iload_n 3, 1) := by decide +kernel
theorem dX8_growsAs_66 : decode cX8_growsAs 66 = .ok (.invokestatic 249, 3) := by decide +kernel
theorem dX8_growsAs_69 : decode cX8_growsAs 69 = .ok (.ifCond .eq 31, 3) := by decide +kernel
theorem dX8_growsAs_72 : decode cX8_growsAs 72 = .ok (.iload 4, 2) := by decide +kernel
theorem dX8_growsAs_74 : decode cX8_growsAs 74 = .ok (.aload_n 0, 1) := by decide +kernel
theorem dX8_growsAs_75 : decode cX8_growsAs 75 = .ok (.getfield 10, 3) := by decide +kernel
theorem dX8_growsAs_78 : decode cX8_growsAs 78 = .ok (.getfield 118, 3) := by decide +kernel
theorem dX8_growsAs_81 : decode cX8_growsAs 81 = .ok (.iload 5, 2) := by decide +kernel
theorem dX8_growsAs_83 : decode cX8_growsAs 83 = .ok (.iaload, 1) := by decide +kernel
theorem dX8_growsAs_84 : decode cX8_growsAs 84 = .ok (.aload_n 0, 1) := by decide +kernel
theorem dX8_growsAs_85 : decode cX8_growsAs 85 = .ok (.getfield 10, 3) := by decide +kernel
theorem dX8_growsAs_88 : decode cX8_growsAs 88 = .ok (.getfield 121, 3) := by decide +kernel
theorem dX8_growsAs_91 : decode cX8_growsAs 91 = .ok (.iload 5, 2) := by decide +kernel
theorem dX8_growsAs_93 : decode cX8_growsAs 93 = .ok (.iaload, 1) := by decide +kernel
theorem dX8_growsAs_94 : decode cX8_growsAs 94 = .ok (.invokestatic 136, 3) := by decide +kernel
theorem dX8_growsAs_97 : decode cX8_growsAs 97 = .ok (.iadd, 1) := by decide +kernel
theorem dX8_growsAs_98 : decode cX8_growsAs 98 = .ok (.istore 4, 2) := by decide +kernel
theorem dX8_growsAs_100 : decode cX8_growsAs 100 = .ok (.iinc 5 1, 3) := by decide +kernel
theorem dX8_growsAs_103 : decode cX8_growsAs 103 = .ok (.goto (-76), 3) := by decide +kernel
theorem dX8_growsAs_106 : decode cX8_growsAs 106 = .ok (.iload 4, 2) := by decide +kernel
theorem dX8_growsAs_108 : decode cX8_growsAs 108 = .ok (.iconst 2, 1) := by decide +kernel
theorem dX8_growsAs_109 : decode cX8_growsAs 109 = .ok (.idiv, 1) := by decide +kernel
theorem dX8_growsAs_110 : decode cX8_growsAs 110 = .ok (.aload_n 2, 1) := by decide +kernel
theorem dX8_growsAs_111 : decode cX8_growsAs 111 = .ok (.getfield 252, 3) := by decide +kernel
theorem dX8_growsAs_114 : decode cX8_growsAs 114 = .ok (.iload_n 3, 1) := by decide +kernel
theorem dX8_growsAs_115 : decode cX8_growsAs 115 = .ok (.iaload, 1) := by decide +kernel
theorem dX8_growsAs_116 : decode cX8_growsAs 116 = .ok (.if_icmp .eq 5, 3) := by decide +kernel
theorem dX8_growsAs_119 : decode cX8_growsAs 119 = .ok (.iconst 0, 1) := by decide +kernel
theorem dX8_growsAs_120 : decode cX8_growsAs 120 = .ok (.ireturn, 1) := by decide +kernel
theorem dX8_growsAs_121 : decode cX8_growsAs 121 = .ok (.iinc 3 1, 3) := by decide +kernel
theorem dX8_growsAs_124 : decode cX8_growsAs 124 = .ok (.goto (-122), 3) := by decide +kernel
theorem dX8_growsAs_127 : decode cX8_growsAs 127 = .ok (.iconst 1, 1) := by decide +kernel
theorem dX8_growsAs_128 : decode cX8_growsAs 128 = .ok (.ireturn, 1) := by decide +kernel
set_option maxRecDepth 20000 in
theorem ggX8_lookAround_X0_seenBy : GoodIn wsX8_lookAround wsX0_seenBy := goodIn_r _ [8, 9, 10, 11, 12, 13, 14, 15, 7, 16, 17, 18, 19, 20, 21, 22, 23, 24, 25, 26, 27, 28, 29, 30, 31, 32, 33, 34, 35, 36, 37, 38, 39, 40, 41, 42, 43, 44, 45, 46, 47, 48, 49, 50, 51, 63, 64, 65, 66, 67, 68, 69, 70, 71, 72, 73, 74, 75, 76, 77, 78, 79, 80, 81, 82, 83] (by decide +kernel) (by decide +kernel)
set_option maxRecDepth 20000 in
theorem gX8_lookAround_X0_seenBy : GoodIn wsX8_lookAround (wsV RX8 145 RX0 yX0_seenBy wsX0_seenBy) := goodIn_app (goodIn_of _ (by decide +kernel)) ggX8_lookAround_X0_seenBy
theorem dX8_lookAround_0 : decode cX8_lookAround 0 = .ok (.iconst 0, 1) := by decide +kernel
theorem dX8_lookAround_1 : decode cX8_lookAround 1 = .ok (.istore_n 1, 1) := by decide +kernel
theorem dX8_lookAround_2 : decode cX8_lookAround 2 = .ok (.iload_n 1, 1) := by decide +kernel
theorem dX8_lookAround_3 : decode cX8_lookAround 3 = .ok (.aload_n 0, 1) := by decide +kernel
theorem dX8_lookAround_4 : decode cX8_lookAround 4 = .ok (.getfield 10, 3) := by decide +kernel
theorem dX8_lookAround_7 : decode cX8_lookAround 7 = .ok (.getfield 68, 3) := by decide +kernel
theorem dX8_lookAround_10 : decode cX8_lookAround 10 = .ok (.if_icmp .ge 32, 3) := by decide +kernel
theorem dX8_lookAround_13 : decode cX8_lookAround 13 = .ok (.iload_n 1, 1) := by decide +kernel
theorem dX8_lookAround_14 : decode cX8_lookAround 14 = .ok (.aload_n 0, 1) := by decide +kernel
theorem dX8_lookAround_15 : decode cX8_lookAround 15 = .ok (.getfield 54, 3) := by decide +kernel
theorem dX8_lookAround_18 : decode cX8_lookAround 18 = .ok (.arraylength, 1) := by decide +kernel
theorem dX8_lookAround_19 : decode cX8_lookAround 19 = .ok (.if_icmp .ge 23, 3) := by decide +kernel
theorem dX8_lookAround_22 : decode cX8_lookAround 22 = .ok (.aload_n 0, 1) := by decide +kernel
theorem dX8_lookAround_23 : decode cX8_lookAround 23 = .ok (.getfield 54, 3) := by decide +kernel
theorem dX8_lookAround_26 : decode cX8_lookAround 26 = .ok (.iload_n 1, 1) := by decide +kernel
theorem dX8_lookAround_27 : decode cX8_lookAround 27 = .ok (.aload_n 0, 1) := by decide +kernel
theorem dX8_lookAround_28 : decode cX8_lookAround 28 = .ok (.getfield 10, 3) := by decide +kernel
theorem dX8_lookAround_31 : decode cX8_lookAround 31 = .ok (.iload_n 1, 1) := by decide +kernel
theorem dX8_lookAround_32 : decode cX8_lookAround 32 = .ok (.invokevirtual 145, 3) := by decide +kernel
theorem dX8_lookAround_35 : decode cX8_lookAround 35 = .ok (.iastore, 1) := by decide +kernel
theorem dX8_lookAround_36 : decode cX8_lookAround 36 = .ok (.iinc 1 1, 3) := by decide +kernel
theorem dX8_lookAround_39 : decode cX8_lookAround 39 = .ok (.goto (-37), 3) := by decide +kernel
theorem dX8_lookAround_42 : decode cX8_lookAround 42 = .ok (.return_, 1) := by decide +kernel
set_option maxRecDepth 20000 in
theorem ggX8_watch_X8_lookAround : GoodIn wsX8_watch wsX8_lookAround := goodIn_r _ [8, 1, 3, 9, 10, 11, 12, 13, 14, 15, 16, 17, 18, 19, 20, 21, 22, 23, 24, 25, 26, 27, 28, 29, 30, 31, 32, 33, 34, 35, 36, 37, 38, 39, 40, 7, 41, 42, 43, 44, 45, 46, 47, 48, 49, 50, 51, 52, 53, 54, 55, 56, 81, 82, 83, 84, 85, 86, 87, 88, 89, 90, 91, 92, 93, 94, 95, 96, 97, 98, 99, 100, 101, 102, 103, 104, 105, 106, 107, 108, 109, 110, 111, 112] (by decide +kernel) (by decide +kernel)
set_option maxRecDepth 20000 in
theorem gX8_watch_X8_lookAround : GoodIn wsX8_watch (wsV RX8 242 RX8 yX8_lookAround wsX8_lookAround) := goodIn_app (goodIn_of _ (by decide +kernel)) ggX8_watch_X8_lookAround
set_option maxRecDepth 20000 in
theorem ggX8_watch_X8_isFewer : GoodIn wsX8_watch wsX8_isFewer := goodIn_r _ [59, 60, 61, 62, 63, 64, 65, 66] (by decide +kernel) (by decide +kernel)
set_option maxRecDepth 20000 in
theorem gX8_watch_X8_isFewer : GoodIn wsX8_watch (va_wsS RX8 255 yX8_isFewer wsX8_isFewer) := goodIn_app (goodIn_of _ (by decide +kernel)) ggX8_watch_X8_isFewer
set_option maxRecDepth 20000 in
theorem ggX8_watch_X8_seenTogether : GoodIn wsX8_watch wsX8_seenTogether := goodIn_r _ [70, 1, 3, 9, 71, 51, 7, 52, 81, 82, 83, 84, 85, 86, 87, 88, 89, 90, 91, 92, 93, 94, 95, 96, 97, 98, 99, 100, 101, 102, 103, 104, 105, 106, 107, 108, 109, 110] (by decide +kernel) (by decide +kernel)
set_option maxRecDepth 20000 in
theorem gX8_watch_X8_seenTogether : GoodIn wsX8_watch (wsV RX8 258 RX8 yX8_seenTogether wsX8_seenTogether) := goodIn_app (goodIn_of _ (by decide +kernel)) ggX8_watch_X8_seenTogether
set_option maxRecDepth 20000 in
theorem ggX8_watch_X8_error : GoodIn wsX8_watch wsX8_error := goodIn_r _ [75, 76, 77, 78, 79, 7, 80, 81, 82, 83, 84, 85, 86, 87, 88, 89, 90, 91] (by decide +kernel) (by decide +kernel)
set_option maxRecDepth 20000 in
theorem gX8_watch_X8_error : GoodIn wsX8_watch (wsV RX8 64 RX8 yX8_error wsX8_error) := goodIn_app (goodIn_of _ (by decide +kernel)) ggX8_watch_X8_error
theorem dX8_watch_0 : decode cX8_watch 0 = .ok (.aload_n 0, 1) := by decide +kernel
theorem dX8_watch_1 : decode cX8_watch 1 = .ok (.invokevirtual 242, 3) := by decide +kernel
theorem dX8_watch_4 : decode cX8_watch 4 = .ok (.iconst 1, 1) := by decide +kernel
theorem dX8_watch_5 : decode cX8_watch 5 = .ok (.aload_n 0, 1) := by decide +kernel
theorem dX8_watch_6 : decode cX8_watch 6 = .ok (.getfield 10, 3) := by decide +kernel
theorem dX8_watch_9 : decode cX8_watch 9 = .ok (.getfield 72, 3) := by decide +kernel
theorem dX8_watch_12 : decode cX8_watch 12 = .ok (.ishl, 1) := by decide +kernel
theorem dX8_watch_13 : decode cX8_watch 13 = .ok (.iconst 1, 1) := by decide +kernel
theorem dX8_watch_14 : decode cX8_watch 14 = .ok (.isub, 1) := by decide +kernel
theorem dX8_watch_15 : decode cX8_watch 15 = .ok (.istore_n 1, 1) := by decide +kernel
theorem dX8_watch_16 : decode cX8_watch 16 = .ok (.iconst (-1), 1) := by decide +kernel
theorem dX8_watch_17 : decode cX8_watch 17 = .ok (.istore_n 2, 1) := by decide +kernel
theorem dX8_watch_18 : decode cX8_watch 18 = .ok (.iconst 0, 1) := by decide +kernel
theorem dX8_watch_19 : decode cX8_watch 19 = .ok (.istore_n 3, 1) := by decide +kernel
theorem dX8_watch_20 : decode cX8_watch 20 = .ok (.iload_n 3, 1) := by decide +kernel
theorem dX8_watch_21 : decode cX8_watch 21 = .ok (.iconst 1, 1) := by decide +kernel
theorem dX8_watch_22 : decode cX8_watch 22 = .ok (.aload_n 0, 1) := by decide +kernel
theorem dX8_watch_23 : decode cX8_watch 23 = .ok (.getfield 10, 3) := by decide +kernel
theorem dX8_watch_26 : decode cX8_watch 26 = .ok (.getfield 68, 3) := by decide +kernel
theorem dX8_watch_29 : decode cX8_watch 29 = .ok (.ishl, 1) := by decide +kernel
theorem dX8_watch_30 : decode cX8_watch 30 = .ok (.if_icmp .ge 28, 3) := by decide +kernel
theorem dX8_watch_33 : decode cX8_watch 33 = .ok (.iload_n 3, 1) := by decide +kernel
theorem dX8_watch_34 : decode cX8_watch 34 = .ok (.iload_n 2, 1) := by decide +kernel
theorem dX8_watch_35 : decode cX8_watch 35 = .ok (.invokestatic 255, 3) := by decide +kernel
theorem dX8_watch_38 : decode cX8_watch 38 = .ok (.ifCond .eq 14, 3) := by decide +kernel
theorem dX8_watch_41 : decode cX8_watch 41 = .ok (.aload_n 0, 1) := by decide +kernel
theorem dX8_watch_42 : decode cX8_watch 42 = .ok (.iload_n 3, 1) := by decide +kernel
theorem dX8_watch_43 : decode cX8_watch 43 = .ok (.invokevirtual 258, 3) := by decide +kernel
theorem dX8_watch_46 : decode cX8_watch 46 = .ok (.iload_n 1, 1) := by decide +kernel
theorem dX8_watch_47 : decode cX8_watch 47 = .ok (.if_icmp .ne 5, 3) := by decide +kernel
theorem dX8_watch_50 : decode cX8_watch 50 = .ok (.iload_n 3, 1) := by decide +kernel
theorem dX8_watch_51 : decode cX8_watch 51 = .ok (.istore_n 2, 1) := by decide +kernel
theorem dX8_watch_52 : decode cX8_watch 52 = .ok (.iinc 3 1, 3) := by decide +kernel
theorem dX8_watch_55 : decode cX8_watch 55 = .ok (.goto (-35), 3) := by decide +kernel
theorem dX8_watch_58 : decode cX8_watch 58 = .ok (.iload_n 2, 1) := by decide +kernel
theorem dX8_watch_59 : decode cX8_watch 59 = .ok (.ifCond .ge 11, 3) := by decide +kernel
theorem dX8_watch_62 : decode cX8_watch 62 = .ok (.aload_n 0, 1) := by decide +kernel
theorem dX8_watch_63 : decode cX8_watch 63 = .ok (.iconst 2, 1) := by decide +kernel
theorem dX8_watch_64 : decode cX8_watch 64 = .ok (.invokevirtual 64, 3) := by decide +kernel
theorem dX8_watch_67 : decode cX8_watch 67 = .ok (.goto 4, 3) := by decide +kernel
theorem dX8_watch_70 : decode cX8_watch 70 = .ok (.iload_n 2, 1) := by decide +kernel
theorem dX8_watch_71 : decode cX8_watch 71 = .ok (.ireturn, 1) := by decide +kernel
set_option maxRecDepth 20000 in
theorem ggX8_seenTogether_X8_has : GoodIn wsX8_seenTogether wsX8_has := goodIn_r _ [7] (by decide +kernel) (by decide +kernel)
set_option maxRecDepth 20000 in
theorem gX8_seenTogether_X8_has : GoodIn wsX8_seenTogether (va_wsS RX8 249 yX8_has wsX8_has) := goodIn_app (goodIn_of _ (by decide +kernel)) ggX8_seenTogether_X8_has
theorem dX8_seenTogether_0 : decode cX8_seenTogether 0 = .ok (.iconst 0, 1) := by decide +kernel
theorem dX8_seenTogether_1 : decode cX8_seenTogether 1 = .ok (.istore_n 2, 1) := by decide +kernel
theorem dX8_seenTogether_2 : decode cX8_seenTogether 2 = .ok (.iconst 0, 1) := by decide +kernel
theorem dX8_seenTogether_3 : decode cX8_seenTogether 3 = .ok (.istore_n 3, 1) := by decide +kernel
theorem dX8_seenTogether_4 : decode cX8_seenTogether 4 = .ok (.iload_n 3, 1) := by decide +kernel
theorem dX8_seenTogether_5 : decode cX8_seenTogether 5 = .ok (.aload_n 0, 1) := by decide +kernel
theorem dX8_seenTogether_6 : decode cX8_seenTogether 6 = .ok (.getfield 10, 3) := by decide +kernel
theorem dX8_seenTogether_9 : decode cX8_seenTogether 9 = .ok (.getfield 68, 3) := by decide +kernel
theorem dX8_seenTogether_12 : decode cX8_seenTogether 12 = .ok (.if_icmp .ge 35, 3) := by decide +kernel
theorem dX8_seenTogether_15 : decode cX8_seenTogether 15 = .ok (.iload_n 3, 1) := by decide +kernel
theorem dX8_seenTogether_16 : decode cX8_seenTogether 16 = .ok (.aload_n 0, 1) := by decide +kernel
theorem dX8_seenTogether_17 : decode cX8_seenTogether 17 = .ok (.getfield 54, 3) := by decide +kernel
theorem dX8_seenTogether_20 : decode cX8_seenTogether 20 = .ok (.arraylength, 1) := by decide +kernel
theorem dX8_seenTogether_21 : decode cX8_seenTogether 21 = .ok (.if_icmp .ge 26, 3) := by decide +kernel
theorem dX8_seenTogether_24 : decode cX8_seenTogether 24 = .ok (.iload_n 1, 1) := by decide +kernel
theorem dX8_seenTogether_25 : decode cX8_seenTogether 25 = .ok (.iload_n 3, 1) := by decide +kernel
theorem dX8_seenTogether_26 : decode cX8_seenTogether 26 = .ok (.invokestatic 249, 3) := by decide +kernel
theorem dX8_seenTogether_29 : decode cX8_seenTogether 29 = .ok (.ifCond .eq 12, 3) := by decide +kernel
theorem dX8_seenTogether_32 : decode cX8_seenTogether 32 = .ok (.iload_n 2, 1) := by decide +kernel
theorem dX8_seenTogether_33 : decode cX8_seenTogether 33 = .ok (.aload_n 0, 1) := by decide +kernel
theorem dX8_seenTogether_34 : decode cX8_seenTogether 34 = .ok (.getfield 54, 3) := by decide +kernel
theorem dX8_seenTogether_37 : decode cX8_seenTogether 37 = .ok (.iload_n 3, 1) := by decide +kernel
theorem dX8_seenTogether_38 : decode cX8_seenTogether 38 = .ok (.iaload, 1) := by decide +kernel
theorem dX8_seenTogether_39 : decode cX8_seenTogether 39 = .ok (.ior, 1) := by decide +kernel
theorem dX8_seenTogether_40 : decode cX8_seenTogether 40 = .ok (.istore_n 2, 1) := by decide +kernel
theorem dX8_seenTogether_41 : decode cX8_seenTogether 41 = .ok (.iinc 3 1, 3) := by decide +kernel
theorem dX8_seenTogether_44 : decode cX8_seenTogether 44 = .ok (.goto (-40), 3) := by decide +kernel
theorem dX8_seenTogether_47 : decode cX8_seenTogether 47 = .ok (.iload_n 2, 1) := by decide +kernel
theorem dX8_seenTogether_48 : decode cX8_seenTogether 48 = .ok (.ireturn, 1) := by decide +kernel
set_option maxRecDepth 20000 in
theorem ggX8_hide_X8_isCell : GoodIn wsX8_hide wsX8_isCell := goodIn_r _ [10, 1, 3, 11, 12, 9, 13, 81, 82, 83, 84, 85, 86, 87, 88, 89, 90, 91, 92, 93, 94, 95, 96, 97, 98, 99, 100, 101, 102, 103, 104, 105, 106, 107, 108, 109, 110] (by decide +kernel) (by decide +kernel)
set_option maxRecDepth 20000 in
theorem gX8_hide_X8_isCell : GoodIn wsX8_hide (wsV RX8 79 RX8 yX8_isCell wsX8_isCell) := goodIn_app (goodIn_of _ (by decide +kernel)) ggX8_hide_X8_isCell
set_option maxRecDepth 20000 in
theorem ggX8_hide_X8_error : GoodIn wsX8_hide wsX8_error := goodIn_r _ [17, 18, 19, 11, 12, 9, 13, 81, 82, 83, 84, 85, 86, 87, 88, 89, 90, 91] (by decide +kernel) (by decide +kernel)
set_option maxRecDepth 20000 in
theorem gX8_hide_X8_error : GoodIn wsX8_hide (wsV RX8 64 RX8 yX8_error wsX8_error) := goodIn_app (goodIn_of _ (by decide +kernel)) ggX8_hide_X8_error
set_option maxRecDepth 20000 in
theorem ggX8_hide_X8_measureReaches : GoodIn wsX8_hide wsX8_measureReaches := goodIn_r _ [23, 1, 24, 4, 25, 26, 27, 28, 29, 30, 31, 32, 33, 34, 35, 36, 37, 38, 39, 40, 41, 42, 43, 44, 45, 46, 47, 48, 9, 49, 50, 51, 52, 53, 81, 82, 83, 84, 85, 86, 87, 88, 89, 90, 91, 92, 93, 94, 95, 96, 97, 98, 99, 100, 101, 102, 103, 104, 105, 106, 107, 108, 109, 110, 111, 112] (by decide +kernel) (by decide +kernel)
set_option maxRecDepth 20000 in
theorem gX8_hide_X8_measureReaches : GoodIn wsX8_hide (wsV RX8 261 RX8 yX8_measureReaches wsX8_measureReaches) := goodIn_app (goodIn_of _ (by decide +kernel)) ggX8_hide_X8_measureReaches
set_option maxRecDepth 20000 in
theorem ggX8_hide_X8_isFewer : GoodIn wsX8_hide wsX8_isFewer := goodIn_r _ [56, 57, 58, 59, 60, 61, 62, 63] (by decide +kernel) (by decide +kernel)
set_option maxRecDepth 20000 in
theorem gX8_hide_X8_isFewer : GoodIn wsX8_hide (va_wsS RX8 255 yX8_isFewer wsX8_isFewer) := goodIn_app (goodIn_of _ (by decide +kernel)) ggX8_hide_X8_isFewer
set_option maxRecDepth 20000 in
theorem ggX8_hide_X0_isSeen : GoodIn wsX8_hide wsX0_isSeen := goodIn_r _ [67, 68, 69, 70, 71, 72, 29, 73, 74, 31, 75, 9, 76, 77, 78, 79, 80, 92, 93, 94, 95, 96, 97, 98, 99, 100, 101, 102, 103, 104, 105, 106, 107, 108, 109, 110] (by decide +kernel) (by decide +kernel)
set_option maxRecDepth 20000 in
theorem gX8_hide_X0_isSeen : GoodIn wsX8_hide (wsV RX8 264 RX0 yX0_isSeen wsX0_isSeen) := goodIn_app (goodIn_of _ (by decide +kernel)) ggX8_hide_X0_isSeen
theorem dX8_hide_0 : decode cX8_hide 0 = .ok (.aload_n 0, 1) := by decide +kernel
theorem dX8_hide_1 : decode cX8_hide 1 = .ok (.iload_n 1, 1) := by decide +kernel
theorem dX8_hide_2 : decode cX8_hide 2 = .ok (.invokevirtual 79, 3) := by decide +kernel
theorem dX8_hide_5 : decode cX8_hide 5 = .ok (.ifCond .ne 9, 3) := by decide +kernel
theorem dX8_hide_8 : decode cX8_hide 8 = .ok (.aload_n 0, 1) := by decide +kernel
theorem dX8_hide_9 : decode cX8_hide 9 = .ok (.iconst 1, 1) := by decide +kernel
theorem dX8_hide_10 : decode cX8_hide 10 = .ok (.invokevirtual 64, 3) := by decide +kernel
theorem dX8_hide_13 : decode cX8_hide 13 = .ok (.ireturn, 1) := by decide +kernel
theorem dX8_hide_14 : decode cX8_hide 14 = .ok (.aload_n 0, 1) := by decide +kernel
theorem dX8_hide_15 : decode cX8_hide 15 = .ok (.aload_n 0, 1) := by decide +kernel
theorem dX8_hide_16 : decode cX8_hide 16 = .ok (.getfield 10, 3) := by decide +kernel
theorem dX8_hide_19 : decode cX8_hide 19 = .ok (.getfield 105, 3) := by decide +kernel
theorem dX8_hide_22 : decode cX8_hide 22 = .ok (.invokevirtual 261, 3) := by decide +kernel
theorem dX8_hide_25 : decode cX8_hide 25 = .ok (.iconst (-1), 1) := by decide +kernel
theorem dX8_hide_26 : decode cX8_hide 26 = .ok (.istore_n 2, 1) := by decide +kernel
theorem dX8_hide_27 : decode cX8_hide 27 = .ok (.iconst 0, 1) := by decide +kernel
theorem dX8_hide_28 : decode cX8_hide 28 = .ok (.istore_n 3, 1) := by decide +kernel
theorem dX8_hide_29 : decode cX8_hide 29 = .ok (.iload_n 3, 1) := by decide +kernel
theorem dX8_hide_30 : decode cX8_hide 30 = .ok (.iconst 1, 1) := by decide +kernel
theorem dX8_hide_31 : decode cX8_hide 31 = .ok (.aload_n 0, 1) := by decide +kernel
theorem dX8_hide_32 : decode cX8_hide 32 = .ok (.getfield 10, 3) := by decide +kernel
theorem dX8_hide_35 : decode cX8_hide 35 = .ok (.getfield 72, 3) := by decide +kernel
theorem dX8_hide_38 : decode cX8_hide 38 = .ok (.iconst 1, 1) := by decide +kernel
theorem dX8_hide_39 : decode cX8_hide 39 = .ok (.isub, 1) := by decide +kernel
theorem dX8_hide_40 : decode cX8_hide 40 = .ok (.ishl, 1) := by decide +kernel
theorem dX8_hide_41 : decode cX8_hide 41 = .ok (.if_icmp .ge 43, 3) := by decide +kernel
theorem dX8_hide_44 : decode cX8_hide 44 = .ok (.iload_n 3, 1) := by decide +kernel
theorem dX8_hide_45 : decode cX8_hide 45 = .ok (.iload_n 2, 1) := by decide +kernel
theorem dX8_hide_46 : decode cX8_hide 46 = .ok (.invokestatic 255, 3) := by decide +kernel
theorem dX8_hide_49 : decode cX8_hide 49 = .ok (.ifCond .eq 29, 3) := by decide +kernel
theorem dX8_hide_52 : decode cX8_hide 52 = .ok (.aload_n 0, 1) := by decide +kernel
theorem dX8_hide_53 : decode cX8_hide 53 = .ok (.getfield 10, 3) := by decide +kernel
theorem dX8_hide_56 : decode cX8_hide 56 = .ok (.iload_n 1, 1) := by decide +kernel
theorem dX8_hide_57 : decode cX8_hide 57 = .ok (.aload_n 0, 1) := by decide +kernel
theorem dX8_hide_58 : decode cX8_hide 58 = .ok (.getfield 50, 3) := by decide +kernel
theorem dX8_hide_61 : decode cX8_hide 61 = .ok (.aload_n 0, 1) := by decide +kernel
theorem dX8_hide_62 : decode cX8_hide 62 = .ok (.getfield 10, 3) := by decide +kernel
theorem dX8_hide_65 : decode cX8_hide 65 = .ok (.getfield 99, 3) := by decide +kernel
theorem dX8_hide_68 : decode cX8_hide 68 = .ok (.iload_n 3, 1) := by decide +kernel
theorem dX8_hide_69 : decode cX8_hide 69 = .ok (.ior, 1) := by decide +kernel
theorem dX8_hide_70 : decode cX8_hide 70 = .ok (.invokevirtual 264, 3) := by decide +kernel
theorem dX8_hide_73 : decode cX8_hide 73 = .ok (.ifCond .ne 5, 3) := by decide +kernel
theorem dX8_hide_76 : decode cX8_hide 76 = .ok (.iload_n 3, 1) := by decide +kernel
theorem dX8_hide_77 : decode cX8_hide 77 = .ok (.istore_n 2, 1) := by decide +kernel
theorem dX8_hide_78 : decode cX8_hide 78 = .ok (.iinc 3 1, 3) := by decide +kernel
theorem dX8_hide_81 : decode cX8_hide 81 = .ok (.goto (-52), 3) := by decide +kernel
theorem dX8_hide_84 : decode cX8_hide 84 = .ok (.iload_n 2, 1) := by decide +kernel
theorem dX8_hide_85 : decode cX8_hide 85 = .ok (.ifCond .ge 11, 3) := by decide +kernel
theorem dX8_hide_88 : decode cX8_hide 88 = .ok (.aload_n 0, 1) := by decide +kernel
theorem dX8_hide_89 : decode cX8_hide 89 = .ok (.iconst 2, 1) := by decide +kernel
theorem dX8_hide_90 : decode cX8_hide 90 = .ok (.invokevirtual 64, 3) := by decide +kernel
theorem dX8_hide_93 : decode cX8_hide 93 = .ok (.goto 4, 3) := by decide +kernel
theorem dX8_hide_96 : decode cX8_hide 96 = .ok (.iload_n 2, 1) := by decide +kernel
theorem dX8_hide_97 : decode cX8_hide 97 = .ok (.ireturn, 1) := by decide +kernel
set_option maxRecDepth 20000 in
theorem ggX8_isFewer_J6_bitCount_0f7a4 : GoodIn wsX8_isFewer wsJ6_bitCount_0f7a4 := goodIn_r _ [4, 5, 6, 7] (by decide +kernel) (by decide +kernel)
set_option maxRecDepth 20000 in
theorem gX8_isFewer_J6_bitCount_0f7a4 : GoodIn wsX8_isFewer (va_wsS RX8 268 yJ6_bitCount_0f7a4 wsJ6_bitCount_0f7a4) := goodIn_app (goodIn_of _ (by decide +kernel)) ggX8_isFewer_J6_bitCount_0f7a4
theorem dX8_isFewer_0 : decode cX8_isFewer 0 = .ok (.iload_n 1, 1) := by decide +kernel
theorem dX8_isFewer_1 : decode cX8_isFewer 1 = .ok (.ifCond .lt 14, 3) := by decide +kernel
theorem dX8_isFewer_4 : decode cX8_isFewer 4 = .ok (.iload_n 0, 1) := by decide +kernel
theorem dX8_isFewer_5 : decode cX8_isFewer 5 = .ok (.invokestatic 268, 3) := by decide +kernel
theorem dX8_isFewer_8 : decode cX8_isFewer 8 = .ok (.iload_n 1, 1) := by decide +kernel
theorem dX8_isFewer_9 : decode cX8_isFewer 9 = .ok (.invokestatic 268, 3) := by decide +kernel
theorem dX8_isFewer_12 : decode cX8_isFewer 12 = .ok (.if_icmp .ge 7, 3) := by decide +kernel
theorem dX8_isFewer_15 : decode cX8_isFewer 15 = .ok (.iconst 1, 1) := by decide +kernel
theorem dX8_isFewer_16 : decode cX8_isFewer 16 = .ok (.goto 4, 3) := by decide +kernel
theorem dX8_isFewer_19 : decode cX8_isFewer 19 = .ok (.iconst 0, 1) := by decide +kernel
theorem dX8_isFewer_20 : decode cX8_isFewer 20 = .ok (.ireturn, 1) := by decide +kernel
set_option maxRecDepth 20000 in
theorem ggX8_measureReaches_X0_sightIn : GoodIn wsX8_measureReaches wsX0_sightIn := goodIn_r _ [9, 10, 11, 12, 13, 14, 8, 15, 16, 17, 18, 19, 20, 21, 22, 23, 24, 25, 26, 27, 28, 29, 30, 31, 32, 33, 45, 46, 47, 48, 49, 50, 51, 52, 53, 54, 55, 56, 57, 58, 59, 60, 61, 62, 63, 64, 65] (by decide +kernel) (by decide +kernel)
set_option maxRecDepth 20000 in
theorem gX8_measureReaches_X0_sightIn : GoodIn wsX8_measureReaches (wsV RX8 133 RX0 yX0_sightIn wsX0_sightIn) := goodIn_app (goodIn_of _ (by decide +kernel)) ggX8_measureReaches_X0_sightIn
theorem dX8_measureReaches_0 : decode cX8_measureReaches 0 = .ok (.iconst 0, 1) := by decide +kernel
theorem dX8_measureReaches_1 : decode cX8_measureReaches 1 = .ok (.istore_n 2, 1) := by decide +kernel
theorem dX8_measureReaches_2 : decode cX8_measureReaches 2 = .ok (.iload_n 2, 1) := by decide +kernel
theorem dX8_measureReaches_3 : decode cX8_measureReaches 3 = .ok (.aload_n 0, 1) := by decide +kernel
theorem dX8_measureReaches_4 : decode cX8_measureReaches 4 = .ok (.getfield 10, 3) := by decide +kernel
theorem dX8_measureReaches_7 : decode cX8_measureReaches 7 = .ok (.getfield 68, 3) := by decide +kernel
theorem dX8_measureReaches_10 : decode cX8_measureReaches 10 = .ok (.if_icmp .ge 40, 3) := by decide +kernel
theorem dX8_measureReaches_13 : decode cX8_measureReaches 13 = .ok (.iload_n 2, 1) := by decide +kernel
theorem dX8_measureReaches_14 : decode cX8_measureReaches 14 = .ok (.aload_n 0, 1) := by decide +kernel
theorem dX8_measureReaches_15 : decode cX8_measureReaches 15 = .ok (.getfield 50, 3) := by decide +kernel
theorem dX8_measureReaches_18 : decode cX8_measureReaches 18 = .ok (.arraylength, 1) := by decide +kernel
theorem dX8_measureReaches_19 : decode cX8_measureReaches 19 = .ok (.if_icmp .ge 31, 3) := by decide +kernel
theorem dX8_measureReaches_22 : decode cX8_measureReaches 22 = .ok (.aload_n 0, 1) := by decide +kernel
theorem dX8_measureReaches_23 : decode cX8_measureReaches 23 = .ok (.getfield 50, 3) := by decide +kernel
theorem dX8_measureReaches_26 : decode cX8_measureReaches 26 = .ok (.iload_n 2, 1) := by decide +kernel
theorem dX8_measureReaches_27 : decode cX8_measureReaches 27 = .ok (.aload_n 0, 1) := by decide +kernel
theorem dX8_measureReaches_28 : decode cX8_measureReaches 28 = .ok (.getfield 10, 3) := by decide +kernel
theorem dX8_measureReaches_31 : decode cX8_measureReaches 31 = .ok (.iload_n 2, 1) := by decide +kernel
theorem dX8_measureReaches_32 : decode cX8_measureReaches 32 = .ok (.iload_n 1, 1) := by decide +kernel
theorem dX8_measureReaches_33 : decode cX8_measureReaches 33 = .ok (.aload_n 0, 1) := by decide +kernel
theorem dX8_measureReaches_34 : decode cX8_measureReaches 34 = .ok (.getfield 10, 3) := by decide +kernel
theorem dX8_measureReaches_37 : decode cX8_measureReaches 37 = .ok (.getfield 130, 3) := by decide +kernel
theorem dX8_measureReaches_40 : decode cX8_measureReaches 40 = .ok (.invokevirtual 133, 3) := by decide +kernel
theorem dX8_measureReaches_43 : decode cX8_measureReaches 43 = .ok (.iastore, 1) := by decide +kernel
theorem dX8_measureReaches_44 : decode cX8_measureReaches 44 = .ok (.iinc 2 1, 3) := by decide +kernel
theorem dX8_measureReaches_47 : decode cX8_measureReaches 47 = .ok (.goto (-45), 3) := by decide +kernel
theorem dX8_measureReaches_50 : decode cX8_measureReaches 50 = .ok (.return_, 1) := by decide +kernel
set_option maxRecDepth 20000 in
theorem ggX8_gains_X8_isPerson : GoodIn wsX8_gains wsX8_isPerson := goodIn_r _ [7, 2, 8, 9, 10, 6, 11, 160, 161, 162, 163, 164, 165, 166, 167, 168, 169, 170, 171, 172, 173, 174, 175, 176, 177, 178, 179, 180, 181, 182, 183, 184, 185, 186, 187, 188, 189] (by decide +kernel) (by decide +kernel)
set_option maxRecDepth 20000 in
theorem gX8_gains_X8_isPerson : GoodIn wsX8_gains (wsV RX8 115 RX8 yX8_isPerson wsX8_isPerson) := goodIn_app (goodIn_of _ (by decide +kernel)) ggX8_gains_X8_isPerson
set_option maxRecDepth 20000 in
theorem ggX8_gains_X8_within : GoodIn wsX8_gains wsX8_within := goodIn_r _ [11] (by decide +kernel) (by decide +kernel)
set_option maxRecDepth 20000 in
theorem gX8_gains_X8_within : GoodIn wsX8_gains (va_wsS RX8 60 yX8_within wsX8_within) := goodIn_app (goodIn_of _ (by decide +kernel)) ggX8_gains_X8_within
set_option maxRecDepth 20000 in
theorem ggX8_gains_X8_error : GoodIn wsX8_gains wsX8_error := goodIn_r _ [15, 16, 17, 9, 10, 6, 11, 160, 161, 162, 163, 164, 165, 166, 167, 168, 169, 170] (by decide +kernel) (by decide +kernel)
set_option maxRecDepth 20000 in
theorem gX8_gains_X8_error : GoodIn wsX8_gains (wsV RX8 64 RX8 yX8_error wsX8_error) := goodIn_app (goodIn_of _ (by decide +kernel)) ggX8_gains_X8_error
set_option maxRecDepth 20000 in
theorem ggX8_gains_X0_takeOver : GoodIn wsX8_gains wsX0_takeOver := goodIn_r _ [22, 23, 24, 25, 26, 27, 28, 29, 30, 31, 32, 33, 34, 35, 36, 37, 38, 39, 40, 41, 42, 43, 44, 45, 46, 47, 48, 49, 50, 51, 52, 53, 54, 55, 56, 57, 58, 59, 60, 61, 62, 63, 171, 172, 173, 174, 175, 176, 177, 178, 179, 180, 181, 182, 183, 184, 185, 186, 187, 188, 189, 190, 191] (by decide +kernel) (by decide +kernel)
set_option maxRecDepth 20000 in
theorem gX8_gains_X0_takeOver : GoodIn wsX8_gains (wsV RX8 210 RX0 yX0_takeOver wsX0_takeOver) := goodIn_app (goodIn_of _ (by decide +kernel)) ggX8_gains_X0_takeOver
set_option maxRecDepth 20000 in
theorem ggX8_gains_X8_togetherBehind : GoodIn wsX8_gains wsX8_togetherBehind := goodIn_r _ [67, 1, 68, 69, 70, 21, 71, 35, 38, 24, 33, 72, 73, 74, 75, 34, 76, 77, 78, 79, 80, 81, 36, 37, 32, 30, 23, 29, 82, 83, 84, 85, 86, 87, 88, 89, 90, 91, 92, 93, 94, 95, 96, 97, 40, 98, 99, 100, 101, 102, 103, 104, 105, 106, 107, 108, 6, 109, 110, 111, 112, 113, 114, 115, 116, 117, 118, 119, 120, 121, 122, 123, 124, 125, 126, 127, 128, 129, 130, 131, 132, 133, 10, 11, 134, 135, 136, 137, 41, 138, 139, 140, 141, 142, 143, 144, 39, 145, 146, 147, 148, 149, 150, 151, 152, 160, 161, 162, 163, 164, 165, 166, 167, 168, 169, 170, 171, 172, 173, 174, 175, 176, 177, 178, 179, 180, 181, 182, 183, 184, 185, 186, 187, 188, 189, 192, 193] (by decide +kernel) (by decide +kernel)
set_option maxRecDepth 20000 in
theorem gX8_gains_X8_togetherBehind : GoodIn wsX8_gains (wsV RX8 273 RX8 yX8_togetherBehind wsX8_togetherBehind) := goodIn_app (goodIn_of _ (by decide +kernel)) ggX8_gains_X8_togetherBehind
set_option maxRecDepth 20000 in
theorem ggX8_gains_X0_leaveOut : GoodIn wsX8_gains wsX0_leaveOut := goodIn_r _ [156, 157, 158, 74, 159, 35, 36, 37, 38, 39, 171, 172, 173, 174, 175, 176, 177, 178, 179, 180, 181, 182, 183, 184, 185, 186, 187, 188, 189] (by decide +kernel) (by decide +kernel)
set_option maxRecDepth 20000 in
theorem gX8_gains_X0_leaveOut : GoodIn wsX8_gains (wsV RX8 276 RX0 yX0_leaveOut wsX0_leaveOut) := goodIn_app (goodIn_of _ (by decide +kernel)) ggX8_gains_X0_leaveOut
theorem dX8_gains_0 : decode cX8_gains 0 = .ok (.aload_n 0, 1) := by decide +kernel
theorem dX8_gains_1 : decode cX8_gains 1 = .ok (.iload_n 1, 1) := by decide +kernel
theorem dX8_gains_2 : decode cX8_gains 2 = .ok (.invokevirtual 115, 3) := by decide +kernel
theorem dX8_gains_5 : decode cX8_gains 5 = .ok (.ifCond .eq 13, 3) := by decide +kernel
theorem dX8_gains_8 : decode cX8_gains 8 = .ok (.iload_n 2, 1) := by decide +kernel
theorem dX8_gains_9 : decode cX8_gains 9 = .ok (.iconst 0, 1) := by decide +kernel
theorem dX8_gains_10 : decode cX8_gains 10 = .ok (.bipush 50, 2) := by decide +kernel
theorem dX8_gains_12 : decode cX8_gains 12 = .ok (.invokestatic 60, 3) := by decide +kernel
theorem dX8_gains_15 : decode cX8_gains 15 = .ok (.ifCond .ne 9, 3) := by decide +kernel
theorem dX8_gains_18 : decode cX8_gains 18 = .ok (.aload_n 0, 1) := by decide +kernel
theorem dX8_gains_19 : decode cX8_gains 19 = .ok (.iconst 1, 1) := by decide +kernel
theorem dX8_gains_20 : decode cX8_gains 20 = .ok (.invokevirtual 64, 3) := by decide +kernel
theorem dX8_gains_23 : decode cX8_gains 23 = .ok (.ireturn, 1) := by decide +kernel
theorem dX8_gains_24 : decode cX8_gains 24 = .ok (.aload_n 0, 1) := by decide +kernel
theorem dX8_gains_25 : decode cX8_gains 25 = .ok (.getfield 16, 3) := by decide +kernel
theorem dX8_gains_28 : decode cX8_gains 28 = .ok (.aload_n 0, 1) := by decide +kernel
theorem dX8_gains_29 : decode cX8_gains 29 = .ok (.getfield 10, 3) := by decide +kernel
theorem dX8_gains_32 : decode cX8_gains 32 = .ok (.invokevirtual 210, 3) := by decide +kernel
theorem dX8_gains_35 : decode cX8_gains 35 = .ok (.aload_n 0, 1) := by decide +kernel
theorem dX8_gains_36 : decode cX8_gains 36 = .ok (.iload_n 2, 1) := by decide +kernel
theorem dX8_gains_37 : decode cX8_gains 37 = .ok (.invokevirtual 273, 3) := by decide +kernel
theorem dX8_gains_40 : decode cX8_gains 40 = .ok (.istore_n 3, 1) := by decide +kernel
theorem dX8_gains_41 : decode cX8_gains 41 = .ok (.aload_n 0, 1) := by decide +kernel
theorem dX8_gains_42 : decode cX8_gains 42 = .ok (.getfield 16, 3) := by decide +kernel
theorem dX8_gains_45 : decode cX8_gains 45 = .ok (.aload_n 0, 1) := by decide +kernel
theorem dX8_gains_46 : decode cX8_gains 46 = .ok (.getfield 10, 3) := by decide +kernel
theorem dX8_gains_49 : decode cX8_gains 49 = .ok (.invokevirtual 210, 3) := by decide +kernel
theorem dX8_gains_52 : decode cX8_gains 52 = .ok (.aload_n 0, 1) := by decide +kernel
theorem dX8_gains_53 : decode cX8_gains 53 = .ok (.getfield 16, 3) := by decide +kernel
theorem dX8_gains_56 : decode cX8_gains 56 = .ok (.iload_n 1, 1) := by decide +kernel
