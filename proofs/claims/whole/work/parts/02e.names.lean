set_option maxRecDepth 20000 in
theorem ggX8_then_X8_error : GoodIn wsX8_then wsX8_error := goodIn_r _ [13, 14, 15, 6, 7, 8, 9, 139, 140, 141, 142, 143, 144, 145, 146, 147, 148, 149] (by decide +kernel) (by decide +kernel)
set_option maxRecDepth 20000 in
theorem gX8_then_X8_error : GoodIn wsX8_then (wsV RX8 64 RX8 yX8_error wsX8_error) := goodIn_app (goodIn_of _ (by decide +kernel)) ggX8_then_X8_error
set_option maxRecDepth 20000 in
theorem ggX8_then_X0_takeOver : GoodIn wsX8_then wsX0_takeOver := goodIn_r _ [20, 21, 22, 23, 24, 25, 26, 27, 28, 29, 30, 31, 32, 33, 34, 35, 36, 37, 38, 39, 40, 41, 42, 43, 44, 45, 46, 47, 48, 49, 50, 51, 52, 53, 54, 55, 56, 57, 58, 59, 60, 61, 150, 151, 152, 153, 154, 155, 156, 157, 158, 159, 160, 161, 162, 163, 164, 165, 166, 167, 168, 169, 170] (by decide +kernel) (by decide +kernel)
set_option maxRecDepth 20000 in
theorem gX8_then_X0_takeOver : GoodIn wsX8_then (wsV RX8 210 RX0 yX0_takeOver wsX0_takeOver) := goodIn_app (goodIn_of _ (by decide +kernel)) ggX8_then_X0_takeOver
set_option maxRecDepth 20000 in
theorem ggX8_then_X0_passHour : GoodIn wsX8_then wsX0_passHour := goodIn_r _ [65, 33, 36, 22, 31, 66, 67, 68, 69, 32, 70, 71, 72, 73, 19, 74, 75, 34, 35, 30, 28, 21, 27, 76, 77, 78, 79, 80, 81, 82, 83, 84, 85, 86, 87, 88, 89, 90, 91, 38, 92, 93, 94, 95, 96, 97, 98, 99, 100, 101, 102, 8, 103, 104, 105, 106, 107, 108, 109, 110, 111, 112, 113, 114, 115, 116, 117, 118, 119, 120, 121, 122, 123, 124, 125, 126, 127, 7, 9, 128, 129, 130, 131, 39, 132, 133, 134, 135, 136, 137, 138, 37, 150, 151, 152, 153, 154, 155, 156, 157, 158, 159, 160, 161, 162, 163, 164, 165, 166, 167, 168, 171, 172] (by decide +kernel) (by decide +kernel)
set_option maxRecDepth 20000 in
theorem gX8_then_X0_passHour : GoodIn wsX8_then (wsV RX8 194 RX0 yX0_passHour wsX0_passHour) := goodIn_app (goodIn_of _ (by decide +kernel)) ggX8_then_X0_passHour
theorem dX8_then_0 : decode cX8_then 0 = .ok (.iload_n 1, 1) := by decide +kernel
theorem dX8_then_1 : decode cX8_then 1 = .ok (.iconst 0, 1) := by decide +kernel
theorem dX8_then_2 : decode cX8_then 2 = .ok (.bipush 50, 2) := by decide +kernel
theorem dX8_then_4 : decode cX8_then 4 = .ok (.invokestatic 60, 3) := by decide +kernel
theorem dX8_then_7 : decode cX8_then 7 = .ok (.ifCond .eq 20, 3) := by decide +kernel
theorem dX8_then_10 : decode cX8_then 10 = .ok (.iload_n 2, 1) := by decide +kernel
theorem dX8_then_11 : decode cX8_then 11 = .ok (.iconst (-1), 1) := by decide +kernel
theorem dX8_then_12 : decode cX8_then 12 = .ok (.aload_n 0, 1) := by decide +kernel
theorem dX8_then_13 : decode cX8_then 13 = .ok (.getfield 10, 3) := by decide +kernel
theorem dX8_then_16 : decode cX8_then 16 = .ok (.getfield 72, 3) := by decide +kernel
theorem dX8_then_19 : decode cX8_then 19 = .ok (.iconst 1, 1) := by decide +kernel
theorem dX8_then_20 : decode cX8_then 20 = .ok (.isub, 1) := by decide +kernel
theorem dX8_then_21 : decode cX8_then 21 = .ok (.invokestatic 60, 3) := by decide +kernel
theorem dX8_then_24 : decode cX8_then 24 = .ok (.ifCond .ne 9, 3) := by decide +kernel
theorem dX8_then_27 : decode cX8_then 27 = .ok (.aload_n 0, 1) := by decide +kernel
theorem dX8_then_28 : decode cX8_then 28 = .ok (.iconst 1, 1) := by decide +kernel
theorem dX8_then_29 : decode cX8_then 29 = .ok (.invokevirtual 64, 3) := by decide +kernel
theorem dX8_then_32 : decode cX8_then 32 = .ok (.ireturn, 1) := by decide +kernel
theorem dX8_then_33 : decode cX8_then 33 = .ok (.aload_n 0, 1) := by decide +kernel
theorem dX8_then_34 : decode cX8_then 34 = .ok (.getfield 16, 3) := by decide +kernel
theorem dX8_then_37 : decode cX8_then 37 = .ok (.aload_n 0, 1) := by decide +kernel
theorem dX8_then_38 : decode cX8_then 38 = .ok (.getfield 10, 3) := by decide +kernel
theorem dX8_then_41 : decode cX8_then 41 = .ok (.invokevirtual 210, 3) := by decide +kernel
theorem dX8_then_44 : decode cX8_then 44 = .ok (.iconst 0, 1) := by decide +kernel
theorem dX8_then_45 : decode cX8_then 45 = .ok (.istore_n 3, 1) := by decide +kernel
theorem dX8_then_46 : decode cX8_then 46 = .ok (.iload_n 3, 1) := by decide +kernel
theorem dX8_then_47 : decode cX8_then 47 = .ok (.iload_n 1, 1) := by decide +kernel
theorem dX8_then_48 : decode cX8_then 48 = .ok (.if_icmp .ge 16, 3) := by decide +kernel
theorem dX8_then_51 : decode cX8_then 51 = .ok (.aload_n 0, 1) := by decide +kernel
theorem dX8_then_52 : decode cX8_then 52 = .ok (.getfield 16, 3) := by decide +kernel
theorem dX8_then_55 : decode cX8_then 55 = .ok (.invokevirtual 194, 3) := by decide +kernel
theorem dX8_then_58 : decode cX8_then 58 = .ok (.iinc 3 1, 3) := by decide +kernel
theorem dX8_then_61 : decode cX8_then 61 = .ok (.goto (-15), 3) := by decide +kernel
theorem dX8_then_64 : decode cX8_then 64 = .ok (.iload_n 2, 1) := by decide +kernel
theorem dX8_then_65 : decode cX8_then 65 = .ok (.ifCond .ge 13, 3) := by decide +kernel
theorem dX8_then_68 : decode cX8_then 68 = .ok (.aload_n 0, 1) := by decide +kernel
theorem dX8_then_69 : decode cX8_then 69 = .ok (.getfield 16, 3) := by decide +kernel
theorem dX8_then_72 : decode cX8_then 72 = .ok (.getfield 214, 3) := by decide +kernel
theorem dX8_then_75 : decode cX8_then 75 = .ok (.goto 12, 3) := by decide +kernel
theorem dX8_then_78 : decode cX8_then 78 = .ok (.aload_n 0, 1) := by decide +kernel
theorem dX8_then_79 : decode cX8_then 79 = .ok (.getfield 16, 3) := by decide +kernel
theorem dX8_then_82 : decode cX8_then 82 = .ok (.getfield 84, 3) := by decide +kernel
theorem dX8_then_85 : decode cX8_then 85 = .ok (.iload_n 2, 1) := by decide +kernel
theorem dX8_then_86 : decode cX8_then 86 = .ok (.iaload, 1) := by decide +kernel
theorem dX8_then_87 : decode cX8_then 87 = .ok (.ireturn, 1) := by decide +kernel
set_option maxRecDepth 20000 in
theorem ggX8_full_X8_within : GoodIn wsX8_full wsX8_within := goodIn_r _ [7] (by decide +kernel) (by decide +kernel)
set_option maxRecDepth 20000 in
theorem gX8_full_X8_within : GoodIn wsX8_full (va_wsS RX8 60 yX8_within wsX8_within) := goodIn_app (goodIn_of _ (by decide +kernel)) ggX8_full_X8_within
set_option maxRecDepth 20000 in
theorem ggX8_full_X8_error : GoodIn wsX8_full wsX8_error := goodIn_r _ [11, 12, 13, 4, 5, 6, 7, 145, 146, 147, 148, 149, 150, 151, 152, 153, 154, 155] (by decide +kernel) (by decide +kernel)
set_option maxRecDepth 20000 in
theorem gX8_full_X8_error : GoodIn wsX8_full (wsV RX8 64 RX8 yX8_error wsX8_error) := goodIn_app (goodIn_of _ (by decide +kernel)) ggX8_full_X8_error
set_option maxRecDepth 20000 in
theorem ggX8_full_X0_takeOver : GoodIn wsX8_full wsX0_takeOver := goodIn_r _ [18, 19, 20, 21, 22, 23, 24, 25, 26, 27, 28, 29, 30, 31, 32, 33, 34, 35, 36, 37, 38, 39, 40, 41, 42, 43, 44, 45, 46, 47, 48, 49, 50, 51, 52, 53, 54, 55, 56, 57, 58, 59, 156, 157, 158, 159, 160, 161, 162, 163, 164, 165, 166, 167, 168, 169, 170, 171, 172, 173, 174, 175, 176] (by decide +kernel) (by decide +kernel)
set_option maxRecDepth 20000 in
theorem gX8_full_X0_takeOver : GoodIn wsX8_full (wsV RX8 210 RX0 yX0_takeOver wsX0_takeOver) := goodIn_app (goodIn_of _ (by decide +kernel)) ggX8_full_X0_takeOver
set_option maxRecDepth 20000 in
theorem ggX8_full_X0_together : GoodIn wsX8_full wsX0_together := goodIn_r _ [63, 19, 64, 65, 66, 17, 67, 20, 68, 6, 69, 156, 157, 158, 159, 160, 161, 162, 163, 164, 165, 166, 167, 168, 169, 170, 171, 172, 173, 174] (by decide +kernel) (by decide +kernel)
set_option maxRecDepth 20000 in
theorem gX8_full_X0_together : GoodIn wsX8_full (wsV RX8 197 RX0 yX0_together wsX0_together) := goodIn_app (goodIn_of _ (by decide +kernel)) ggX8_full_X0_together
set_option maxRecDepth 20000 in
theorem ggX8_full_X0_passHour : GoodIn wsX8_full wsX0_passHour := goodIn_r _ [73, 31, 34, 20, 29, 74, 75, 76, 77, 30, 78, 79, 80, 81, 17, 82, 83, 32, 33, 28, 26, 19, 25, 84, 85, 86, 87, 88, 89, 90, 91, 92, 93, 94, 95, 96, 97, 98, 99, 36, 100, 101, 102, 103, 104, 105, 106, 107, 108, 109, 110, 6, 111, 112, 113, 114, 115, 116, 117, 118, 68, 69, 119, 120, 121, 122, 123, 124, 125, 126, 127, 128, 129, 130, 131, 132, 133, 5, 7, 134, 135, 136, 137, 37, 138, 139, 140, 141, 142, 143, 144, 35, 156, 157, 158, 159, 160, 161, 162, 163, 164, 165, 166, 167, 168, 169, 170, 171, 172, 173, 174, 177, 178] (by decide +kernel) (by decide +kernel)
set_option maxRecDepth 20000 in
theorem gX8_full_X0_passHour : GoodIn wsX8_full (wsV RX8 194 RX0 yX0_passHour wsX0_passHour) := goodIn_app (goodIn_of _ (by decide +kernel)) ggX8_full_X0_passHour
theorem dX8_full_0 : decode cX8_full 0 = .ok (.iload_n 1, 1) := by decide +kernel
theorem dX8_full_1 : decode cX8_full 1 = .ok (.iconst 0, 1) := by decide +kernel
theorem dX8_full_2 : decode cX8_full 2 = .ok (.ldc 217, 2) := by decide +kernel
theorem dX8_full_4 : decode cX8_full 4 = .ok (.invokestatic 60, 3) := by decide +kernel
theorem dX8_full_7 : decode cX8_full 7 = .ok (.ifCond .ne 9, 3) := by decide +kernel
theorem dX8_full_10 : decode cX8_full 10 = .ok (.aload_n 0, 1) := by decide +kernel
theorem dX8_full_11 : decode cX8_full 11 = .ok (.iconst 1, 1) := by decide +kernel
theorem dX8_full_12 : decode cX8_full 12 = .ok (.invokevirtual 64, 3) := by decide +kernel
theorem dX8_full_15 : decode cX8_full 15 = .ok (.ireturn, 1) := by decide +kernel
theorem dX8_full_16 : decode cX8_full 16 = .ok (.aload_n 0, 1) := by decide +kernel
theorem dX8_full_17 : decode cX8_full 17 = .ok (.getfield 16, 3) := by decide +kernel
theorem dX8_full_20 : decode cX8_full 20 = .ok (.aload_n 0, 1) := by decide +kernel
theorem dX8_full_21 : decode cX8_full 21 = .ok (.getfield 10, 3) := by decide +kernel
theorem dX8_full_24 : decode cX8_full 24 = .ok (.invokevirtual 210, 3) := by decide +kernel
theorem dX8_full_27 : decode cX8_full 27 = .ok (.iconst 0, 1) := by decide +kernel
theorem dX8_full_28 : decode cX8_full 28 = .ok (.istore_n 2, 1) := by decide +kernel
theorem dX8_full_29 : decode cX8_full 29 = .ok (.iload_n 2, 1) := by decide +kernel
theorem dX8_full_30 : decode cX8_full 30 = .ok (.bipush 50, 2) := by decide +kernel
theorem dX8_full_32 : decode cX8_full 32 = .ok (.if_icmp .gt 29, 3) := by decide +kernel
theorem dX8_full_35 : decode cX8_full 35 = .ok (.aload_n 0, 1) := by decide +kernel
theorem dX8_full_36 : decode cX8_full 36 = .ok (.getfield 16, 3) := by decide +kernel
theorem dX8_full_39 : decode cX8_full 39 = .ok (.invokevirtual 197, 3) := by decide +kernel
theorem dX8_full_42 : decode cX8_full 42 = .ok (.iload_n 1, 1) := by decide +kernel
theorem dX8_full_43 : decode cX8_full 43 = .ok (.if_icmp .lt 5, 3) := by decide +kernel
theorem dX8_full_46 : decode cX8_full 46 = .ok (.iload_n 2, 1) := by decide +kernel
theorem dX8_full_47 : decode cX8_full 47 = .ok (.ireturn, 1) := by decide +kernel
theorem dX8_full_48 : decode cX8_full 48 = .ok (.aload_n 0, 1) := by decide +kernel
theorem dX8_full_49 : decode cX8_full 49 = .ok (.getfield 16, 3) := by decide +kernel
theorem dX8_full_52 : decode cX8_full 52 = .ok (.invokevirtual 194, 3) := by decide +kernel
theorem dX8_full_55 : decode cX8_full 55 = .ok (.iinc 2 1, 3) := by decide +kernel
theorem dX8_full_58 : decode cX8_full 58 = .ok (.goto (-29), 3) := by decide +kernel
theorem dX8_full_61 : decode cX8_full 61 = .ok (.aload_n 0, 1) := by decide +kernel
theorem dX8_full_62 : decode cX8_full 62 = .ok (.iconst 2, 1) := by decide +kernel
theorem dX8_full_63 : decode cX8_full 63 = .ok (.invokevirtual 64, 3) := by decide +kernel
theorem dX8_full_66 : decode cX8_full 66 = .ok (.ireturn, 1) := by decide +kernel
set_option maxRecDepth 20000 in
theorem ggX8_leads_X8_isCell : GoodIn wsX8_leads wsX8_isCell := goodIn_r _ [10, 3, 11, 12, 13, 9, 14, 149, 150, 151, 152, 153, 154, 155, 156, 157, 158, 159, 168, 169, 170, 171, 172, 173, 174, 175, 176, 177, 178, 179, 180, 181, 182, 183, 184, 185, 186] (by decide +kernel) (by decide +kernel)
set_option maxRecDepth 20000 in
theorem gX8_leads_X8_isCell : GoodIn wsX8_leads (wsV RX8 79 RX8 yX8_isCell wsX8_isCell) := goodIn_app (goodIn_of _ (by decide +kernel)) ggX8_leads_X8_isCell
set_option maxRecDepth 20000 in
theorem ggX8_leads_X8_within : GoodIn wsX8_leads wsX8_within := goodIn_r _ [14] (by decide +kernel) (by decide +kernel)
set_option maxRecDepth 20000 in
theorem gX8_leads_X8_within : GoodIn wsX8_leads (va_wsS RX8 60 yX8_within wsX8_within) := goodIn_app (goodIn_of _ (by decide +kernel)) ggX8_leads_X8_within
set_option maxRecDepth 20000 in
theorem ggX8_leads_X8_error : GoodIn wsX8_leads wsX8_error := goodIn_r _ [18, 19, 20, 12, 13, 9, 14, 149, 150, 151, 152, 153, 154, 155, 156, 157, 158, 159] (by decide +kernel) (by decide +kernel)
set_option maxRecDepth 20000 in
theorem gX8_leads_X8_error : GoodIn wsX8_leads (wsV RX8 64 RX8 yX8_error wsX8_error) := goodIn_app (goodIn_of _ (by decide +kernel)) ggX8_leads_X8_error
set_option maxRecDepth 20000 in
theorem ggX8_leads_X2_isFound : GoodIn wsX8_leads wsX2_isFound := goodIn_r _ [25, 26, 27, 28, 29, 30, 31, 32, 33, 34, 9, 35, 36, 37, 38, 39, 40, 41, 42, 24, 43, 44, 45, 46, 47, 48, 49, 50, 51, 52, 53, 54, 55, 56, 57, 58, 59, 60, 61, 62, 63, 64, 65, 66, 67, 68, 69, 70, 71, 72, 73, 74, 75, 76, 77, 78, 79, 80, 81, 82, 83, 84, 85, 13, 14, 86, 87, 88, 89, 90, 91, 92, 93, 94, 95, 96, 97, 98, 99, 100, 101, 102, 103, 104, 105, 106, 107, 108, 109, 110, 111, 112, 113, 114, 115, 116, 117, 118, 119, 120, 121, 122, 123, 124, 125, 126, 127, 128, 129, 130, 131, 132, 133, 134, 135, 136, 137, 138, 139, 140, 141, 142, 143, 144, 145, 146, 147, 148, 160, 161, 162, 163, 164, 165, 166, 167, 168, 169, 170, 171, 172, 173, 174, 175, 176, 177, 178, 179, 180, 181, 182, 183, 184, 185, 186, 187, 188] (by decide +kernel) (by decide +kernel)
set_option maxRecDepth 20000 in
theorem gX8_leads_X2_isFound : GoodIn wsX8_leads (wsV RX8 218 RX2 yX2_isFound wsX2_isFound) := goodIn_app (goodIn_of _ (by decide +kernel)) ggX8_leads_X2_isFound
theorem dX8_leads_0 : decode cX8_leads 0 = .ok (.aload_n 0, 1) := by decide +kernel
theorem dX8_leads_1 : decode cX8_leads 1 = .ok (.iload_n 1, 1) := by decide +kernel
theorem dX8_leads_2 : decode cX8_leads 2 = .ok (.invokevirtual 79, 3) := by decide +kernel
theorem dX8_leads_5 : decode cX8_leads 5 = .ok (.ifCond .eq 32, 3) := by decide +kernel
theorem dX8_leads_8 : decode cX8_leads 8 = .ok (.iload_n 2, 1) := by decide +kernel
theorem dX8_leads_9 : decode cX8_leads 9 = .ok (.iconst 0, 1) := by decide +kernel
theorem dX8_leads_10 : decode cX8_leads 10 = .ok (.ldc 83, 2) := by decide +kernel
theorem dX8_leads_12 : decode cX8_leads 12 = .ok (.invokestatic 60, 3) := by decide +kernel
theorem dX8_leads_15 : decode cX8_leads 15 = .ok (.ifCond .eq 22, 3) := by decide +kernel
theorem dX8_leads_18 : decode cX8_leads 18 = .ok (.iload_n 3, 1) := by decide +kernel
theorem dX8_leads_19 : decode cX8_leads 19 = .ok (.iconst 0, 1) := by decide +kernel
theorem dX8_leads_20 : decode cX8_leads 20 = .ok (.iconst 3, 1) := by decide +kernel
theorem dX8_leads_21 : decode cX8_leads 21 = .ok (.invokestatic 60, 3) := by decide +kernel
theorem dX8_leads_24 : decode cX8_leads 24 = .ok (.ifCond .eq 13, 3) := by decide +kernel
theorem dX8_leads_27 : decode cX8_leads 27 = .ok (.iload 4, 2) := by decide +kernel
theorem dX8_leads_29 : decode cX8_leads 29 = .ok (.iconst (-1), 1) := by decide +kernel
theorem dX8_leads_30 : decode cX8_leads 30 = .ok (.iconst 3, 1) := by decide +kernel
theorem dX8_leads_31 : decode cX8_leads 31 = .ok (.invokestatic 60, 3) := by decide +kernel
theorem dX8_leads_34 : decode cX8_leads 34 = .ok (.ifCond .ne 9, 3) := by decide +kernel
theorem dX8_leads_37 : decode cX8_leads 37 = .ok (.aload_n 0, 1) := by decide +kernel
theorem dX8_leads_38 : decode cX8_leads 38 = .ok (.iconst 1, 1) := by decide +kernel
theorem dX8_leads_39 : decode cX8_leads 39 = .ok (.invokevirtual 64, 3) := by decide +kernel
theorem dX8_leads_42 : decode cX8_leads 42 = .ok (.ireturn, 1) := by decide +kernel
theorem dX8_leads_43 : decode cX8_leads 43 = .ok (.aload_n 0, 1) := by decide +kernel
theorem dX8_leads_44 : decode cX8_leads 44 = .ok (.getfield 32, 3) := by decide +kernel
theorem dX8_leads_47 : decode cX8_leads 47 = .ok (.aload_n 0, 1) := by decide +kernel
theorem dX8_leads_48 : decode cX8_leads 48 = .ok (.getfield 10, 3) := by decide +kernel
theorem dX8_leads_51 : decode cX8_leads 51 = .ok (.iload_n 1, 1) := by decide +kernel
theorem dX8_leads_52 : decode cX8_leads 52 = .ok (.iload_n 2, 1) := by decide +kernel
theorem dX8_leads_53 : decode cX8_leads 53 = .ok (.iload_n 3, 1) := by decide +kernel
theorem dX8_leads_54 : decode cX8_leads 54 = .ok (.invokevirtual 218, 3) := by decide +kernel
theorem dX8_leads_57 : decode cX8_leads 57 = .ok (.ifCond .ne 9, 3) := by decide +kernel
theorem dX8_leads_60 : decode cX8_leads 60 = .ok (.aload_n 0, 1) := by decide +kernel
theorem dX8_leads_61 : decode cX8_leads 61 = .ok (.iconst 2, 1) := by decide +kernel
theorem dX8_leads_62 : decode cX8_leads 62 = .ok (.invokevirtual 64, 3) := by decide +kernel
theorem dX8_leads_65 : decode cX8_leads 65 = .ok (.ireturn, 1) := by decide +kernel
theorem dX8_leads_66 : decode cX8_leads 66 = .ok (.iload 4, 2) := by decide +kernel
theorem dX8_leads_68 : decode cX8_leads 68 = .ok (.ifCond .ge 13, 3) := by decide +kernel
theorem dX8_leads_71 : decode cX8_leads 71 = .ok (.aload_n 0, 1) := by decide +kernel
theorem dX8_leads_72 : decode cX8_leads 72 = .ok (.getfield 32, 3) := by decide +kernel
theorem dX8_leads_75 : decode cX8_leads 75 = .ok (.getfield 222, 3) := by decide +kernel
theorem dX8_leads_78 : decode cX8_leads 78 = .ok (.goto 13, 3) := by decide +kernel
theorem dX8_leads_81 : decode cX8_leads 81 = .ok (.aload_n 0, 1) := by decide +kernel
theorem dX8_leads_82 : decode cX8_leads 82 = .ok (.getfield 32, 3) := by decide +kernel
theorem dX8_leads_85 : decode cX8_leads 85 = .ok (.getfield 225, 3) := by decide +kernel
theorem dX8_leads_88 : decode cX8_leads 88 = .ok (.iload 4, 2) := by decide +kernel
theorem dX8_leads_90 : decode cX8_leads 90 = .ok (.iaload, 1) := by decide +kernel
theorem dX8_leads_91 : decode cX8_leads 91 = .ok (.ireturn, 1) := by decide +kernel
set_option maxRecDepth 20000 in
theorem ggX8_sums_X8_within : GoodIn wsX8_sums wsX8_within := goodIn_r _ [7] (by decide +kernel) (by decide +kernel)
set_option maxRecDepth 20000 in
theorem gX8_sums_X8_within : GoodIn wsX8_sums (va_wsS RX8 60 yX8_within wsX8_within) := goodIn_app (goodIn_of _ (by decide +kernel)) ggX8_sums_X8_within
set_option maxRecDepth 20000 in
theorem ggX8_sums_X8_error : GoodIn wsX8_sums wsX8_error := goodIn_r _ [11, 12, 13, 4, 5, 6, 7, 27, 28, 29, 30, 31, 32, 33, 34, 35, 36, 37] (by decide +kernel) (by decide +kernel)
set_option maxRecDepth 20000 in
theorem gX8_sums_X8_error : GoodIn wsX8_sums (wsV RX8 64 RX8 yX8_error wsX8_error) := goodIn_app (goodIn_of _ (by decide +kernel)) ggX8_sums_X8_error
set_option maxRecDepth 20000 in
theorem ggX8_sums_X0_grainsIn : GoodIn wsX8_sums wsX0_grainsIn := goodIn_r _ [18, 19, 20, 21, 6, 22, 38, 39, 40, 41, 42, 43, 44, 45, 46, 47, 48, 49, 50, 51, 52, 53, 54, 55, 56] (by decide +kernel) (by decide +kernel)
set_option maxRecDepth 20000 in
theorem gX8_sums_X0_grainsIn : GoodIn wsX8_sums (wsV RX8 228 RX0 yX0_grainsIn wsX0_grainsIn) := goodIn_app (goodIn_of _ (by decide +kernel)) ggX8_sums_X0_grainsIn
set_option maxRecDepth 20000 in
theorem ggX8_sums_X8_manyOrLeast : GoodIn wsX8_sums wsX8_manyOrLeast := goodIn_r _ [26, 8, 9, 10, 6, 11, 12, 13, 4, 5, 7, 27, 28, 29, 30, 31, 32, 33, 34, 35, 36, 37] (by decide +kernel) (by decide +kernel)
set_option maxRecDepth 20000 in
theorem gX8_sums_X8_manyOrLeast : GoodIn wsX8_sums (wsV RX8 231 RX8 yX8_manyOrLeast wsX8_manyOrLeast) := goodIn_app (goodIn_of _ (by decide +kernel)) ggX8_sums_X8_manyOrLeast
theorem dX8_sums_0 : decode cX8_sums 0 = .ok (.iload_n 1, 1) := by decide +kernel
theorem dX8_sums_1 : decode cX8_sums 1 = .ok (.iconst 0, 1) := by decide +kernel
theorem dX8_sums_2 : decode cX8_sums 2 = .ok (.ldc 217, 2) := by decide +kernel
theorem dX8_sums_4 : decode cX8_sums 4 = .ok (.invokestatic 60, 3) := by decide +kernel
theorem dX8_sums_7 : decode cX8_sums 7 = .ok (.ifCond .eq 12, 3) := by decide +kernel
theorem dX8_sums_10 : decode cX8_sums 10 = .ok (.iload_n 2, 1) := by decide +kernel
theorem dX8_sums_11 : decode cX8_sums 11 = .ok (.iconst 0, 1) := by decide +kernel
theorem dX8_sums_12 : decode cX8_sums 12 = .ok (.iconst 1, 1) := by decide +kernel
theorem dX8_sums_13 : decode cX8_sums 13 = .ok (.invokestatic 60, 3) := by decide +kernel
theorem dX8_sums_16 : decode cX8_sums 16 = .ok (.ifCond .ne 9, 3) := by decide +kernel
theorem dX8_sums_19 : decode cX8_sums 19 = .ok (.aload_n 0, 1) := by decide +kernel
theorem dX8_sums_20 : decode cX8_sums 20 = .ok (.iconst 1, 1) := by decide +kernel
theorem dX8_sums_21 : decode cX8_sums 21 = .ok (.invokevirtual 64, 3) := by decide +kernel
theorem dX8_sums_24 : decode cX8_sums 24 = .ok (.ireturn, 1) := by decide +kernel
theorem dX8_sums_25 : decode cX8_sums 25 = .ok (.iconst 0, 1) := by decide +kernel
theorem dX8_sums_26 : decode cX8_sums 26 = .ok (.istore_n 3, 1) := by decide +kernel
theorem dX8_sums_27 : decode cX8_sums 27 = .ok (.iconst (-1), 1) := by decide +kernel
theorem dX8_sums_28 : decode cX8_sums 28 = .ok (.istore 4, 2) := by decide +kernel
theorem dX8_sums_30 : decode cX8_sums 30 = .ok (.iconst 1, 1) := by decide +kernel
theorem dX8_sums_31 : decode cX8_sums 31 = .ok (.aload_n 0, 1) := by decide +kernel
theorem dX8_sums_32 : decode cX8_sums 32 = .ok (.getfield 10, 3) := by decide +kernel
theorem dX8_sums_35 : decode cX8_sums 35 = .ok (.getfield 72, 3) := by decide +kernel
theorem dX8_sums_38 : decode cX8_sums 38 = .ok (.ishl, 1) := by decide +kernel
theorem dX8_sums_39 : decode cX8_sums 39 = .ok (.iconst 1, 1) := by decide +kernel
theorem dX8_sums_40 : decode cX8_sums 40 = .ok (.isub, 1) := by decide +kernel
theorem dX8_sums_41 : decode cX8_sums 41 = .ok (.istore 5, 2) := by decide +kernel
theorem dX8_sums_43 : decode cX8_sums 43 = .ok (.iload 5, 2) := by decide +kernel
theorem dX8_sums_45 : decode cX8_sums 45 = .ok (.ifCond .lt 29, 3) := by decide +kernel
theorem dX8_sums_48 : decode cX8_sums 48 = .ok (.aload_n 0, 1) := by decide +kernel
theorem dX8_sums_49 : decode cX8_sums 49 = .ok (.getfield 10, 3) := by decide +kernel
theorem dX8_sums_52 : decode cX8_sums 52 = .ok (.iload 5, 2) := by decide +kernel
theorem dX8_sums_54 : decode cX8_sums 54 = .ok (.invokevirtual 228, 3) := by decide +kernel
theorem dX8_sums_57 : decode cX8_sums 57 = .ok (.iload_n 1, 1) := by decide +kernel
theorem dX8_sums_58 : decode cX8_sums 58 = .ok (.if_icmp .ne 10, 3) := by decide +kernel
theorem dX8_sums_61 : decode cX8_sums 61 = .ok (.iinc 3 1, 3) := by decide +kernel
theorem dX8_sums_64 : decode cX8_sums 64 = .ok (.iload 5, 2) := by decide +kernel
theorem dX8_sums_66 : decode cX8_sums 66 = .ok (.istore 4, 2) := by decide +kernel
theorem dX8_sums_68 : decode cX8_sums 68 = .ok (.iinc 5 (-1), 3) := by decide +kernel
theorem dX8_sums_71 : decode cX8_sums 71 = .ok (.goto (-28), 3) := by decide +kernel
theorem dX8_sums_74 : decode cX8_sums 74 = .ok (.aload_n 0, 1) := by decide +kernel
theorem dX8_sums_75 : decode cX8_sums 75 = .ok (.iload_n 2, 1) := by decide +kernel
theorem dX8_sums_76 : decode cX8_sums 76 = .ok (.iload_n 3, 1) := by decide +kernel
theorem dX8_sums_77 : decode cX8_sums 77 = .ok (.iload 4, 2) := by decide +kernel
theorem dX8_sums_79 : decode cX8_sums 79 = .ok (.invokevirtual 231, 3) := by decide +kernel
theorem dX8_sums_82 : decode cX8_sums 82 = .ok (.ireturn, 1) := by decide +kernel
set_option maxRecDepth 20000 in
theorem ggX8_looked_X8_isSheet : GoodIn wsX8_looked wsX8_isSheet := goodIn_r _ [9, 10, 11, 8, 12] (by decide +kernel) (by decide +kernel)
set_option maxRecDepth 20000 in
theorem gX8_looked_X8_isSheet : GoodIn wsX8_looked (va_wsS RX8 234 yX8_isSheet wsX8_isSheet) := goodIn_app (goodIn_of _ (by decide +kernel)) ggX8_looked_X8_isSheet
set_option maxRecDepth 20000 in
theorem ggX8_looked_X8_within : GoodIn wsX8_looked wsX8_within := goodIn_r _ [12] (by decide +kernel) (by decide +kernel)
set_option maxRecDepth 20000 in
theorem gX8_looked_X8_within : GoodIn wsX8_looked (va_wsS RX8 60 yX8_within wsX8_within) := goodIn_app (goodIn_of _ (by decide +kernel)) ggX8_looked_X8_within
set_option maxRecDepth 20000 in
theorem ggX8_looked_X8_error : GoodIn wsX8_looked wsX8_error := goodIn_r _ [16, 17, 18, 10, 11, 8, 12, 92, 93, 94, 95, 96, 97, 98, 99, 100, 101, 102] (by decide +kernel) (by decide +kernel)
set_option maxRecDepth 20000 in
theorem gX8_looked_X8_error : GoodIn wsX8_looked (wsV RX8 64 RX8 yX8_error wsX8_error) := goodIn_app (goodIn_of _ (by decide +kernel)) ggX8_looked_X8_error
set_option maxRecDepth 20000 in
theorem ggX8_looked_X5_isMissing : GoodIn wsX8_looked wsX5_isMissing := goodIn_r _ [23, 24, 103, 104, 105] (by decide +kernel) (by decide +kernel)
set_option maxRecDepth 20000 in
theorem gX8_looked_X5_isMissing : GoodIn wsX8_looked (wsV RX8 237 RX5 yX5_isMissing wsX5_isMissing) := goodIn_app (goodIn_of _ (by decide +kernel)) ggX8_looked_X5_isMissing
set_option maxRecDepth 20000 in
theorem ggX8_looked_X8_lookAround : GoodIn wsX8_looked wsX8_lookAround := goodIn_r _ [28, 3, 5, 29, 30, 31, 32, 33, 34, 35, 36, 37, 38, 39, 40, 41, 42, 43, 44, 45, 46, 47, 48, 49, 50, 51, 52, 53, 54, 55, 56, 57, 58, 59, 60, 8, 61, 62, 63, 64, 65, 66, 67, 68, 69, 70, 71, 72, 73, 74, 75, 76, 92, 93, 94, 95, 96, 97, 98, 99, 100, 101, 102, 106, 107, 108, 109, 110, 111, 112, 113, 114, 115, 116, 117, 118, 119, 120, 121, 122, 123, 124, 125, 126] (by decide +kernel) (by decide +kernel)
set_option maxRecDepth 20000 in
theorem gX8_looked_X8_lookAround : GoodIn wsX8_looked (wsV RX8 242 RX8 yX8_lookAround wsX8_lookAround) := goodIn_app (goodIn_of _ (by decide +kernel)) ggX8_looked_X8_lookAround
set_option maxRecDepth 20000 in
theorem ggX8_looked_X8_growsAs : GoodIn wsX8_looked wsX8_growsAs := goodIn_r _ [80, 3, 4, 2, 5, 29, 81, 82, 83, 84, 71, 8, 72, 85, 86, 64, 87, 92, 93, 94, 95, 96, 97, 98, 99, 100, 101, 102, 106, 107, 108, 109, 110, 111, 112, 113, 114, 115, 116, 117, 118, 119, 120, 121, 122, 123, 124, 103, 104, 105] (by decide +kernel) (by decide +kernel)
set_option maxRecDepth 20000 in
theorem gX8_looked_X8_growsAs : GoodIn wsX8_looked (wsV RX8 245 RX8 yX8_growsAs wsX8_growsAs) := goodIn_app (goodIn_of _ (by decide +kernel)) ggX8_looked_X8_growsAs
set_option maxRecDepth 20000 in
theorem ggX8_looked_X8_manyOrLeast : GoodIn wsX8_looked wsX8_manyOrLeast := goodIn_r _ [91, 13, 14, 15, 8, 16, 17, 18, 10, 11, 12, 92, 93, 94, 95, 96, 97, 98, 99, 100, 101, 102] (by decide +kernel) (by decide +kernel)
set_option maxRecDepth 20000 in
theorem gX8_looked_X8_manyOrLeast : GoodIn wsX8_looked (wsV RX8 231 RX8 yX8_manyOrLeast wsX8_manyOrLeast) := goodIn_app (goodIn_of _ (by decide +kernel)) ggX8_looked_X8_manyOrLeast
theorem dX8_looked_0 : decode cX8_looked 0 = .ok (.iload_n 1, 1) := by decide +kernel
theorem dX8_looked_1 : decode cX8_looked 1 = .ok (.invokestatic 234, 3) := by decide +kernel
theorem dX8_looked_4 : decode cX8_looked 4 = .ok (.ifCond .eq 12, 3) := by decide +kernel
theorem dX8_looked_7 : decode cX8_looked 7 = .ok (.iload_n 2, 1) := by decide +kernel
theorem dX8_looked_8 : decode cX8_looked 8 = .ok (.iconst 0, 1) := by decide +kernel
theorem dX8_looked_9 : decode cX8_looked 9 = .ok (.iconst 1, 1) := by decide +kernel
theorem dX8_looked_10 : decode cX8_looked 10 = .ok (.invokestatic 60, 3) := by decide +kernel
theorem dX8_looked_13 : decode cX8_looked 13 = .ok (.ifCond .ne 9, 3) := by decide +kernel
theorem dX8_looked_16 : decode cX8_looked 16 = .ok (.aload_n 0, 1) := by decide +kernel
theorem dX8_looked_17 : decode cX8_looked 17 = .ok (.iconst 1, 1) := by decide +kernel
theorem dX8_looked_18 : decode cX8_looked 18 = .ok (.invokevirtual 64, 3) := by decide +kernel
theorem dX8_looked_21 : decode cX8_looked 21 = .ok (.ireturn, 1) := by decide +kernel
theorem dX8_looked_22 : decode cX8_looked 22 = .ok (.aload_n 0, 1) := by decide +kernel
theorem dX8_looked_23 : decode cX8_looked 23 = .ok (.getfield 45, 3) := by decide +kernel
theorem dX8_looked_26 : decode cX8_looked 26 = .ok (.iload_n 1, 1) := by decide +kernel
theorem dX8_looked_27 : decode cX8_looked 27 = .ok (.aaload, 1) := by decide +kernel
theorem dX8_looked_28 : decode cX8_looked 28 = .ok (.invokevirtual 237, 3) := by decide +kernel
theorem dX8_looked_31 : decode cX8_looked 31 = .ok (.ifCond .ne 22, 3) := by decide +kernel
theorem dX8_looked_34 : decode cX8_looked 34 = .ok (.aload_n 0, 1) := by decide +kernel
theorem dX8_looked_35 : decode cX8_looked 35 = .ok (.getfield 45, 3) := by decide +kernel
theorem dX8_looked_38 : decode cX8_looked 38 = .ok (.iload_n 1, 1) := by decide +kernel
theorem dX8_looked_39 : decode cX8_looked 39 = .ok (.aaload, 1) := by decide +kernel
theorem dX8_looked_40 : decode cX8_looked 40 = .ok (.getfield 241, 3) := by decide +kernel
theorem dX8_looked_43 : decode cX8_looked 43 = .ok (.aload_n 0, 1) := by decide +kernel
theorem dX8_looked_44 : decode cX8_looked 44 = .ok (.getfield 10, 3) := by decide +kernel
theorem dX8_looked_47 : decode cX8_looked 47 = .ok (.getfield 72, 3) := by decide +kernel
theorem dX8_looked_50 : decode cX8_looked 50 = .ok (.if_icmp .eq 9, 3) := by decide +kernel
theorem dX8_looked_53 : decode cX8_looked 53 = .ok (.aload_n 0, 1) := by decide +kernel
theorem dX8_looked_54 : decode cX8_looked 54 = .ok (.iconst 2, 1) := by decide +kernel
theorem dX8_looked_55 : decode cX8_looked 55 = .ok (.invokevirtual 64, 3) := by decide +kernel
theorem dX8_looked_58 : decode cX8_looked 58 = .ok (.ireturn, 1) := by decide +kernel
theorem dX8_looked_59 : decode cX8_looked 59 = .ok (.aload_n 0, 1) := by decide +kernel
theorem dX8_looked_60 : decode cX8_looked 60 = .ok (.invokevirtual 242, 3) := by decide +kernel
theorem dX8_looked_63 : decode cX8_looked 63 = .ok (.iconst 0, 1) := by decide +kernel
theorem dX8_looked_64 : decode cX8_looked 64 = .ok (.istore_n 3, 1) := by decide +kernel
theorem dX8_looked_65 : decode cX8_looked 65 = .ok (.iconst (-1), 1) := by decide +kernel
theorem dX8_looked_66 : decode cX8_looked 66 = .ok (.istore 4, 2) := by decide +kernel
theorem dX8_looked_68 : decode cX8_looked 68 = .ok (.iconst 1, 1) := by decide +kernel
theorem dX8_looked_69 : decode cX8_looked 69 = .ok (.aload_n 0, 1) := by decide +kernel
theorem dX8_looked_70 : decode cX8_looked 70 = .ok (.getfield 10, 3) := by decide +kernel
theorem dX8_looked_73 : decode cX8_looked 73 = .ok (.getfield 68, 3) := by decide +kernel
theorem dX8_looked_76 : decode cX8_looked 76 = .ok (.ishl, 1) := by decide +kernel
theorem dX8_looked_77 : decode cX8_looked 77 = .ok (.iconst 1, 1) := by decide +kernel
theorem dX8_looked_78 : decode cX8_looked 78 = .ok (.isub, 1) := by decide +kernel
theorem dX8_looked_79 : decode cX8_looked 79 = .ok (.istore 5, 2) := by decide +kernel
theorem dX8_looked_81 : decode cX8_looked 81 = .ok (.iload 5, 2) := by decide +kernel
theorem dX8_looked_83 : decode cX8_looked 83 = .ok (.ifCond .lt 31, 3) := by decide +kernel
theorem dX8_looked_86 : decode cX8_looked 86 = .ok (.aload_n 0, 1) := by decide +kernel
theorem dX8_looked_87 : decode cX8_looked 87 = .ok (.iload 5, 2) := by decide +kernel
theorem dX8_looked_89 : decode cX8_looked 89 = .ok (.aload_n 0, 1) := by decide +kernel
theorem dX8_looked_90 : decode cX8_looked 90 = .ok (.getfield 45, 3) := by decide +kernel
theorem dX8_looked_93 : decode cX8_looked 93 = .ok (.iload_n 1, 1) := by decide +kernel
theorem dX8_looked_94 : decode cX8_looked 94 = .ok (.aaload, 1) := by decide +kernel
theorem dX8_looked_95 : decode cX8_looked 95 = .ok (.invokevirtual 245, 3) := by decide +kernel
theorem dX8_looked_98 : decode cX8_looked 98 = .ok (.ifCond .eq 10, 3) := by decide +kernel
theorem dX8_looked_101 : decode cX8_looked 101 = .ok (.iinc 3 1, 3) := by decide +kernel
theorem dX8_looked_104 : decode cX8_looked 104 = .ok (.iload 5, 2) := by decide +kernel
theorem dX8_looked_106 : decode cX8_looked 106 = .ok (.istore 4, 2) := by decide +kernel
theorem dX8_looked_108 : decode cX8_looked 108 = .ok (.iinc 5 (-1), 3) := by decide +kernel
theorem dX8_looked_111 : decode cX8_looked 111 = .ok (.goto (-30), 3) := by decide +kernel
theorem dX8_looked_114 : decode cX8_looked 114 = .ok (.aload_n 0, 1) := by decide +kernel
theorem dX8_looked_115 : decode cX8_looked 115 = .ok (.iload_n 2, 1) := by decide +kernel
theorem dX8_looked_116 : decode cX8_looked 116 = .ok (.iload_n 3, 1) := by decide +kernel
theorem dX8_looked_117 : decode cX8_looked 117 = .ok (.iload 4, 2) := by decide +kernel
theorem dX8_looked_119 : decode cX8_looked 119 = .ok (.invokevirtual 231, 3) := by decide +kernel
theorem dX8_looked_122 : decode cX8_looked 122 = .ok (.ireturn, 1) := by decide +kernel
set_option maxRecDepth 20000 in
theorem ggX8_manyOrLeast_X8_error : GoodIn wsX8_manyOrLeast wsX8_error := goodIn_r _ [5, 6, 7, 8, 9, 4, 10, 11, 12, 13, 14, 15, 16, 17, 18, 19, 20, 21] (by decide +kernel) (by decide +kernel)
set_option maxRecDepth 20000 in
theorem gX8_manyOrLeast_X8_error : GoodIn wsX8_manyOrLeast (wsV RX8 64 RX8 yX8_error wsX8_error) := goodIn_app (goodIn_of _ (by decide +kernel)) ggX8_manyOrLeast_X8_error
theorem dX8_manyOrLeast_0 : decode cX8_manyOrLeast 0 = .ok (.iload_n 1, 1) := by decide +kernel
theorem dX8_manyOrLeast_1 : decode cX8_manyOrLeast 1 = .ok (.ifCond .ne 5, 3) := by decide +kernel
theorem dX8_manyOrLeast_4 : decode cX8_manyOrLeast 4 = .ok (.iload_n 2, 1) := by decide +kernel
theorem dX8_manyOrLeast_5 : decode cX8_manyOrLeast 5 = .ok (.ireturn, 1) := by decide +kernel
theorem dX8_manyOrLeast_6 : decode cX8_manyOrLeast 6 = .ok (.iload_n 3, 1) := by decide +kernel
theorem dX8_manyOrLeast_7 : decode cX8_manyOrLeast 7 = .ok (.ifCond .ge 11, 3) := by decide +kernel
theorem dX8_manyOrLeast_10 : decode cX8_manyOrLeast 10 = .ok (.aload_n 0, 1) := by decide +kernel
theorem dX8_manyOrLeast_11 : decode cX8_manyOrLeast 11 = .ok (.iconst 2, 1) := by decide +kernel
theorem dX8_manyOrLeast_12 : decode cX8_manyOrLeast 12 = .ok (.invokevirtual 64, 3) := by decide +kernel
theorem dX8_manyOrLeast_15 : decode cX8_manyOrLeast 15 = .ok (.goto 4, 3) := by decide +kernel
theorem dX8_manyOrLeast_18 : decode cX8_manyOrLeast 18 = .ok (.iload_n 3, 1) := by decide +kernel
theorem dX8_manyOrLeast_19 : decode cX8_manyOrLeast 19 = .ok (.ireturn, 1) := by decide +kernel
set_option maxRecDepth 20000 in
theorem ggX8_growsAs_X8_has : GoodIn wsX8_growsAs wsX8_has := goodIn_r _ [12] (by decide +kernel) (by decide +kernel)
set_option maxRecDepth 20000 in
theorem gX8_growsAs_X8_has : GoodIn wsX8_growsAs (va_wsS RX8 249 yX8_has wsX8_has) := goodIn_app (goodIn_of _ (by decide +kernel)) ggX8_growsAs_X8_has
set_option maxRecDepth 20000 in
theorem ggX8_growsAs_X1_countsOf : GoodIn wsX8_growsAs wsX1_countsOf := goodIn_r _ [16] (by decide +kernel) (by decide +kernel)
set_option maxRecDepth 20000 in
theorem gX8_growsAs_X1_countsOf : GoodIn wsX8_growsAs (va_wsS RX8 136 yX1_countsOf wsX1_countsOf) := goodIn_app (goodIn_of _ (by decide +kernel)) ggX8_growsAs_X1_countsOf
theorem dX8_growsAs_0 : decode cX8_growsAs 0 = .ok (.iconst 0, 1) := by decide +kernel
theorem dX8_growsAs_1 : decode cX8_growsAs 1 = .ok (.istore_n 3, 1) := by decide +kernel
theorem dX8_growsAs_2 : decode cX8_growsAs 2 = .ok (.iload_n 3, 1) := by decide +kernel
theorem dX8_growsAs_3 : decode cX8_growsAs 3 = .ok (.aload_n 0, 1) := by decide +kernel
theorem dX8_growsAs_4 : decode cX8_growsAs 4 = .ok (.getfield 10, 3) := by decide +kernel
theorem dX8_growsAs_7 : decode cX8_growsAs 7 = .ok (.getfield 72, 3) := by decide +kernel
theorem dX8_growsAs_10 : decode cX8_growsAs 10 = .ok (.if_icmp .ge 117, 3) := by decide +kernel
theorem dX8_growsAs_13 : decode cX8_growsAs 13 = .ok (.iload_n 3, 1) := by decide +kernel
theorem dX8_growsAs_14 : decode cX8_growsAs 14 = .ok (.aload_n 2, 1) := by decide +kernel
theorem dX8_growsAs_15 : decode cX8_growsAs 15 = .ok (.getfield 241, 3) := by decide +kernel
theorem dX8_growsAs_18 : decode cX8_growsAs 18 = .ok (.if_icmp .ge 109, 3) := by decide +kernel
theorem dX8_growsAs_21 : decode cX8_growsAs 21 = .ok (.iconst 0, 1) := by decide +kernel
theorem dX8_growsAs_22 : decode cX8_growsAs 22 = .ok (.istore 4, 2) := by decide +kernel
theorem dX8_growsAs_24 : decode cX8_growsAs 24 = .ok (.iconst 0, 1) := by decide +kernel
theorem dX8_growsAs_25 : decode cX8_growsAs 25 = .ok (.istore 5, 2) := by decide +kernel
theorem dX8_growsAs_27 : decode cX8_growsAs 27 = .ok (.iload 5, 2) := by decide +kernel
theorem dX8_growsAs_29 : decode cX8_growsAs 29 = .ok (.aload_n 0, 1) := by decide +kernel
theorem dX8_growsAs_30 : decode cX8_growsAs 30 = .ok (.getfield 10, 3) := by decide +kernel
theorem dX8_growsAs_33 : decode cX8_growsAs 33 = .ok (.getfield 68, 3) := by decide +kernel
theorem dX8_growsAs_36 : decode cX8_growsAs 36 = .ok (.if_icmp .ge 70, 3) := by decide +kernel
theorem dX8_growsAs_39 : decode cX8_growsAs 39 = .ok (.iload 5, 2) := by decide +kernel
theorem dX8_growsAs_41 : decode cX8_growsAs 41 = .ok (.aload_n 0, 1) := by decide +kernel
theorem dX8_growsAs_42 : decode cX8_growsAs 42 = .ok (.getfield 54, 3) := by decide +kernel
theorem dX8_growsAs_45 : decode cX8_growsAs 45 = .ok (.arraylength, 1) := by decide +kernel
theorem dX8_growsAs_46 : decode cX8_growsAs 46 = .ok (.if_icmp .ge 60, 3) := by decide +kernel
theorem dX8_growsAs_49 : decode cX8_growsAs 49 = .ok (.iload_n 1, 1) := by decide +kernel
theorem dX8_growsAs_50 : decode cX8_growsAs 50 = .ok (.iload 5, 2) := by decide +kernel
theorem dX8_growsAs_52 : decode cX8_growsAs 52 = .ok (.invokestatic 249, 3) := by decide +kernel
theorem dX8_growsAs_55 : decode cX8_growsAs 55 = .ok (.ifCond .eq 45, 3) := by decide +kernel
theorem dX8_growsAs_58 : decode cX8_growsAs 58 = .ok (.aload_n 0, 1) := by decide +kernel
theorem dX8_growsAs_59 : decode cX8_growsAs 59 = .ok (.getfield 54, 3) := by decide +kernel
theorem dX8_growsAs_62 : decode cX8_growsAs 62 = .ok (.iload 5, 2) := by decide +kernel
theorem dX8_growsAs_64 : decode cX8_growsAs 64 = .ok (.iaload, 1) := by decide +kernel
theorem dX8_growsAs_65 : decode cX8_growsAs 65 = .ok (.iload_n 3, 1) := by decide +kernel
theorem dX8_growsAs_66 : decode cX8_growsAs 66 = .ok (.invokestatic 249, 3) := by decide +kernel
theorem dX8_growsAs_69 : decode cX8_growsAs 69 = .ok (.ifCond .eq 31, 3) := by decide +kernel
theorem dX8_growsAs_72 : decode cX8_growsAs 72 = .ok (.iload 4, 2) := by decide +kernel
theorem dX8_growsAs_74 : decode cX8_growsAs 74 = .ok (.aload_n 0, 1) := by decide +kernel
theorem dX8_growsAs_75 : decode cX8_growsAs 75 = .ok (.getfield 10, 3) := by decide +kernel
theorem dX8_growsAs_78 : decode cX8_growsAs 78 = .ok (.getfield 118, 3) := by decide +kernel
theorem dX8_growsAs_81 : decode cX8_growsAs 81 = .ok (.iload 5, 2) := by decide +kernel
theorem dX8_growsAs_83 : decode cX8_growsAs 83 = .ok (.iaload, 1) := by decide +kernel
theorem dX8_growsAs_84 : decode cX8_growsAs 84 = .ok (.aload_n 0, 1) := by decide +kernel
theorem dX8_growsAs_85 : decode cX8_growsAs 85 = .ok (.getfield 10, 3) := by decide +kernel
theorem dX8_growsAs_88 : decode cX8_growsAs 88 = .ok (.getfield 121, 3) := by decide +kernel
theorem dX8_growsAs_91 : decode cX8_growsAs 91 = .ok (.iload 5, 2) := by decide +kernel
theorem dX8_growsAs_93 : decode cX8_growsAs 93 = .ok (.iaload, 1) := by decide +kernel
theorem dX8_growsAs_94 : decode cX8_growsAs 94 = .ok (.invokestatic 136, 3) := by decide +kernel
theorem dX8_growsAs_97 : decode cX8_growsAs 97 = .ok (.iadd, 1) := by decide +kernel
theorem dX8_growsAs_98 : decode cX8_growsAs 98 = .ok (.istore 4, 2) := by decide +kernel
theorem dX8_growsAs_100 : decode cX8_growsAs 100 = .ok (.iinc 5 1, 3) := by decide +kernel
theorem dX8_growsAs_103 : decode cX8_growsAs 103 = .ok (.goto (-76), 3) := by decide +kernel
theorem dX8_growsAs_106 : decode cX8_growsAs 106 = .ok (.iload 4, 2) := by decide +kernel
theorem dX8_growsAs_108 : decode cX8_growsAs 108 = .ok (.iconst 2, 1) := by decide +kernel
theorem dX8_growsAs_109 : decode cX8_growsAs 109 = .ok (.idiv, 1) := by decide +kernel
theorem dX8_growsAs_110 : decode cX8_growsAs 110 = .ok (.aload_n 2, 1) := by decide +kernel
theorem dX8_growsAs_111 : decode cX8_growsAs 111 = .ok (.getfield 252, 3) := by decide +kernel
theorem dX8_growsAs_114 : decode cX8_growsAs 114 = .ok (.iload_n 3, 1) := by decide +kernel
theorem dX8_growsAs_115 : decode cX8_growsAs 115 = .ok (.iaload, 1) := by decide +kernel
theorem dX8_growsAs_116 : decode cX8_growsAs 116 = .ok (.if_icmp .eq 5, 3) := by decide +kernel
theorem dX8_growsAs_119 : decode cX8_growsAs 119 = .ok (.iconst 0, 1) := by decide +kernel
theorem dX8_growsAs_120 : decode cX8_growsAs 120 = .ok (.ireturn, 1) := by decide +kernel
theorem dX8_growsAs_121 : decode cX8_growsAs 121 = .ok (.iinc 3 1, 3) := by decide +kernel
theorem dX8_growsAs_124 : decode cX8_growsAs 124 = .ok (.goto (-122), 3) := by decide +kernel
theorem dX8_growsAs_127 : decode cX8_growsAs 127 = .ok (.iconst 1, 1) := by decide +kernel
theorem dX8_growsAs_128 : decode cX8_growsAs 128 = .ok (.ireturn, 1) := by decide +kernel
set_option maxRecDepth 20000 in
theorem ggX8_lookAround_X0_seenBy : GoodIn wsX8_lookAround wsX0_seenBy := goodIn_r _ [8, 9, 10, 11, 12, 13, 14, 15, 7, 16, 17, 18, 19, 20, 21, 22, 23, 24, 25, 26, 27, 28, 29, 30, 31, 32, 33, 34, 35, 36, 37, 38, 39, 40, 41, 42, 43, 44, 45, 46, 47, 48, 49, 50, 51, 63, 64, 65, 66, 67, 68, 69, 70, 71, 72, 73, 74, 75, 76, 77, 78, 79, 80, 81, 82, 83] (by decide +kernel) (by decide +kernel)
set_option maxRecDepth 20000 in
theorem gX8_lookAround_X0_seenBy : GoodIn wsX8_lookAround (wsV RX8 145 RX0 yX0_seenBy wsX0_seenBy) := goodIn_app (goodIn_of _ (by decide +kernel)) ggX8_lookAround_X0_seenBy
theorem dX8_lookAround_0 : decode cX8_lookAround 0 = .ok (.iconst 0, 1) := by decide +kernel
theorem dX8_lookAround_1 : decode cX8_lookAround 1 = .ok (.istore_n 1, 1) := by decide +kernel
theorem dX8_lookAround_2 : decode cX8_lookAround 2 = .ok (.iload_n 1, 1) := by decide +kernel
theorem dX8_lookAround_3 : decode cX8_lookAround 3 = .ok (.aload_n 0, 1) := by decide +kernel
theorem dX8_lookAround_4 : decode cX8_lookAround 4 = .ok (.getfield 10, 3) := by decide +kernel
theorem dX8_lookAround_7 : decode cX8_lookAround 7 = .ok (.getfield 68, 3) := by decide +kernel
theorem dX8_lookAround_10 : decode cX8_lookAround 10 = .ok (.if_icmp .ge 32, 3) := by decide +kernel
theorem dX8_lookAround_13 : decode cX8_lookAround 13 = .ok (.iload_n 1, 1) := by decide +kernel
theorem dX8_lookAround_14 : decode cX8_lookAround 14 = .ok (.aload_n 0, 1) := by decide +kernel
theorem dX8_lookAround_15 : decode cX8_lookAround 15 = .ok (.getfield 54, 3) := by decide +kernel
theorem dX8_lookAround_18 : decode cX8_lookAround 18 = .ok (.arraylength, 1) := by decide +kernel
theorem dX8_lookAround_19 : decode cX8_lookAround 19 = .ok (.if_icmp .ge 23, 3) := by decide +kernel
theorem dX8_lookAround_22 : decode cX8_lookAround 22 = .ok (.aload_n 0, 1) := by decide +kernel
theorem dX8_lookAround_23 : decode cX8_lookAround 23 = .ok (.getfield 54, 3) := by decide +kernel
theorem dX8_lookAround_26 : decode cX8_lookAround 26 = .ok (.iload_n 1, 1) := by decide +kernel
theorem dX8_lookAround_27 : decode cX8_lookAround 27 = .ok (.aload_n 0, 1) := by decide +kernel
theorem dX8_lookAround_28 : decode cX8_lookAround 28 = .ok (.getfield 10, 3) := by decide +kernel
theorem dX8_lookAround_31 : decode cX8_lookAround 31 = .ok (.iload_n 1, 1) := by decide +kernel
theorem dX8_lookAround_32 : decode cX8_lookAround 32 = .ok (.invokevirtual 145, 3) := by decide +kernel
theorem dX8_lookAround_35 : decode cX8_lookAround 35 = .ok (.iastore, 1) := by decide +kernel
theorem dX8_lookAround_36 : decode cX8_lookAround 36 = .ok (.iinc 1 1, 3) := by decide +kernel
theorem dX8_lookAround_39 : decode cX8_lookAround 39 = .ok (.goto (-37), 3) := by decide +kernel
theorem dX8_lookAround_42 : decode cX8_lookAround 42 = .ok (.return_, 1) := by decide +kernel
set_option maxRecDepth 20000 in
theorem ggX8_watch_X8_lookAround : GoodIn wsX8_watch wsX8_lookAround := goodIn_r _ [8, 1, 3, 9, 10, 11, 12, 13, 14, 15, 16, 17, 18, 19, 20, 21, 22, 23, 24, 25, 26, 27, 28, 29, 30, 31, 32, 33, 34, 35, 36, 37, 38, 39, 40, 7, 41, 42, 43, 44, 45, 46, 47, 48, 49, 50, 51, 52, 53, 54, 55, 56, 81, 82, 83, 84, 85, 86, 87, 88, 89, 90, 91, 92, 93, 94, 95, 96, 97, 98, 99, 100, 101, 102, 103, 104, 105, 106, 107, 108, 109, 110, 111, 112] (by decide +kernel) (by decide +kernel)
set_option maxRecDepth 20000 in
theorem gX8_watch_X8_lookAround : GoodIn wsX8_watch (wsV RX8 242 RX8 yX8_lookAround wsX8_lookAround) := goodIn_app (goodIn_of _ (by decide +kernel)) ggX8_watch_X8_lookAround
set_option maxRecDepth 20000 in
theorem ggX8_watch_X8_isFewer : GoodIn wsX8_watch wsX8_isFewer := goodIn_r _ [59, 60, 61, 62, 63, 64, 65, 66] (by decide +kernel) (by decide +kernel)
set_option maxRecDepth 20000 in
theorem gX8_watch_X8_isFewer : GoodIn wsX8_watch (va_wsS RX8 255 yX8_isFewer wsX8_isFewer) := goodIn_app (goodIn_of _ (by decide +kernel)) ggX8_watch_X8_isFewer
set_option maxRecDepth 20000 in
theorem ggX8_watch_X8_seenTogether : GoodIn wsX8_watch wsX8_seenTogether := goodIn_r _ [70, 1, 3, 9, 71, 51, 7, 52, 81, 82, 83, 84, 85, 86, 87, 88, 89, 90, 91, 92, 93, 94, 95, 96, 97, 98, 99, 100, 101, 102, 103, 104, 105, 106, 107, 108, 109, 110] (by decide +kernel) (by decide +kernel)
set_option maxRecDepth 20000 in
theorem gX8_watch_X8_seenTogether : GoodIn wsX8_watch (wsV RX8 258 RX8 yX8_seenTogether wsX8_seenTogether) := goodIn_app (goodIn_of _ (by decide +kernel)) ggX8_watch_X8_seenTogether
set_option maxRecDepth 20000 in
theorem ggX8_watch_X8_error : GoodIn wsX8_watch wsX8_error := goodIn_r _ [75, 76, 77, 78, 79, 7, 80, 81, 82, 83, 84, 85, 86, 87, 88, 89, 90, 91] (by decide +kernel) (by decide +kernel)
set_option maxRecDepth 20000 in
theorem gX8_watch_X8_error : GoodIn wsX8_watch (wsV RX8 64 RX8 yX8_error wsX8_error) := goodIn_app (goodIn_of _ (by decide +kernel)) ggX8_watch_X8_error
theorem dX8_watch_0 : decode cX8_watch 0 = .ok (.aload_n 0, 1) := by decide +kernel
theorem dX8_watch_1 : decode cX8_watch 1 = .ok (.invokevirtual 242, 3) := by decide +kernel
theorem dX8_watch_4 : decode cX8_watch 4 = .ok (.iconst 1, 1) := by decide +kernel
theorem dX8_watch_5 : decode cX8_watch 5 = .ok (.aload_n 0, 1) := by decide +kernel
theorem dX8_watch_6 : decode cX8_watch 6 = .ok (.getfield 10, 3) := by decide +kernel
theorem dX8_watch_9 : decode cX8_watch 9 = .ok (.getfield 72, 3) := by decide +kernel
theorem dX8_watch_12 : decode cX8_watch 12 = .ok (.ishl, 1) := by decide +kernel
theorem dX8_watch_13 : decode cX8_watch 13 = .ok (.iconst 1, 1) := by decide +kernel
theorem dX8_watch_14 : decode cX8_watch 14 = .ok (.isub, 1) := by decide +kernel
theorem dX8_watch_15 : decode cX8_watch 15 = .ok (.istore_n 1, 1) := by decide +kernel
theorem dX8_watch_16 : decode cX8_watch 16 = .ok (.iconst (-1), 1) := by decide +kernel
theorem dX8_watch_17 : decode cX8_watch 17 = .ok (.istore_n 2, 1) := by decide +kernel
theorem dX8_watch_18 : decode cX8_watch 18 = .ok (.iconst 0, 1) := by decide +kernel
theorem dX8_watch_19 : decode cX8_watch 19 = .ok (.istore_n 3, 1) := by decide +kernel
theorem dX8_watch_20 : decode cX8_watch 20 = .ok (.iload_n 3, 1) := by decide +kernel
theorem dX8_watch_21 : decode cX8_watch 21 = .ok (.iconst 1, 1) := by decide +kernel
theorem dX8_watch_22 : decode cX8_watch 22 = .ok (.aload_n 0, 1) := by decide +kernel
theorem dX8_watch_23 : decode cX8_watch 23 = .ok (.getfield 10, 3) := by decide +kernel
theorem dX8_watch_26 : decode cX8_watch 26 = .ok (.getfield 68, 3) := by decide +kernel
theorem dX8_watch_29 : decode cX8_watch 29 = .ok (.ishl, 1) := by decide +kernel
theorem dX8_watch_30 : decode cX8_watch 30 = .ok (.if_icmp .ge 28, 3) := by decide +kernel
theorem dX8_watch_33 : decode cX8_watch 33 = .ok (.iload_n 3, 1) := by decide +kernel
theorem dX8_watch_34 : decode cX8_watch 34 = .ok (.iload_n 2, 1) := by decide +kernel
theorem dX8_watch_35 : decode cX8_watch 35 = .ok (.invokestatic 255, 3) := by decide +kernel
theorem dX8_watch_38 : decode cX8_watch 38 = .ok (.ifCond .eq 14, 3) := by decide +kernel
theorem dX8_watch_41 : decode cX8_watch 41 = .ok (.aload_n 0, 1) := by decide +kernel
theorem dX8_watch_42 : decode cX8_watch 42 = .ok (.iload_n 3, 1) := by decide +kernel
theorem dX8_watch_43 : decode cX8_watch 43 = .ok (.invokevirtual 258, 3) := by decide +kernel
theorem dX8_watch_46 : decode cX8_watch 46 = .ok (.iload_n 1, 1) := by decide +kernel
theorem dX8_watch_47 : decode cX8_watch 47 = .ok (.if_icmp .ne 5, 3) := by decide +kernel
theorem dX8_watch_50 : decode cX8_watch 50 = .ok (.iload_n 3, 1) := by decide +kernel
theorem dX8_watch_51 : decode cX8_watch 51 = .ok (.istore_n 2, 1) := by decide +kernel
theorem dX8_watch_52 : decode cX8_watch 52 = .ok (.iinc 3 1, 3) := by decide +kernel
theorem dX8_watch_55 : decode cX8_watch 55 = .ok (.goto (-35), 3) := by decide +kernel
theorem dX8_watch_58 : decode cX8_watch 58 = .ok (.iload_n 2, 1) := by decide +kernel
theorem dX8_watch_59 : decode cX8_watch 59 = .ok (.ifCond .ge 11, 3) := by decide +kernel
theorem dX8_watch_62 : decode cX8_watch 62 = .ok (.aload_n 0, 1) := by decide +kernel
theorem dX8_watch_63 : decode cX8_watch 63 = .ok (.iconst 2, 1) := by decide +kernel
theorem dX8_watch_64 : decode cX8_watch 64 = .ok (.invokevirtual 64, 3) := by decide +kernel
theorem dX8_watch_67 : decode cX8_watch 67 = .ok (.goto 4, 3) := by decide +kernel
theorem dX8_watch_70 : decode cX8_watch 70 = .ok (.iload_n 2, 1) := by decide +kernel
theorem dX8_watch_71 : decode cX8_watch 71 = .ok (.ireturn, 1) := by decide +kernel
set_option maxRecDepth 20000 in
theorem ggX8_seenTogether_X8_has : GoodIn wsX8_seenTogether wsX8_has := goodIn_r _ [7] (by decide +kernel) (by decide +kernel)
set_option maxRecDepth 20000 in
theorem gX8_seenTogether_X8_has : GoodIn wsX8_seenTogether (va_wsS RX8 249 yX8_has wsX8_has) := goodIn_app (goodIn_of _ (by decide +kernel)) ggX8_seenTogether_X8_has
theorem dX8_seenTogether_0 : decode cX8_seenTogether 0 = .ok (.iconst 0, 1) := by decide +kernel
theorem dX8_seenTogether_1 : decode cX8_seenTogether 1 = .ok (.istore_n 2, 1) := by decide +kernel
theorem dX8_seenTogether_2 : decode cX8_seenTogether 2 = .ok (.iconst 0, 1) := by decide +kernel
theorem dX8_seenTogether_3 : decode cX8_seenTogether 3 = .ok (.istore_n 3, 1) := by decide +kernel
theorem dX8_seenTogether_4 : decode cX8_seenTogether 4 = .ok (.iload_n 3, 1) := by decide +kernel
theorem dX8_seenTogether_5 : decode cX8_seenTogether 5 = .ok (.aload_n 0, 1) := by decide +kernel
theorem dX8_seenTogether_6 : decode cX8_seenTogether 6 = .ok (.getfield 10, 3) := by decide +kernel
theorem dX8_seenTogether_9 : decode cX8_seenTogether 9 = .ok (.getfield 68, 3) := by decide +kernel
theorem dX8_seenTogether_12 : decode cX8_seenTogether 12 = .ok (.if_icmp .ge 35, 3) := by decide +kernel
theorem dX8_seenTogether_15 : decode cX8_seenTogether 15 = .ok (.iload_n 3, 1) := by decide +kernel
theorem dX8_seenTogether_16 : decode cX8_seenTogether 16 = .ok (.aload_n 0, 1) := by decide +kernel
theorem dX8_seenTogether_17 : decode cX8_seenTogether 17 = .ok (.getfield 54, 3) := by decide +kernel
theorem dX8_seenTogether_20 : decode cX8_seenTogether 20 = .ok (.arraylength, 1) := by decide +kernel
theorem dX8_seenTogether_21 : decode cX8_seenTogether 21 = .ok (.if_icmp .ge 26, 3) := by decide +kernel
theorem dX8_seenTogether_24 : decode cX8_seenTogether 24 = .ok (.iload_n 1, 1) := by decide +kernel
theorem dX8_seenTogether_25 : decode cX8_seenTogether 25 = .ok (.iload_n 3, 1) := by decide +kernel
theorem dX8_seenTogether_26 : decode cX8_seenTogether 26 = .ok (.invokestatic 249, 3) := by decide +kernel
theorem dX8_seenTogether_29 : decode cX8_seenTogether 29 = .ok (.ifCond .eq 12, 3) := by decide +kernel
theorem dX8_seenTogether_32 : decode cX8_seenTogether 32 = .ok (.iload_n 2, 1) := by decide +kernel
theorem dX8_seenTogether_33 : decode cX8_seenTogether 33 = .ok (.aload_n 0, 1) := by decide +kernel
theorem dX8_seenTogether_34 : decode cX8_seenTogether 34 = .ok (.getfield 54, 3) := by decide +kernel
theorem dX8_seenTogether_37 : decode cX8_seenTogether 37 = .ok (.iload_n 3, 1) := by decide +kernel
theorem dX8_seenTogether_38 : decode cX8_seenTogether 38 = .ok (.iaload, 1) := by decide +kernel
theorem dX8_seenTogether_39 : decode cX8_seenTogether 39 = .ok (.ior, 1) := by decide +kernel
theorem dX8_seenTogether_40 : decode cX8_seenTogether 40 = .ok (.istore_n 2, 1) := by decide +kernel
theorem dX8_seenTogether_41 : decode cX8_seenTogether 41 = .ok (.iinc 3 1, 3) := by decide +kernel
theorem dX8_seenTogether_44 : decode cX8_seenTogether 44 = .ok (.goto (-40), 3) := by decide +kernel
theorem dX8_seenTogether_47 : decode cX8_seenTogether 47 = .ok (.iload_n 2, 1) := by decide +kernel
theorem dX8_seenTogether_48 : decode cX8_seenTogether 48 = .ok (.ireturn, 1) := by decide +kernel
set_option maxRecDepth 20000 in
theorem ggX8_hide_X8_isCell : GoodIn wsX8_hide wsX8_isCell := goodIn_r _ [10, 1, 3, 11, 12, 9, 13, 81, 82, 83, 84, 85, 86, 87, 88, 89, 90, 91, 92, 93, 94, 95, 96, 97, 98, 99, 100, 101, 102, 103, 104, 105, 106, 107, 108, 109, 110] (by decide +kernel) (by decide +kernel)
set_option maxRecDepth 20000 in
theorem gX8_hide_X8_isCell : GoodIn wsX8_hide (wsV RX8 79 RX8 yX8_isCell wsX8_isCell) := goodIn_app (goodIn_of _ (by decide +kernel)) ggX8_hide_X8_isCell
set_option maxRecDepth 20000 in
theorem ggX8_hide_X8_error : GoodIn wsX8_hide wsX8_error := goodIn_r _ [17, 18, 19, 11, 12, 9, 13, 81, 82, 83, 84, 85, 86, 87, 88, 89, 90, 91] (by decide +kernel) (by decide +kernel)
set_option maxRecDepth 20000 in
theorem gX8_hide_X8_error : GoodIn wsX8_hide (wsV RX8 64 RX8 yX8_error wsX8_error) := goodIn_app (goodIn_of _ (by decide +kernel)) ggX8_hide_X8_error
set_option maxRecDepth 20000 in
theorem ggX8_hide_X8_measureReaches : GoodIn wsX8_hide wsX8_measureReaches := goodIn_r _ [23, 1, 24, 4, 25, 26, 27, 28, 29, 30, 31, 32, 33, 34, 35, 36, 37, 38, 39, 40, 41, 42, 43, 44, 45, 46, 47, 48, 9, 49, 50, 51, 52, 53, 81, 82, 83, 84, 85, 86, 87, 88, 89, 90, 91, 92, 93, 94, 95, 96, 97, 98, 99, 100, 101, 102, 103, 104, 105, 106, 107, 108, 109, 110, 111, 112] (by decide +kernel) (by decide +kernel)
set_option maxRecDepth 20000 in
theorem gX8_hide_X8_measureReaches : GoodIn wsX8_hide (wsV RX8 261 RX8 yX8_measureReaches wsX8_measureReaches) := goodIn_app (goodIn_of _ (by decide +kernel)) ggX8_hide_X8_measureReaches
set_option maxRecDepth 20000 in
theorem ggX8_hide_X8_isFewer : GoodIn wsX8_hide wsX8_isFewer := goodIn_r _ [56, 57, 58, 59, 60, 61, 62, 63] (by decide +kernel) (by decide +kernel)
set_option maxRecDepth 20000 in
theorem gX8_hide_X8_isFewer : GoodIn wsX8_hide (va_wsS RX8 255 yX8_isFewer wsX8_isFewer) := goodIn_app (goodIn_of _ (by decide +kernel)) ggX8_hide_X8_isFewer
set_option maxRecDepth 20000 in
theorem ggX8_hide_X0_isSeen : GoodIn wsX8_hide wsX0_isSeen := goodIn_r _ [67, 68, 69, 70, 71, 72, 29, 73, 74, 31, 75, 9, 76, 77, 78, 79, 80, 92, 93, 94, 95, 96, 97, 98, 99, 100, 101, 102, 103, 104, 105, 106, 107, 108, 109, 110] (by decide +kernel) (by decide +kernel)
set_option maxRecDepth 20000 in
theorem gX8_hide_X0_isSeen : GoodIn wsX8_hide (wsV RX8 264 RX0 yX0_isSeen wsX0_isSeen) := goodIn_app (goodIn_of _ (by decide +kernel)) ggX8_hide_X0_isSeen
theorem dX8_hide_0 : decode cX8_hide 0 = .ok (.aload_n 0, 1) := by decide +kernel
theorem dX8_hide_1 : decode cX8_hide 1 = .ok (.iload_n 1, 1) := by decide +kernel
theorem dX8_hide_2 : decode cX8_hide 2 = .ok (.invokevirtual 79, 3) := by decide +kernel
theorem dX8_hide_5 : decode cX8_hide 5 = .ok (.ifCond .ne 9, 3) := by decide +kernel
theorem dX8_hide_8 : decode cX8_hide 8 = .ok (.aload_n 0, 1) := by decide +kernel
theorem dX8_hide_9 : decode cX8_hide 9 = .ok (.iconst 1, 1) := by decide +kernel
theorem dX8_hide_10 : decode cX8_hide 10 = .ok (.invokevirtual 64, 3) := by decide +kernel
theorem dX8_hide_13 : decode cX8_hide 13 = .ok (.ireturn, 1) := by decide +kernel
theorem dX8_hide_14 : decode cX8_hide 14 = .ok (.aload_n 0, 1) := by decide +kernel
theorem dX8_hide_15 : decode cX8_hide 15 = .ok (.aload_n 0, 1) := by decide +kernel
theorem dX8_hide_16 : decode cX8_hide 16 = .ok (.getfield 10, 3) := by decide +kernel
theorem dX8_hide_19 : decode cX8_hide 19 = .ok (.getfield 105, 3) := by decide +kernel
theorem dX8_hide_22 : decode cX8_hide 22 = .ok (.invokevirtual 261, 3) := by decide +kernel
theorem dX8_hide_25 : decode cX8_hide 25 = .ok (.iconst (-1), 1) := by decide +kernel
theorem dX8_hide_26 : decode cX8_hide 26 = .ok (.istore_n 2, 1) := by decide +kernel
theorem dX8_hide_27 : decode cX8_hide 27 = .ok (.iconst 0, 1) := by decide +kernel
theorem dX8_hide_28 : decode cX8_hide 28 = .ok (.istore_n 3, 1) := by decide +kernel
theorem dX8_hide_29 : decode cX8_hide 29 = .ok (.iload_n 3, 1) := by decide +kernel
theorem dX8_hide_30 : decode cX8_hide 30 = .ok (.iconst 1, 1) := by decide +kernel
theorem dX8_hide_31 : decode cX8_hide 31 = .ok (.aload_n 0, 1) := by decide +kernel
theorem dX8_hide_32 : decode cX8_hide 32 = .ok (.getfield 10, 3) := by decide +kernel
theorem dX8_hide_35 : decode cX8_hide 35 = .ok (.getfield 72, 3) := by decide +kernel
theorem dX8_hide_38 : decode cX8_hide 38 = .ok (.iconst 1, 1) := by decide +kernel
theorem dX8_hide_39 : decode cX8_hide 39 = .ok (.isub, 1) := by decide +kernel
theorem dX8_hide_40 : decode cX8_hide 40 = .ok (.ishl, 1) := by decide +kernel
theorem dX8_hide_41 : decode cX8_hide 41 = .ok (.if_icmp .ge 43, 3) := by decide +kernel
theorem dX8_hide_44 : decode cX8_hide 44 = .ok (.iload_n 3, 1) := by decide +kernel
theorem dX8_hide_45 : decode cX8_hide 45 = .ok (.iload_n 2, 1) := by decide +kernel
theorem dX8_hide_46 : decode cX8_hide 46 = .ok (.invokestatic 255, 3) := by decide +kernel
theorem dX8_hide_49 : decode cX8_hide 49 = .ok (.ifCond .eq 29, 3) := by decide +kernel
theorem dX8_hide_52 : decode cX8_hide 52 = .ok (.aload_n 0, 1) := by decide +kernel
theorem dX8_hide_53 : decode cX8_hide 53 = .ok (.getfield 10, 3) := by decide +kernel
theorem dX8_hide_56 : decode cX8_hide 56 = .ok (.iload_n 1, 1) := by decide +kernel
theorem dX8_hide_57 : decode cX8_hide 57 = .ok (.aload_n 0, 1) := by decide +kernel
theorem dX8_hide_58 : decode cX8_hide 58 = .ok (.getfield 50, 3) := by decide +kernel
theorem dX8_hide_61 : decode cX8_hide 61 = .ok (.aload_n 0, 1) := by decide +kernel
theorem dX8_hide_62 : decode cX8_hide 62 = .ok (.getfield 10, 3) := by decide +kernel
theorem dX8_hide_65 : decode cX8_hide 65 = .ok (.getfield 99, 3) := by decide +kernel
theorem dX8_hide_68 : decode cX8_hide 68 = .ok (.iload_n 3, 1) := by decide +kernel
theorem dX8_hide_69 : decode cX8_hide 69 = .ok (.ior, 1) := by decide +kernel
theorem dX8_hide_70 : decode cX8_hide 70 = .ok (.invokevirtual 264, 3) := by decide +kernel
theorem dX8_hide_73 : decode cX8_hide 73 = .ok (.ifCond .ne 5, 3) := by decide +kernel
theorem dX8_hide_76 : decode cX8_hide 76 = .ok (.iload_n 3, 1) := by decide +kernel
theorem dX8_hide_77 : decode cX8_hide 77 = .ok (.istore_n 2, 1) := by decide +kernel
theorem dX8_hide_78 : decode cX8_hide 78 = .ok (.iinc 3 1, 3) := by decide +kernel
theorem dX8_hide_81 : decode cX8_hide 81 = .ok (.goto (-52), 3) := by decide +kernel
theorem dX8_hide_84 : decode cX8_hide 84 = .ok (.iload_n 2, 1) := by decide +kernel
theorem dX8_hide_85 : decode cX8_hide 85 = .ok (.ifCond .ge 11, 3) := by decide +kernel
theorem dX8_hide_88 : decode cX8_hide 88 = .ok (.aload_n 0, 1) := by decide +kernel
theorem dX8_hide_89 : decode cX8_hide 89 = .ok (.iconst 2, 1) := by decide +kernel
theorem dX8_hide_90 : decode cX8_hide 90 = .ok (.invokevirtual 64, 3) := by decide +kernel
theorem dX8_hide_93 : decode cX8_hide 93 = .ok (.goto 4, 3) := by decide +kernel
theorem dX8_hide_96 : decode cX8_hide 96 = .ok (.iload_n 2, 1) := by decide +kernel
theorem dX8_hide_97 : decode cX8_hide 97 = .ok (.ireturn, 1) := by decide +kernel
set_option maxRecDepth 20000 in
theorem ggX8_isFewer_J6_bitCount_0f7a4 : GoodIn wsX8_isFewer wsJ6_bitCount_0f7a4 := goodIn_r _ [4, 5, 6, 7] (by decide +kernel) (by decide +kernel)
set_option maxRecDepth 20000 in
theorem gX8_isFewer_J6_bitCount_0f7a4 : GoodIn wsX8_isFewer (va_wsS RX8 268 yJ6_bitCount_0f7a4 wsJ6_bitCount_0f7a4) := goodIn_app (goodIn_of _ (by decide +kernel)) ggX8_isFewer_J6_bitCount_0f7a4
theorem dX8_isFewer_0 : decode cX8_isFewer 0 = .ok (.iload_n 1, 1) := by decide +kernel
theorem dX8_isFewer_1 : decode cX8_isFewer 1 = .ok (.ifCond .lt 14, 3) := by decide +kernel
theorem dX8_isFewer_4 : decode cX8_isFewer 4 = .ok (.iload_n 0, 1) := by decide +kernel
theorem dX8_isFewer_5 : decode cX8_isFewer 5 = .ok (.invokestatic 268, 3) := by decide +kernel
theorem dX8_isFewer_8 : decode cX8_isFewer 8 = .ok (.iload_n 1, 1) := by decide +kernel
theorem dX8_isFewer_9 : decode cX8_isFewer 9 = .ok (.invokestatic 268, 3) := by decide +kernel
theorem dX8_isFewer_12 : decode cX8_isFewer 12 = .ok (.if_icmp .ge 7, 3) := by decide +kernel
theorem dX8_isFewer_15 : decode cX8_isFewer 15 = .ok (.iconst 1, 1) := by decide +kernel
theorem dX8_isFewer_16 : decode cX8_isFewer 16 = .ok (.goto 4, 3) := by decide +kernel
theorem dX8_isFewer_19 : decode cX8_isFewer 19 = .ok (.iconst 0, 1) := by decide +kernel
theorem dX8_isFewer_20 : decode cX8_isFewer 20 = .ok (.ireturn, 1) := by decide +kernel
set_option maxRecDepth 20000 in
theorem ggX8_measureReaches_X0_sightIn : GoodIn wsX8_measureReaches wsX0_sightIn := goodIn_r _ [9, 10, 11, 12, 13, 14, 8, 15, 16, 17, 18, 19, 20, 21, 22, 23, 24, 25, 26, 27, 28, 29, 30, 31, 32, 33, 45, 46, 47, 48, 49, 50, 51, 52, 53, 54, 55, 56, 57, 58, 59, 60, 61, 62, 63, 64, 65] (by decide +kernel) (by decide +kernel)
set_option maxRecDepth 20000 in
theorem gX8_measureReaches_X0_sightIn : GoodIn wsX8_measureReaches (wsV RX8 133 RX0 yX0_sightIn wsX0_sightIn) := goodIn_app (goodIn_of _ (by decide +kernel)) ggX8_measureReaches_X0_sightIn
theorem dX8_measureReaches_0 : decode cX8_measureReaches 0 = .ok (.iconst 0, 1) := by decide +kernel
theorem dX8_measureReaches_1 : decode cX8_measureReaches 1 = .ok (.istore_n 2, 1) := by decide +kernel
theorem dX8_measureReaches_2 : decode cX8_measureReaches 2 = .ok (.iload_n 2, 1) := by decide +kernel
theorem dX8_measureReaches_3 : decode cX8_measureReaches 3 = .ok (.aload_n 0, 1) := by decide +kernel
theorem dX8_measureReaches_4 : decode cX8_measureReaches 4 = .ok (.getfield 10, 3) := by decide +kernel
theorem dX8_measureReaches_7 : decode cX8_measureReaches 7 = .ok (.getfield 68, 3) := by decide +kernel
theorem dX8_measureReaches_10 : decode cX8_measureReaches 10 = .ok (.if_icmp .ge 40, 3) := by decide +kernel
theorem dX8_measureReaches_13 : decode cX8_measureReaches 13 = .ok (.iload_n 2, 1) := by decide +kernel
theorem dX8_measureReaches_14 : decode cX8_measureReaches 14 = .ok (.aload_n 0, 1) := by decide +kernel
theorem dX8_measureReaches_15 : decode cX8_measureReaches 15 = .ok (.getfield 50, 3) := by decide +kernel
theorem dX8_measureReaches_18 : decode cX8_measureReaches 18 = .ok (.arraylength, 1) := by decide +kernel
theorem dX8_measureReaches_19 : decode cX8_measureReaches 19 = .ok (.if_icmp .ge 31, 3) := by decide +kernel
theorem dX8_measureReaches_22 : decode cX8_measureReaches 22 = .ok (.aload_n 0, 1) := by decide +kernel
theorem dX8_measureReaches_23 : decode cX8_measureReaches 23 = .ok (.getfield 50, 3) := by decide +kernel
theorem dX8_measureReaches_26 : decode cX8_measureReaches 26 = .ok (.iload_n 2, 1) := by decide +kernel
theorem dX8_measureReaches_27 : decode cX8_measureReaches 27 = .ok (.aload_n 0, 1) := by decide +kernel
theorem dX8_measureReaches_28 : decode cX8_measureReaches 28 = .ok (.getfield 10, 3) := by decide +kernel
theorem dX8_measureReaches_31 : decode cX8_measureReaches 31 = .ok (.iload_n 2, 1) := by decide +kernel
theorem dX8_measureReaches_32 : decode cX8_measureReaches 32 = .ok (.iload_n 1, 1) := by decide +kernel
theorem dX8_measureReaches_33 : decode cX8_measureReaches 33 = .ok (.aload_n 0, 1) := by decide +kernel
theorem dX8_measureReaches_34 : decode cX8_measureReaches 34 = .ok (.getfield 10, 3) := by decide +kernel
theorem dX8_measureReaches_37 : decode cX8_measureReaches 37 = .ok (.getfield 130, 3) := by decide +kernel
theorem dX8_measureReaches_40 : decode cX8_measureReaches 40 = .ok (.invokevirtual 133, 3) := by decide +kernel
theorem dX8_measureReaches_43 : decode cX8_measureReaches 43 = .ok (.iastore, 1) := by decide +kernel
theorem dX8_measureReaches_44 : decode cX8_measureReaches 44 = .ok (.iinc 2 1, 3) := by decide +kernel
theorem dX8_measureReaches_47 : decode cX8_measureReaches 47 = .ok (.goto (-45), 3) := by decide +kernel
theorem dX8_measureReaches_50 : decode cX8_measureReaches 50 = .ok (.return_, 1) := by decide +kernel
set_option maxRecDepth 20000 in
theorem ggX8_gains_X8_isPerson : GoodIn wsX8_gains wsX8_isPerson := goodIn_r _ [7, 2, 8, 9, 10, 6, 11, 160, 161, 162, 163, 164, 165, 166, 167, 168, 169, 170, 171, 172, 173, 174, 175, 176, 177, 178, 179, 180, 181, 182, 183, 184, 185, 186, 187, 188, 189] (by decide +kernel) (by decide +kernel)
set_option maxRecDepth 20000 in
theorem gX8_gains_X8_isPerson : GoodIn wsX8_gains (wsV RX8 115 RX8 yX8_isPerson wsX8_isPerson) := goodIn_app (goodIn_of _ (by decide +kernel)) ggX8_gains_X8_isPerson
set_option maxRecDepth 20000 in
theorem ggX8_gains_X8_within : GoodIn wsX8_gains wsX8_within := goodIn_r _ [11] (by decide +kernel) (by decide +kernel)
set_option maxRecDepth 20000 in
theorem gX8_gains_X8_within : GoodIn wsX8_gains (va_wsS RX8 60 yX8_within wsX8_within) := goodIn_app (goodIn_of _ (by decide +kernel)) ggX8_gains_X8_within
set_option maxRecDepth 20000 in
theorem ggX8_gains_X8_error : GoodIn wsX8_gains wsX8_error := goodIn_r _ [15, 16, 17, 9, 10, 6, 11, 160, 161, 162, 163, 164, 165, 166, 167, 168, 169, 170] (by decide +kernel) (by decide +kernel)
set_option maxRecDepth 20000 in
theorem gX8_gains_X8_error : GoodIn wsX8_gains (wsV RX8 64 RX8 yX8_error wsX8_error) := goodIn_app (goodIn_of _ (by decide +kernel)) ggX8_gains_X8_error
set_option maxRecDepth 20000 in
theorem ggX8_gains_X0_takeOver : GoodIn wsX8_gains wsX0_takeOver := goodIn_r _ [22, 23, 24, 25, 26, 27, 28, 29, 30, 31, 32, 33, 34, 35, 36, 37, 38, 39, 40, 41, 42, 43, 44, 45, 46, 47, 48, 49, 50, 51, 52, 53, 54, 55, 56, 57, 58, 59, 60, 61, 62, 63, 171, 172, 173, 174, 175, 176, 177, 178, 179, 180, 181, 182, 183, 184, 185, 186, 187, 188, 189, 190, 191] (by decide +kernel) (by decide +kernel)
set_option maxRecDepth 20000 in
theorem gX8_gains_X0_takeOver : GoodIn wsX8_gains (wsV RX8 210 RX0 yX0_takeOver wsX0_takeOver) := goodIn_app (goodIn_of _ (by decide +kernel)) ggX8_gains_X0_takeOver
set_option maxRecDepth 20000 in
theorem ggX8_gains_X8_togetherBehind : GoodIn wsX8_gains wsX8_togetherBehind := goodIn_r _ [67, 1, 68, 69, 70, 21, 71, 35, 38, 24, 33, 72, 73, 74, 75, 34, 76, 77, 78, 79, 80, 81, 36, 37, 32, 30, 23, 29, 82, 83, 84, 85, 86, 87, 88, 89, 90, 91, 92, 93, 94, 95, 96, 97, 40, 98, 99, 100, 101, 102, 103, 104, 105, 106, 107, 108, 6, 109, 110, 111, 112, 113, 114, 115, 116, 117, 118, 119, 120, 121, 122, 123, 124, 125, 126, 127, 128, 129, 130, 131, 132, 133, 10, 11, 134, 135, 136, 137, 41, 138, 139, 140, 141, 142, 143, 144, 39, 145, 146, 147, 148, 149, 150, 151, 152, 160, 161, 162, 163, 164, 165, 166, 167, 168, 169, 170, 171, 172, 173, 174, 175, 176, 177, 178, 179, 180, 181, 182, 183, 184, 185, 186, 187, 188, 189, 192, 193] (by decide +kernel) (by decide +kernel)
set_option maxRecDepth 20000 in
theorem gX8_gains_X8_togetherBehind : GoodIn wsX8_gains (wsV RX8 273 RX8 yX8_togetherBehind wsX8_togetherBehind) := goodIn_app (goodIn_of _ (by decide +kernel)) ggX8_gains_X8_togetherBehind
set_option maxRecDepth 20000 in
theorem ggX8_gains_X0_leaveOut : GoodIn wsX8_gains wsX0_leaveOut := goodIn_r _ [156, 157, 158, 74, 159, 35, 36, 37, 38, 39, 171, 172, 173, 174, 175, 176, 177, 178, 179, 180, 181, 182, 183, 184, 185, 186, 187, 188, 189] (by decide +kernel) (by decide +kernel)
set_option maxRecDepth 20000 in
theorem gX8_gains_X0_leaveOut : GoodIn wsX8_gains (wsV RX8 276 RX0 yX0_leaveOut wsX0_leaveOut) := goodIn_app (goodIn_of _ (by decide +kernel)) ggX8_gains_X0_leaveOut
theorem dX8_gains_0 : decode cX8_gains 0 = .ok (.aload_n 0, 1) := by decide +kernel
theorem dX8_gains_1 : decode cX8_gains 1 = .ok (.iload_n 1, 1) := by decide +kernel
theorem dX8_gains_2 : decode cX8_gains 2 = .ok (.invokevirtual 115, 3) := by decide +kernel
theorem dX8_gains_5 : decode cX8_gains 5 = .ok (.ifCond .eq 13, 3) := by decide +kernel
theorem dX8_gains_8 : decode cX8_gains 8 = .ok (.iload_n 2, 1) := by decide +kernel
theorem dX8_gains_9 : decode cX8_gains 9 = .ok (.iconst 0, 1) := by decide +kernel
theorem dX8_gains_10 : decode cX8_gains 10 = .ok (.bipush 50, 2) := by decide +kernel
theorem dX8_gains_12 : decode cX8_gains 12 = .ok (.invokestatic 60, 3) := by decide +kernel
theorem dX8_gains_15 : decode cX8_gains 15 = .ok (.ifCond .ne 9, 3) := by decide +kernel
theorem dX8_gains_18 : decode cX8_gains 18 = .ok (.aload_n 0, 1) := by decide +kernel
theorem dX8_gains_19 : decode cX8_gains 19 = .ok (.iconst 1, 1) := by decide +kernel
theorem dX8_gains_20 : decode cX8_gains 20 = .ok (.invokevirtual 64, 3) := by decide +kernel
theorem dX8_gains_23 : decode cX8_gains 23 = .ok (.ireturn, 1) := by decide +kernel
theorem dX8_gains_24 : decode cX8_gains 24 = .ok (.aload_n 0, 1) := by decide +kernel
theorem dX8_gains_25 : decode cX8_gains 25 = .ok (.getfield 16, 3) := by decide +kernel
theorem dX8_gains_28 : decode cX8_gains 28 = .ok (.aload_n 0, 1) := by decide +kernel
theorem dX8_gains_29 : decode cX8_gains 29 = .ok (.getfield 10, 3) := by decide +kernel
theorem dX8_gains_32 : decode cX8_gains 32 = .ok (.invokevirtual 210, 3) := by decide +kernel
theorem dX8_gains_35 : decode cX8_gains 35 = .ok (.aload_n 0, 1) := by decide +kernel
theorem dX8_gains_36 : decode cX8_gains 36 = .ok (.iload_n 2, 1) := by decide +kernel
theorem dX8_gains_37 : decode cX8_gains 37 = .ok (.invokevirtual 273, 3) := by decide +kernel
theorem dX8_gains_40 : decode cX8_gains 40 = .ok (.istore_n 3, 1) := by decide +kernel
theorem dX8_gains_41 : decode cX8_gains 41 = .ok (.aload_n 0, 1) := by decide +kernel
theorem dX8_gains_42 : decode cX8_gains 42 = .ok (.getfield 16, 3) := by decide +kernel
theorem dX8_gains_45 : decode cX8_gains 45 = .ok (.aload_n 0, 1) := by decide +kernel
theorem dX8_gains_46 : decode cX8_gains 46 = .ok (.getfield 10, 3) := by decide +kernel
theorem dX8_gains_49 : decode cX8_gains 49 = .ok (.invokevirtual 210, 3) := by decide +kernel
theorem dX8_gains_52 : decode cX8_gains 52 = .ok (.aload_n 0, 1) := by decide +kernel
theorem dX8_gains_53 : decode cX8_gains 53 = .ok (.getfield 16, 3) := by decide +kernel
theorem dX8_gains_56 : decode cX8_gains 56 = .ok (.iload_n 1, 1) := by decide +kernel
theorem dX8_gains_57 : decode cX8_gains 57 = .ok (.invokevirtual 276, 3) := by decide +kernel
theorem dX8_gains_60 : decode cX8_gains 60 = .ok (.iload_n 3, 1) := by decide +kernel
theorem dX8_gains_61 : decode cX8_gains 61 = .ok (.aload_n 0, 1) := by decide +kernel
theorem dX8_gains_62 : decode cX8_gains 62 = .ok (.iload_n 2, 1) := by decide +kernel
theorem dX8_gains_63 : decode cX8_gains 63 = .ok (.invokevirtual 273, 3) := by decide +kernel
theorem dX8_gains_66 : decode cX8_gains 66 = .ok (.isub, 1) := by decide +kernel
theorem dX8_gains_67 : decode cX8_gains 67 = .ok (.ireturn, 1) := by decide +kernel
set_option maxRecDepth 20000 in
theorem ggX8_togetherBehind_X0_passHour : GoodIn wsX8_togetherBehind wsX0_passHour := goodIn_r _ [6, 7, 8, 9, 10, 11, 12, 13, 14, 15, 16, 17, 18, 19, 5, 20, 21, 22, 23, 24, 25, 26, 27, 28, 29, 30, 31, 32, 33, 34, 35, 36, 37, 38, 39, 40, 41, 42, 43, 44, 45, 46, 47, 48, 49, 50, 51, 52, 53, 54, 55, 56, 57, 58, 59, 60, 61, 62, 63, 64, 65, 66, 67, 68, 69, 70, 71, 72, 73, 74, 75, 76, 77, 78, 79, 80, 81, 82, 83, 84, 85, 86, 87, 88, 89, 90, 91, 92, 93, 94, 95, 96, 116, 117, 118, 119, 120, 121, 122, 123, 124, 125, 126, 127, 128, 129, 130, 131, 132, 133, 134, 135, 136] (by decide +kernel) (by decide +kernel)
set_option maxRecDepth 20000 in
theorem gX8_togetherBehind_X0_passHour : GoodIn wsX8_togetherBehind (wsV RX8 194 RX0 yX0_passHour wsX0_passHour) := goodIn_app (goodIn_of _ (by decide +kernel)) ggX8_togetherBehind_X0_passHour
set_option maxRecDepth 20000 in
theorem ggX8_togetherBehind_X0_together : GoodIn wsX8_togetherBehind wsX0_together := goodIn_r _ [100, 26, 101, 102, 103, 5, 104, 9, 65, 56, 66, 116, 117, 118, 119, 120, 121, 122, 123, 124, 125, 126, 127, 128, 129, 130, 131, 132, 133, 134] (by decide +kernel) (by decide +kernel)
set_option maxRecDepth 20000 in
theorem gX8_togetherBehind_X0_together : GoodIn wsX8_togetherBehind (wsV RX8 197 RX0 yX0_together wsX0_together) := goodIn_app (goodIn_of _ (by decide +kernel)) ggX8_togetherBehind_X0_together
theorem dX8_togetherBehind_0 : decode cX8_togetherBehind 0 = .ok (.iconst 0, 1) := by decide +kernel
theorem dX8_togetherBehind_1 : decode cX8_togetherBehind 1 = .ok (.istore_n 2, 1) := by decide +kernel
theorem dX8_togetherBehind_2 : decode cX8_togetherBehind 2 = .ok (.iload_n 2, 1) := by decide +kernel
theorem dX8_togetherBehind_3 : decode cX8_togetherBehind 3 = .ok (.iload_n 1, 1) := by decide +kernel
theorem dX8_togetherBehind_4 : decode cX8_togetherBehind 4 = .ok (.if_icmp .ge 16, 3) := by decide +kernel
theorem dX8_togetherBehind_7 : decode cX8_togetherBehind 7 = .ok (.aload_n 0, 1) := by decide +kernel
theorem dX8_togetherBehind_8 : decode cX8_togetherBehind 8 = .ok (.getfield 16, 3) := by decide +kernel
theorem dX8_togetherBehind_11 : decode cX8_togetherBehind 11 = .ok (.invokevirtual 194, 3) := by decide +kernel
theorem dX8_togetherBehind_14 : decode cX8_togetherBehind 14 = .ok (.iinc 2 1, 3) := by decide +kernel
theorem dX8_togetherBehind_17 : decode cX8_togetherBehind 17 = .ok (.goto (-15), 3) := by decide +kernel
theorem dX8_togetherBehind_20 : decode cX8_togetherBehind 20 = .ok (.aload_n 0, 1) := by decide +kernel
theorem dX8_togetherBehind_21 : decode cX8_togetherBehind 21 = .ok (.getfield 16, 3) := by decide +kernel
theorem dX8_togetherBehind_24 : decode cX8_togetherBehind 24 = .ok (.invokevirtual 197, 3) := by decide +kernel
theorem dX8_togetherBehind_27 : decode cX8_togetherBehind 27 = .ok (.ireturn, 1) := by decide +kernel
set_option maxRecDepth 20000 in
theorem ggX8_odds_X8_isCell : GoodIn wsX8_odds wsX8_isCell := goodIn_r _ [8, 1, 9, 10, 11, 7, 12, 73, 74, 75, 76, 77, 78, 79, 80, 81, 82, 83, 84, 85, 86, 87, 88, 89, 90, 91, 92, 93, 94, 95, 96, 97, 98, 99, 100, 101, 102] (by decide +kernel) (by decide +kernel)
set_option maxRecDepth 20000 in
theorem gX8_odds_X8_isCell : GoodIn wsX8_odds (wsV RX8 79 RX8 yX8_isCell wsX8_isCell) := goodIn_app (goodIn_of _ (by decide +kernel)) ggX8_odds_X8_isCell
set_option maxRecDepth 20000 in
theorem ggX8_odds_X8_within : GoodIn wsX8_odds wsX8_within := goodIn_r _ [12] (by decide +kernel) (by decide +kernel)
set_option maxRecDepth 20000 in
theorem gX8_odds_X8_within : GoodIn wsX8_odds (va_wsS RX8 60 yX8_within wsX8_within) := goodIn_app (goodIn_of _ (by decide +kernel)) ggX8_odds_X8_within
set_option maxRecDepth 20000 in
theorem ggX8_odds_X8_error : GoodIn wsX8_odds wsX8_error := goodIn_r _ [16, 17, 18, 10, 11, 7, 12, 73, 74, 75, 76, 77, 78, 79, 80, 81, 82, 83] (by decide +kernel) (by decide +kernel)
set_option maxRecDepth 20000 in
theorem gX8_odds_X8_error : GoodIn wsX8_odds (wsV RX8 64 RX8 yX8_error wsX8_error) := goodIn_app (goodIn_of _ (by decide +kernel)) ggX8_odds_X8_error
set_option maxRecDepth 20000 in
theorem ggX8_odds_X8_measureReaches : GoodIn wsX8_odds wsX8_measureReaches := goodIn_r _ [22, 1, 23, 2, 24, 25, 26, 27, 28, 29, 30, 31, 32, 33, 34, 35, 36, 37, 38, 39, 40, 41, 42, 43, 44, 45, 46, 47, 7, 48, 49, 50, 51, 52, 73, 74, 75, 76, 77, 78, 79, 80, 81, 82, 83, 84, 85, 86, 87, 88, 89, 90, 91, 92, 93, 94, 95, 96, 97, 98, 99, 100, 101, 102, 103, 104] (by decide +kernel) (by decide +kernel)
set_option maxRecDepth 20000 in
theorem gX8_odds_X8_measureReaches : GoodIn wsX8_odds (wsV RX8 261 RX8 yX8_measureReaches wsX8_measureReaches) := goodIn_app (goodIn_of _ (by decide +kernel)) ggX8_odds_X8_measureReaches
set_option maxRecDepth 20000 in
theorem ggX8_odds_X0_isSeen : GoodIn wsX8_odds wsX0_isSeen := goodIn_r _ [56, 57, 58, 59, 60, 61, 28, 62, 63, 30, 64, 7, 65, 66, 67, 68, 69, 84, 85, 86, 87, 88, 89, 90, 91, 92, 93, 94, 95, 96, 97, 98, 99, 100, 101, 102] (by decide +kernel) (by decide +kernel)
set_option maxRecDepth 20000 in
theorem gX8_odds_X0_isSeen : GoodIn wsX8_odds (wsV RX8 264 RX0 yX0_isSeen wsX0_isSeen) := goodIn_app (goodIn_of _ (by decide +kernel)) ggX8_odds_X0_isSeen
set_option maxRecDepth 20000 in
theorem ggX8_odds_X8_commonDivisor : GoodIn wsX8_odds wsX8_commonDivisor := goodIn_r _ [72] (by decide +kernel) (by decide +kernel)
set_option maxRecDepth 20000 in
theorem gX8_odds_X8_commonDivisor : GoodIn wsX8_odds (va_wsS RX8 279 yX8_commonDivisor wsX8_commonDivisor) := goodIn_app (goodIn_of _ (by decide +kernel)) ggX8_odds_X8_commonDivisor
theorem dX8_odds_0 : decode cX8_odds 0 = .ok (.aload_n 0, 1) := by decide +kernel
theorem dX8_odds_1 : decode cX8_odds 1 = .ok (.iload_n 1, 1) := by decide +kernel
theorem dX8_odds_2 : decode cX8_odds 2 = .ok (.invokevirtual 79, 3) := by decide +kernel
theorem dX8_odds_5 : decode cX8_odds 5 = .ok (.ifCond .eq 12, 3) := by decide +kernel
theorem dX8_odds_8 : decode cX8_odds 8 = .ok (.iload_n 2, 1) := by decide +kernel
theorem dX8_odds_9 : decode cX8_odds 9 = .ok (.iconst 0, 1) := by decide +kernel
theorem dX8_odds_10 : decode cX8_odds 10 = .ok (.iconst 1, 1) := by decide +kernel
theorem dX8_odds_11 : decode cX8_odds 11 = .ok (.invokestatic 60, 3) := by decide +kernel
theorem dX8_odds_14 : decode cX8_odds 14 = .ok (.ifCond .ne 9, 3) := by decide +kernel
theorem dX8_odds_17 : decode cX8_odds 17 = .ok (.aload_n 0, 1) := by decide +kernel
theorem dX8_odds_18 : decode cX8_odds 18 = .ok (.iconst 1, 1) := by decide +kernel
theorem dX8_odds_19 : decode cX8_odds 19 = .ok (.invokevirtual 64, 3) := by decide +kernel
theorem dX8_odds_22 : decode cX8_odds 22 = .ok (.ireturn, 1) := by decide +kernel
theorem dX8_odds_23 : decode cX8_odds 23 = .ok (.iconst 0, 1) := by decide +kernel
theorem dX8_odds_24 : decode cX8_odds 24 = .ok (.istore_n 3, 1) := by decide +kernel
theorem dX8_odds_25 : decode cX8_odds 25 = .ok (.iconst 0, 1) := by decide +kernel
theorem dX8_odds_26 : decode cX8_odds 26 = .ok (.istore 4, 2) := by decide +kernel
theorem dX8_odds_28 : decode cX8_odds 28 = .ok (.iload 4, 2) := by decide +kernel
theorem dX8_odds_30 : decode cX8_odds 30 = .ok (.bipush 9, 2) := by decide +kernel
theorem dX8_odds_32 : decode cX8_odds 32 = .ok (.if_icmp .gt 40, 3) := by decide +kernel
theorem dX8_odds_35 : decode cX8_odds 35 = .ok (.aload_n 0, 1) := by decide +kernel
theorem dX8_odds_36 : decode cX8_odds 36 = .ok (.iload 4, 2) := by decide +kernel
theorem dX8_odds_38 : decode cX8_odds 38 = .ok (.invokevirtual 261, 3) := by decide +kernel
theorem dX8_odds_41 : decode cX8_odds 41 = .ok (.aload_n 0, 1) := by decide +kernel
theorem dX8_odds_42 : decode cX8_odds 42 = .ok (.getfield 10, 3) := by decide +kernel
theorem dX8_odds_45 : decode cX8_odds 45 = .ok (.iload_n 1, 1) := by decide +kernel
theorem dX8_odds_46 : decode cX8_odds 46 = .ok (.aload_n 0, 1) := by decide +kernel
theorem dX8_odds_47 : decode cX8_odds 47 = .ok (.getfield 50, 3) := by decide +kernel
theorem dX8_odds_50 : decode cX8_odds 50 = .ok (.aload_n 0, 1) := by decide +kernel
theorem dX8_odds_51 : decode cX8_odds 51 = .ok (.getfield 10, 3) := by decide +kernel
theorem dX8_odds_54 : decode cX8_odds 54 = .ok (.getfield 99, 3) := by decide +kernel
theorem dX8_odds_57 : decode cX8_odds 57 = .ok (.invokevirtual 264, 3) := by decide +kernel
theorem dX8_odds_60 : decode cX8_odds 60 = .ok (.ifCond .eq 6, 3) := by decide +kernel
theorem dX8_odds_63 : decode cX8_odds 63 = .ok (.iinc 3 1, 3) := by decide +kernel
theorem dX8_odds_66 : decode cX8_odds 66 = .ok (.iinc 4 1, 3) := by decide +kernel
theorem dX8_odds_69 : decode cX8_odds 69 = .ok (.goto (-41), 3) := by decide +kernel
theorem dX8_odds_72 : decode cX8_odds 72 = .ok (.bipush 10, 2) := by decide +kernel
theorem dX8_odds_74 : decode cX8_odds 74 = .ok (.istore 4, 2) := by decide +kernel
theorem dX8_odds_76 : decode cX8_odds 76 = .ok (.iload 4, 2) := by decide +kernel
theorem dX8_odds_78 : decode cX8_odds 78 = .ok (.iload_n 3, 1) := by decide +kernel
theorem dX8_odds_79 : decode cX8_odds 79 = .ok (.invokestatic 279, 3) := by decide +kernel
theorem dX8_odds_82 : decode cX8_odds 82 = .ok (.istore 5, 2) := by decide +kernel
theorem dX8_odds_84 : decode cX8_odds 84 = .ok (.iload_n 2, 1) := by decide +kernel
theorem dX8_odds_85 : decode cX8_odds 85 = .ok (.ifCond .ne 7, 3) := by decide +kernel
theorem dX8_odds_88 : decode cX8_odds 88 = .ok (.iload_n 3, 1) := by decide +kernel
theorem dX8_odds_89 : decode cX8_odds 89 = .ok (.goto 5, 3) := by decide +kernel
theorem dX8_odds_92 : decode cX8_odds 92 = .ok (.iload 4, 2) := by decide +kernel
theorem dX8_odds_94 : decode cX8_odds 94 = .ok (.iload 5, 2) := by decide +kernel
theorem dX8_odds_96 : decode cX8_odds 96 = .ok (.idiv, 1) := by decide +kernel
theorem dX8_odds_97 : decode cX8_odds 97 = .ok (.ireturn, 1) := by decide +kernel
theorem dX8_commonDivisor_0 : decode cX8_commonDivisor 0 = .ok (.iload_n 0, 1) := by decide +kernel
theorem dX8_commonDivisor_1 : decode cX8_commonDivisor 1 = .ok (.istore_n 2, 1) := by decide +kernel
theorem dX8_commonDivisor_2 : decode cX8_commonDivisor 2 = .ok (.iload_n 2, 1) := by decide +kernel
theorem dX8_commonDivisor_3 : decode cX8_commonDivisor 3 = .ok (.iconst 1, 1) := by decide +kernel
theorem dX8_commonDivisor_4 : decode cX8_commonDivisor 4 = .ok (.if_icmp .le 23, 3) := by decide +kernel
theorem dX8_commonDivisor_7 : decode cX8_commonDivisor 7 = .ok (.iload_n 0, 1) := by decide +kernel
theorem dX8_commonDivisor_8 : decode cX8_commonDivisor 8 = .ok (.iload_n 2, 1) := by decide +kernel
theorem dX8_commonDivisor_9 : decode cX8_commonDivisor 9 = .ok (.irem, 1) := by decide +kernel
theorem dX8_commonDivisor_10 : decode cX8_commonDivisor 10 = .ok (.ifCond .ne 11, 3) := by decide +kernel
theorem dX8_commonDivisor_13 : decode cX8_commonDivisor 13 = .ok (.iload_n 1, 1) := by decide +kernel
theorem dX8_commonDivisor_14 : decode cX8_commonDivisor 14 = .ok (.iload_n 2, 1) := by decide +kernel
theorem dX8_commonDivisor_15 : decode cX8_commonDivisor 15 = .ok (.irem, 1) := by decide +kernel
theorem dX8_commonDivisor_16 : decode cX8_commonDivisor 16 = .ok (.ifCond .ne 5, 3) := by decide +kernel
theorem dX8_commonDivisor_19 : decode cX8_commonDivisor 19 = .ok (.iload_n 2, 1) := by decide +kernel
theorem dX8_commonDivisor_20 : decode cX8_commonDivisor 20 = .ok (.ireturn, 1) := by decide +kernel
theorem dX8_commonDivisor_21 : decode cX8_commonDivisor 21 = .ok (.iinc 2 (-1), 3) := by decide +kernel
theorem dX8_commonDivisor_24 : decode cX8_commonDivisor 24 = .ok (.goto (-22), 3) := by decide +kernel
theorem dX8_commonDivisor_27 : decode cX8_commonDivisor 27 = .ok (.iconst 1, 1) := by decide +kernel
theorem dX8_commonDivisor_28 : decode cX8_commonDivisor 28 = .ok (.ireturn, 1) := by decide +kernel
theorem dX8_seed_0 : decode cX8_seed 0 = .ok (.aload_n 0, 1) := by decide +kernel
theorem dX8_seed_1 : decode cX8_seed 1 = .ok (.getfield 10, 3) := by decide +kernel
theorem dX8_seed_4 : decode cX8_seed 4 = .ok (.getfield 282, 3) := by decide +kernel
theorem dX8_seed_7 : decode cX8_seed 7 = .ok (.istore_n 2, 1) := by decide +kernel
theorem dX8_seed_8 : decode cX8_seed 8 = .ok (.aload_n 0, 1) := by decide +kernel
theorem dX8_seed_9 : decode cX8_seed 9 = .ok (.getfield 10, 3) := by decide +kernel
theorem dX8_seed_12 : decode cX8_seed 12 = .ok (.iload_n 1, 1) := by decide +kernel
theorem dX8_seed_13 : decode cX8_seed 13 = .ok (.putfield 282, 3) := by decide +kernel
theorem dX8_seed_16 : decode cX8_seed 16 = .ok (.iload_n 2, 1) := by decide +kernel
theorem dX8_seed_17 : decode cX8_seed 17 = .ok (.ireturn, 1) := by decide +kernel
set_option maxRecDepth 20000 in
theorem ggX8_voice_X8_isPerson : GoodIn wsX8_voice wsX8_isPerson := goodIn_r _ [9, 2, 10, 11, 12, 8, 13, 59, 60, 61, 62, 63, 64, 65, 66, 67, 68, 69, 70, 71, 72, 73, 74, 75, 76, 77, 78, 79, 80, 81, 82, 83, 84, 85, 86, 87, 88] (by decide +kernel) (by decide +kernel)
set_option maxRecDepth 20000 in
theorem gX8_voice_X8_isPerson : GoodIn wsX8_voice (wsV RX8 115 RX8 yX8_isPerson wsX8_isPerson) := goodIn_app (goodIn_of _ (by decide +kernel)) ggX8_voice_X8_isPerson
set_option maxRecDepth 20000 in
theorem ggX8_voice_X8_within : GoodIn wsX8_voice wsX8_within := goodIn_r _ [13] (by decide +kernel) (by decide +kernel)
set_option maxRecDepth 20000 in
theorem gX8_voice_X8_within : GoodIn wsX8_voice (va_wsS RX8 60 yX8_within wsX8_within) := goodIn_app (goodIn_of _ (by decide +kernel)) ggX8_voice_X8_within
set_option maxRecDepth 20000 in
theorem ggX8_voice_X8_error : GoodIn wsX8_voice wsX8_error := goodIn_r _ [17, 18, 19, 11, 12, 8, 13, 59, 60, 61, 62, 63, 64, 65, 66, 67, 68, 69] (by decide +kernel) (by decide +kernel)
set_option maxRecDepth 20000 in
theorem gX8_voice_X8_error : GoodIn wsX8_voice (wsV RX8 64 RX8 yX8_error wsX8_error) := goodIn_app (goodIn_of _ (by decide +kernel)) ggX8_voice_X8_error
set_option maxRecDepth 20000 in
theorem ggX8_voice_X7_begin : GoodIn wsX8_voice wsX7_begin := goodIn_r _ [24, 25, 26, 27, 28, 29, 30, 31, 32, 33, 34, 89, 90, 91, 92, 93, 94] (by decide +kernel) (by decide +kernel)
set_option maxRecDepth 20000 in
theorem gX8_voice_X7_begin : GoodIn wsX8_voice (wsV RX8 285 RX7 yX7_begin wsX7_begin) := goodIn_app (goodIn_of _ (by decide +kernel)) ggX8_voice_X7_begin
set_option maxRecDepth 20000 in
theorem ggX8_voice_X7_answer : GoodIn wsX8_voice wsX7_answer := goodIn_r _ [38, 25, 39, 40, 23, 41, 28, 26, 27, 42, 43, 44, 45, 46, 47, 48, 49, 50, 51, 52, 53, 12, 8, 13, 54, 55, 56, 32, 57, 34, 58, 89, 90, 91, 92, 93, 94] (by decide +kernel) (by decide +kernel)
set_option maxRecDepth 20000 in
theorem gX8_voice_X7_answer : GoodIn wsX8_voice (wsV RX8 289 RX7 yX7_answer wsX7_answer) := goodIn_app (goodIn_of _ (by decide +kernel)) ggX8_voice_X7_answer
theorem dX8_voice_0 : decode cX8_voice 0 = .ok (.aload_n 0, 1) := by decide +kernel
theorem dX8_voice_1 : decode cX8_voice 1 = .ok (.iload_n 1, 1) := by decide +kernel
theorem dX8_voice_2 : decode cX8_voice 2 = .ok (.invokevirtual 115, 3) := by decide +kernel
theorem dX8_voice_5 : decode cX8_voice 5 = .ok (.ifCond .eq 12, 3) := by decide +kernel
theorem dX8_voice_8 : decode cX8_voice 8 = .ok (.iload_n 2, 1) := by decide +kernel
theorem dX8_voice_9 : decode cX8_voice 9 = .ok (.iconst 0, 1) := by decide +kernel
theorem dX8_voice_10 : decode cX8_voice 10 = .ok (.iconst 3, 1) := by decide +kernel
theorem dX8_voice_11 : decode cX8_voice 11 = .ok (.invokestatic 60, 3) := by decide +kernel
theorem dX8_voice_14 : decode cX8_voice 14 = .ok (.ifCond .ne 9, 3) := by decide +kernel
theorem dX8_voice_17 : decode cX8_voice 17 = .ok (.aload_n 0, 1) := by decide +kernel
theorem dX8_voice_18 : decode cX8_voice 18 = .ok (.iconst 1, 1) := by decide +kernel
theorem dX8_voice_19 : decode cX8_voice 19 = .ok (.invokevirtual 64, 3) := by decide +kernel
theorem dX8_voice_22 : decode cX8_voice 22 = .ok (.ireturn, 1) := by decide +kernel
theorem dX8_voice_23 : decode cX8_voice 23 = .ok (.aload_n 0, 1) := by decide +kernel
theorem dX8_voice_24 : decode cX8_voice 24 = .ok (.getfield 39, 3) := by decide +kernel
theorem dX8_voice_27 : decode cX8_voice 27 = .ok (.aload_n 0, 1) := by decide +kernel
theorem dX8_voice_28 : decode cX8_voice 28 = .ok (.getfield 10, 3) := by decide +kernel
theorem dX8_voice_31 : decode cX8_voice 31 = .ok (.getfield 118, 3) := by decide +kernel
theorem dX8_voice_34 : decode cX8_voice 34 = .ok (.iload_n 1, 1) := by decide +kernel
theorem dX8_voice_35 : decode cX8_voice 35 = .ok (.iaload, 1) := by decide +kernel
theorem dX8_voice_36 : decode cX8_voice 36 = .ok (.iload_n 1, 1) := by decide +kernel
theorem dX8_voice_37 : decode cX8_voice 37 = .ok (.aload_n 0, 1) := by decide +kernel
theorem dX8_voice_38 : decode cX8_voice 38 = .ok (.getfield 10, 3) := by decide +kernel
theorem dX8_voice_41 : decode cX8_voice 41 = .ok (.getfield 121, 3) := by decide +kernel
theorem dX8_voice_44 : decode cX8_voice 44 = .ok (.iload_n 1, 1) := by decide +kernel
theorem dX8_voice_45 : decode cX8_voice 45 = .ok (.iaload, 1) := by decide +kernel
theorem dX8_voice_46 : decode cX8_voice 46 = .ok (.invokevirtual 285, 3) := by decide +kernel
theorem dX8_voice_49 : decode cX8_voice 49 = .ok (.aload_n 0, 1) := by decide +kernel
theorem dX8_voice_50 : decode cX8_voice 50 = .ok (.getfield 39, 3) := by decide +kernel
theorem dX8_voice_53 : decode cX8_voice 53 = .ok (.iload_n 2, 1) := by decide +kernel
theorem dX8_voice_54 : decode cX8_voice 54 = .ok (.iload_n 3, 1) := by decide +kernel
theorem dX8_voice_55 : decode cX8_voice 55 = .ok (.invokevirtual 289, 3) := by decide +kernel
theorem dX8_voice_58 : decode cX8_voice 58 = .ok (.ireturn, 1) := by decide +kernel
set_option maxRecDepth 20000 in
theorem ggX8_trace_X8_within : GoodIn wsX8_trace wsX8_within := goodIn_r _ [7] (by decide +kernel) (by decide +kernel)
set_option maxRecDepth 20000 in
theorem gX8_trace_X8_within : GoodIn wsX8_trace (va_wsS RX8 60 yX8_within wsX8_within) := goodIn_app (goodIn_of _ (by decide +kernel)) ggX8_trace_X8_within
set_option maxRecDepth 20000 in
theorem ggX8_trace_X8_error : GoodIn wsX8_trace wsX8_error := goodIn_r _ [11, 12, 13, 4, 5, 6, 7, 21, 22, 23, 24, 25, 26, 27, 28, 29, 30, 31] (by decide +kernel) (by decide +kernel)
set_option maxRecDepth 20000 in
theorem gX8_trace_X8_error : GoodIn wsX8_trace (wsV RX8 64 RX8 yX8_error wsX8_error) := goodIn_app (goodIn_of _ (by decide +kernel)) ggX8_trace_X8_error
set_option maxRecDepth 20000 in
theorem ggX8_trace_X4_get : GoodIn wsX8_trace wsX4_get := goodIn_r _ [18, 19, 20, 36, 37] (by decide +kernel) (by decide +kernel)
set_option maxRecDepth 20000 in
theorem gX8_trace_X4_get : GoodIn wsX8_trace (wsV RX8 295 RX4 yX4_get wsX4_get) := goodIn_app (goodIn_of _ (by decide +kernel)) ggX8_trace_X4_get
theorem dX8_trace_0 : decode cX8_trace 0 = .ok (.iload_n 1, 1) := by decide +kernel
theorem dX8_trace_1 : decode cX8_trace 1 = .ok (.iconst 0, 1) := by decide +kernel
theorem dX8_trace_2 : decode cX8_trace 2 = .ok (.aload_n 0, 1) := by decide +kernel
theorem dX8_trace_3 : decode cX8_trace 3 = .ok (.getfield 39, 3) := by decide +kernel
theorem dX8_trace_6 : decode cX8_trace 6 = .ok (.getfield 292, 3) := by decide +kernel
theorem dX8_trace_9 : decode cX8_trace 9 = .ok (.getfield 156, 3) := by decide +kernel
theorem dX8_trace_12 : decode cX8_trace 12 = .ok (.iconst 1, 1) := by decide +kernel
theorem dX8_trace_13 : decode cX8_trace 13 = .ok (.isub, 1) := by decide +kernel
theorem dX8_trace_14 : decode cX8_trace 14 = .ok (.invokestatic 60, 3) := by decide +kernel
theorem dX8_trace_17 : decode cX8_trace 17 = .ok (.ifCond .ne 9, 3) := by decide +kernel
theorem dX8_trace_20 : decode cX8_trace 20 = .ok (.aload_n 0, 1) := by decide +kernel
theorem dX8_trace_21 : decode cX8_trace 21 = .ok (.iconst 2, 1) := by decide +kernel
theorem dX8_trace_22 : decode cX8_trace 22 = .ok (.invokevirtual 64, 3) := by decide +kernel
theorem dX8_trace_25 : decode cX8_trace 25 = .ok (.ireturn, 1) := by decide +kernel
theorem dX8_trace_26 : decode cX8_trace 26 = .ok (.aload_n 0, 1) := by decide +kernel
theorem dX8_trace_27 : decode cX8_trace 27 = .ok (.getfield 39, 3) := by decide +kernel
theorem dX8_trace_30 : decode cX8_trace 30 = .ok (.getfield 292, 3) := by decide +kernel
theorem dX8_trace_33 : decode cX8_trace 33 = .ok (.iload_n 1, 1) := by decide +kernel
theorem dX8_trace_34 : decode cX8_trace 34 = .ok (.invokevirtual 295, 3) := by decide +kernel
theorem dX8_trace_37 : decode cX8_trace 37 = .ok (.ireturn, 1) := by decide +kernel
set_option maxRecDepth 20000 in
theorem ggX8_sheet_X8_isSheet : GoodIn wsX8_sheet wsX8_isSheet := goodIn_r _ [5, 6, 7, 4, 8] (by decide +kernel) (by decide +kernel)
set_option maxRecDepth 20000 in
theorem gX8_sheet_X8_isSheet : GoodIn wsX8_sheet (va_wsS RX8 234 yX8_isSheet wsX8_isSheet) := goodIn_app (goodIn_of _ (by decide +kernel)) ggX8_sheet_X8_isSheet
set_option maxRecDepth 20000 in
theorem ggX8_sheet_X8_error : GoodIn wsX8_sheet wsX8_error := goodIn_r _ [12, 13, 14, 6, 7, 4, 8, 29, 30, 31, 32, 33, 34, 35, 36, 37, 38, 39] (by decide +kernel) (by decide +kernel)
set_option maxRecDepth 20000 in
theorem gX8_sheet_X8_error : GoodIn wsX8_sheet (wsV RX8 64 RX8 yX8_error wsX8_error) := goodIn_app (goodIn_of _ (by decide +kernel)) ggX8_sheet_X8_error
set_option maxRecDepth 20000 in
theorem ggX8_sheet_X5_startAnew : GoodIn wsX8_sheet wsX5_startAnew := goodIn_r _ [19, 20, 21, 22, 23, 4, 24, 25, 26, 27, 28, 40, 41, 42] (by decide +kernel) (by decide +kernel)
set_option maxRecDepth 20000 in
theorem gX8_sheet_X5_startAnew : GoodIn wsX8_sheet (wsV RX8 298 RX5 yX5_startAnew wsX5_startAnew) := goodIn_app (goodIn_of _ (by decide +kernel)) ggX8_sheet_X5_startAnew
theorem dX8_sheet_0 : decode cX8_sheet 0 = .ok (.iload_n 1, 1) := by decide +kernel
theorem dX8_sheet_1 : decode cX8_sheet 1 = .ok (.invokestatic 234, 3) := by decide +kernel
theorem dX8_sheet_4 : decode cX8_sheet 4 = .ok (.ifCond .eq 25, 3) := by decide +kernel
theorem dX8_sheet_7 : decode cX8_sheet 7 = .ok (.iload_n 2, 1) := by decide +kernel
theorem dX8_sheet_8 : decode cX8_sheet 8 = .ok (.ifCond .eq 27, 3) := by decide +kernel
theorem dX8_sheet_11 : decode cX8_sheet 11 = .ok (.iload_n 2, 1) := by decide +kernel
theorem dX8_sheet_12 : decode cX8_sheet 12 = .ok (.bipush 8, 2) := by decide +kernel
theorem dX8_sheet_14 : decode cX8_sheet 14 = .ok (.if_icmp .eq 21, 3) := by decide +kernel
theorem dX8_sheet_17 : decode cX8_sheet 17 = .ok (.iload_n 2, 1) := by decide +kernel
theorem dX8_sheet_18 : decode cX8_sheet 18 = .ok (.bipush 16, 2) := by decide +kernel
theorem dX8_sheet_20 : decode cX8_sheet 20 = .ok (.if_icmp .eq 15, 3) := by decide +kernel
theorem dX8_sheet_23 : decode cX8_sheet 23 = .ok (.iload_n 2, 1) := by decide +kernel
theorem dX8_sheet_24 : decode cX8_sheet 24 = .ok (.bipush 32, 2) := by decide +kernel
theorem dX8_sheet_26 : decode cX8_sheet 26 = .ok (.if_icmp .eq 9, 3) := by decide +kernel
theorem dX8_sheet_29 : decode cX8_sheet 29 = .ok (.aload_n 0, 1) := by decide +kernel
theorem dX8_sheet_30 : decode cX8_sheet 30 = .ok (.iconst 1, 1) := by decide +kernel
theorem dX8_sheet_31 : decode cX8_sheet 31 = .ok (.invokevirtual 64, 3) := by decide +kernel
theorem dX8_sheet_34 : decode cX8_sheet 34 = .ok (.ireturn, 1) := by decide +kernel
theorem dX8_sheet_35 : decode cX8_sheet 35 = .ok (.iload_n 2, 1) := by decide +kernel
theorem dX8_sheet_36 : decode cX8_sheet 36 = .ok (.ifCond .eq 13, 3) := by decide +kernel
theorem dX8_sheet_39 : decode cX8_sheet 39 = .ok (.iload_n 3, 1) := by decide +kernel
theorem dX8_sheet_40 : decode cX8_sheet 40 = .ok (.ifCond .ge 9, 3) := by decide +kernel
theorem dX8_sheet_43 : decode cX8_sheet 43 = .ok (.aload_n 0, 1) := by decide +kernel
theorem dX8_sheet_44 : decode cX8_sheet 44 = .ok (.iconst 3, 1) := by decide +kernel
theorem dX8_sheet_45 : decode cX8_sheet 45 = .ok (.invokevirtual 64, 3) := by decide +kernel
theorem dX8_sheet_48 : decode cX8_sheet 48 = .ok (.ireturn, 1) := by decide +kernel
theorem dX8_sheet_49 : decode cX8_sheet 49 = .ok (.iload_n 2, 1) := by decide +kernel
theorem dX8_sheet_50 : decode cX8_sheet 50 = .ok (.ifCond .eq 15, 3) := by decide +kernel
theorem dX8_sheet_53 : decode cX8_sheet 53 = .ok (.iload_n 3, 1) := by decide +kernel
theorem dX8_sheet_54 : decode cX8_sheet 54 = .ok (.bipush 40, 2) := by decide +kernel
theorem dX8_sheet_56 : decode cX8_sheet 56 = .ok (.if_icmp .le 9, 3) := by decide +kernel
theorem dX8_sheet_59 : decode cX8_sheet 59 = .ok (.aload_n 0, 1) := by decide +kernel
theorem dX8_sheet_60 : decode cX8_sheet 60 = .ok (.iconst 1, 1) := by decide +kernel
theorem dX8_sheet_61 : decode cX8_sheet 61 = .ok (.invokevirtual 64, 3) := by decide +kernel
theorem dX8_sheet_64 : decode cX8_sheet 64 = .ok (.ireturn, 1) := by decide +kernel
theorem dX8_sheet_65 : decode cX8_sheet 65 = .ok (.aload_n 0, 1) := by decide +kernel
theorem dX8_sheet_66 : decode cX8_sheet 66 = .ok (.getfield 45, 3) := by decide +kernel
theorem dX8_sheet_69 : decode cX8_sheet 69 = .ok (.iload_n 1, 1) := by decide +kernel
theorem dX8_sheet_70 : decode cX8_sheet 70 = .ok (.aaload, 1) := by decide +kernel
theorem dX8_sheet_71 : decode cX8_sheet 71 = .ok (.iload_n 2, 1) := by decide +kernel
theorem dX8_sheet_72 : decode cX8_sheet 72 = .ok (.iload_n 2, 1) := by decide +kernel
theorem dX8_sheet_73 : decode cX8_sheet 73 = .ok (.ifCond .ne 7, 3) := by decide +kernel
theorem dX8_sheet_76 : decode cX8_sheet 76 = .ok (.iconst 0, 1) := by decide +kernel
theorem dX8_sheet_77 : decode cX8_sheet 77 = .ok (.goto 4, 3) := by decide +kernel
theorem dX8_sheet_80 : decode cX8_sheet 80 = .ok (.iload_n 3, 1) := by decide +kernel
theorem dX8_sheet_81 : decode cX8_sheet 81 = .ok (.invokevirtual 298, 3) := by decide +kernel
theorem dX8_sheet_84 : decode cX8_sheet 84 = .ok (.iconst 1, 1) := by decide +kernel
theorem dX8_sheet_85 : decode cX8_sheet 85 = .ok (.ireturn, 1) := by decide +kernel
set_option maxRecDepth 20000 in
theorem ggX8_put_X8_isSheet : GoodIn wsX8_put wsX8_isSheet := goodIn_r _ [6, 7, 8, 5, 9] (by decide +kernel) (by decide +kernel)
set_option maxRecDepth 20000 in
theorem gX8_put_X8_isSheet : GoodIn wsX8_put (va_wsS RX8 234 yX8_isSheet wsX8_isSheet) := goodIn_app (goodIn_of _ (by decide +kernel)) ggX8_put_X8_isSheet
set_option maxRecDepth 20000 in
theorem ggX8_put_X8_error : GoodIn wsX8_put wsX8_error := goodIn_r _ [13, 14, 15, 7, 8, 5, 9, 28, 29, 30, 31, 32, 33, 34, 35, 36, 37, 38] (by decide +kernel) (by decide +kernel)
set_option maxRecDepth 20000 in
theorem gX8_put_X8_error : GoodIn wsX8_put (wsV RX8 64 RX8 yX8_error wsX8_error) := goodIn_app (goodIn_of _ (by decide +kernel)) ggX8_put_X8_error
set_option maxRecDepth 20000 in
theorem ggX8_put_X5_isMissing : GoodIn wsX8_put wsX5_isMissing := goodIn_r _ [20, 21, 39, 40, 41] (by decide +kernel) (by decide +kernel)
set_option maxRecDepth 20000 in
theorem gX8_put_X5_isMissing : GoodIn wsX8_put (wsV RX8 237 RX5 yX5_isMissing wsX5_isMissing) := goodIn_app (goodIn_of _ (by decide +kernel)) ggX8_put_X5_isMissing
set_option maxRecDepth 20000 in
theorem ggX8_put_X8_within : GoodIn wsX8_put wsX8_within := goodIn_r _ [9] (by decide +kernel) (by decide +kernel)
set_option maxRecDepth 20000 in
theorem gX8_put_X8_within : GoodIn wsX8_put (va_wsS RX8 60 yX8_within wsX8_within) := goodIn_app (goodIn_of _ (by decide +kernel)) ggX8_put_X8_within
set_option maxRecDepth 20000 in
theorem ggX8_put_X5_set : GoodIn wsX8_put wsX5_set := goodIn_r _ [25, 26, 27, 21, 39, 40, 41] (by decide +kernel) (by decide +kernel)
set_option maxRecDepth 20000 in
theorem gX8_put_X5_set : GoodIn wsX8_put (wsV RX8 301 RX5 yX5_set wsX5_set) := goodIn_app (goodIn_of _ (by decide +kernel)) ggX8_put_X5_set
theorem dX8_put_0 : decode cX8_put 0 = .ok (.iload_n 1, 1) := by decide +kernel
theorem dX8_put_1 : decode cX8_put 1 = .ok (.invokestatic 234, 3) := by decide +kernel
theorem dX8_put_4 : decode cX8_put 4 = .ok (.ifCond .ne 9, 3) := by decide +kernel
theorem dX8_put_7 : decode cX8_put 7 = .ok (.aload_n 0, 1) := by decide +kernel
theorem dX8_put_8 : decode cX8_put 8 = .ok (.iconst 1, 1) := by decide +kernel
theorem dX8_put_9 : decode cX8_put 9 = .ok (.invokevirtual 64, 3) := by decide +kernel
theorem dX8_put_12 : decode cX8_put 12 = .ok (.ireturn, 1) := by decide +kernel
theorem dX8_put_13 : decode cX8_put 13 = .ok (.aload_n 0, 1) := by decide +kernel
theorem dX8_put_14 : decode cX8_put 14 = .ok (.getfield 45, 3) := by decide +kernel
theorem dX8_put_17 : decode cX8_put 17 = .ok (.iload_n 1, 1) := by decide +kernel
theorem dX8_put_18 : decode cX8_put 18 = .ok (.aaload, 1) := by decide +kernel
theorem dX8_put_19 : decode cX8_put 19 = .ok (.invokevirtual 237, 3) := by decide +kernel
theorem dX8_put_22 : decode cX8_put 22 = .ok (.ifCond .eq 9, 3) := by decide +kernel
theorem dX8_put_25 : decode cX8_put 25 = .ok (.aload_n 0, 1) := by decide +kernel
theorem dX8_put_26 : decode cX8_put 26 = .ok (.iconst 2, 1) := by decide +kernel
theorem dX8_put_27 : decode cX8_put 27 = .ok (.invokevirtual 64, 3) := by decide +kernel
theorem dX8_put_30 : decode cX8_put 30 = .ok (.ireturn, 1) := by decide +kernel
theorem dX8_put_31 : decode cX8_put 31 = .ok (.iload_n 2, 1) := by decide +kernel
theorem dX8_put_32 : decode cX8_put 32 = .ok (.iconst 0, 1) := by decide +kernel
theorem dX8_put_33 : decode cX8_put 33 = .ok (.aload_n 0, 1) := by decide +kernel
theorem dX8_put_34 : decode cX8_put 34 = .ok (.getfield 45, 3) := by decide +kernel
theorem dX8_put_37 : decode cX8_put 37 = .ok (.iload_n 1, 1) := by decide +kernel
theorem dX8_put_38 : decode cX8_put 38 = .ok (.aaload, 1) := by decide +kernel
theorem dX8_put_39 : decode cX8_put 39 = .ok (.getfield 241, 3) := by decide +kernel
theorem dX8_put_42 : decode cX8_put 42 = .ok (.iconst 1, 1) := by decide +kernel
theorem dX8_put_43 : decode cX8_put 43 = .ok (.isub, 1) := by decide +kernel
theorem dX8_put_44 : decode cX8_put 44 = .ok (.invokestatic 60, 3) := by decide +kernel
theorem dX8_put_47 : decode cX8_put 47 = .ok (.ifCond .ne 9, 3) := by decide +kernel
theorem dX8_put_50 : decode cX8_put 50 = .ok (.aload_n 0, 1) := by decide +kernel
theorem dX8_put_51 : decode cX8_put 51 = .ok (.iconst 1, 1) := by decide +kernel
theorem dX8_put_52 : decode cX8_put 52 = .ok (.invokevirtual 64, 3) := by decide +kernel
theorem dX8_put_55 : decode cX8_put 55 = .ok (.ireturn, 1) := by decide +kernel
theorem dX8_put_56 : decode cX8_put 56 = .ok (.aload_n 0, 1) := by decide +kernel
theorem dX8_put_57 : decode cX8_put 57 = .ok (.getfield 45, 3) := by decide +kernel
theorem dX8_put_60 : decode cX8_put 60 = .ok (.iload_n 1, 1) := by decide +kernel
theorem dX8_put_61 : decode cX8_put 61 = .ok (.aaload, 1) := by decide +kernel
theorem dX8_put_62 : decode cX8_put 62 = .ok (.iload_n 2, 1) := by decide +kernel
theorem dX8_put_63 : decode cX8_put 63 = .ok (.iload_n 3, 1) := by decide +kernel
theorem dX8_put_64 : decode cX8_put 64 = .ok (.invokevirtual 301, 3) := by decide +kernel
theorem dX8_put_67 : decode cX8_put 67 = .ok (.iconst 1, 1) := by decide +kernel
theorem dX8_put_68 : decode cX8_put 68 = .ok (.ireturn, 1) := by decide +kernel
set_option maxRecDepth 20000 in
theorem ggX8_move_X8_isSheet : GoodIn wsX8_move wsX8_isSheet := goodIn_r _ [12, 13, 14, 11, 15] (by decide +kernel) (by decide +kernel)
set_option maxRecDepth 20000 in
theorem gX8_move_X8_isSheet : GoodIn wsX8_move (va_wsS RX8 234 yX8_isSheet wsX8_isSheet) := goodIn_app (goodIn_of _ (by decide +kernel)) ggX8_move_X8_isSheet
set_option maxRecDepth 20000 in
theorem ggX8_move_X8_error : GoodIn wsX8_move wsX8_error := goodIn_r _ [19, 20, 21, 13, 14, 11, 15, 28, 29, 30, 31, 32, 33, 34, 35, 36, 37, 38] (by decide +kernel) (by decide +kernel)
set_option maxRecDepth 20000 in
theorem gX8_move_X8_error : GoodIn wsX8_move (wsV RX8 64 RX8 yX8_error wsX8_error) := goodIn_app (goodIn_of _ (by decide +kernel)) ggX8_move_X8_error
set_option maxRecDepth 20000 in
theorem ggX8_move_X5_isMissing : GoodIn wsX8_move wsX5_isMissing := goodIn_r _ [26, 27, 39, 40, 41] (by decide +kernel) (by decide +kernel)
set_option maxRecDepth 20000 in
theorem gX8_move_X5_isMissing : GoodIn wsX8_move (wsV RX8 237 RX5 yX5_isMissing wsX5_isMissing) := goodIn_app (goodIn_of _ (by decide +kernel)) ggX8_move_X5_isMissing
set_option maxRecDepth 20000 in
theorem ggX8_move_X8_within : GoodIn wsX8_move wsX8_within := goodIn_r _ [15] (by decide +kernel) (by decide +kernel)
set_option maxRecDepth 20000 in
theorem gX8_move_X8_within : GoodIn wsX8_move (va_wsS RX8 60 yX8_within wsX8_within) := goodIn_app (goodIn_of _ (by decide +kernel)) ggX8_move_X8_within
theorem dX8_move_0 : decode cX8_move 0 = .ok (.iload_n 1, 1) := by decide +kernel
theorem dX8_move_1 : decode cX8_move 1 = .ok (.invokestatic 234, 3) := by decide +kernel
theorem dX8_move_4 : decode cX8_move 4 = .ok (.ifCond .eq 10, 3) := by decide +kernel
theorem dX8_move_7 : decode cX8_move 7 = .ok (.iload_n 3, 1) := by decide +kernel
theorem dX8_move_8 : decode cX8_move 8 = .ok (.invokestatic 234, 3) := by decide +kernel
theorem dX8_move_11 : decode cX8_move 11 = .ok (.ifCond .ne 9, 3) := by decide +kernel
theorem dX8_move_14 : decode cX8_move 14 = .ok (.aload_n 0, 1) := by decide +kernel
theorem dX8_move_15 : decode cX8_move 15 = .ok (.iconst 1, 1) := by decide +kernel
theorem dX8_move_16 : decode cX8_move 16 = .ok (.invokevirtual 64, 3) := by decide +kernel
theorem dX8_move_19 : decode cX8_move 19 = .ok (.ireturn, 1) := by decide +kernel
theorem dX8_move_20 : decode cX8_move 20 = .ok (.aload_n 0, 1) := by decide +kernel
theorem dX8_move_21 : decode cX8_move 21 = .ok (.getfield 45, 3) := by decide +kernel
theorem dX8_move_24 : decode cX8_move 24 = .ok (.iload_n 1, 1) := by decide +kernel
theorem dX8_move_25 : decode cX8_move 25 = .ok (.aaload, 1) := by decide +kernel
theorem dX8_move_26 : decode cX8_move 26 = .ok (.astore 6, 2) := by decide +kernel
theorem dX8_move_28 : decode cX8_move 28 = .ok (.aload_n 0, 1) := by decide +kernel
theorem dX8_move_29 : decode cX8_move 29 = .ok (.getfield 45, 3) := by decide +kernel
theorem dX8_move_32 : decode cX8_move 32 = .ok (.iload_n 3, 1) := by decide +kernel
theorem dX8_move_33 : decode cX8_move 33 = .ok (.aaload, 1) := by decide +kernel
theorem dX8_move_34 : decode cX8_move 34 = .ok (.astore 7, 2) := by decide +kernel
theorem dX8_move_36 : decode cX8_move 36 = .ok (.aload 6, 2) := by decide +kernel
theorem dX8_move_38 : decode cX8_move 38 = .ok (.invokevirtual 237, 3) := by decide +kernel
theorem dX8_move_41 : decode cX8_move 41 = .ok (.ifCond .ne 11, 3) := by decide +kernel
theorem dX8_move_44 : decode cX8_move 44 = .ok (.aload 7, 2) := by decide +kernel
theorem dX8_move_46 : decode cX8_move 46 = .ok (.invokevirtual 237, 3) := by decide +kernel
theorem dX8_move_49 : decode cX8_move 49 = .ok (.ifCond .eq 9, 3) := by decide +kernel
theorem dX8_move_52 : decode cX8_move 52 = .ok (.aload_n 0, 1) := by decide +kernel
theorem dX8_move_53 : decode cX8_move 53 = .ok (.iconst 2, 1) := by decide +kernel
theorem dX8_move_54 : decode cX8_move 54 = .ok (.invokevirtual 64, 3) := by decide +kernel
theorem dX8_move_57 : decode cX8_move 57 = .ok (.ireturn, 1) := by decide +kernel
theorem dX8_move_58 : decode cX8_move 58 = .ok (.aload 6, 2) := by decide +kernel
theorem dX8_move_60 : decode cX8_move 60 = .ok (.getfield 304, 3) := by decide +kernel
theorem dX8_move_63 : decode cX8_move 63 = .ok (.aload 7, 2) := by decide +kernel
theorem dX8_move_65 : decode cX8_move 65 = .ok (.getfield 304, 3) := by decide +kernel
theorem dX8_move_68 : decode cX8_move 68 = .ok (.if_icmp .eq 9, 3) := by decide +kernel
theorem dX8_move_71 : decode cX8_move 71 = .ok (.aload_n 0, 1) := by decide +kernel
theorem dX8_move_72 : decode cX8_move 72 = .ok (.iconst 5, 1) := by decide +kernel
theorem dX8_move_73 : decode cX8_move 73 = .ok (.invokevirtual 64, 3) := by decide +kernel
theorem dX8_move_76 : decode cX8_move 76 = .ok (.ireturn, 1) := by decide +kernel
theorem dX8_move_77 : decode cX8_move 77 = .ok (.iload 5, 2) := by decide +kernel
theorem dX8_move_79 : decode cX8_move 79 = .ok (.ifCond .lt 36, 3) := by decide +kernel
theorem dX8_move_82 : decode cX8_move 82 = .ok (.iload_n 2, 1) := by decide +kernel
theorem dX8_move_83 : decode cX8_move 83 = .ok (.iconst 0, 1) := by decide +kernel
theorem dX8_move_84 : decode cX8_move 84 = .ok (.aload 6, 2) := by decide +kernel
theorem dX8_move_86 : decode cX8_move 86 = .ok (.getfield 241, 3) := by decide +kernel
theorem dX8_move_89 : decode cX8_move 89 = .ok (.iload 5, 2) := by decide +kernel
theorem dX8_move_91 : decode cX8_move 91 = .ok (.isub, 1) := by decide +kernel
theorem dX8_move_92 : decode cX8_move 92 = .ok (.invokestatic 60, 3) := by decide +kernel
theorem dX8_move_95 : decode cX8_move 95 = .ok (.ifCond .eq 20, 3) := by decide +kernel
theorem dX8_move_98 : decode cX8_move 98 = .ok (.iload 4, 2) := by decide +kernel
theorem dX8_move_100 : decode cX8_move 100 = .ok (.iconst 0, 1) := by decide +kernel
theorem dX8_move_101 : decode cX8_move 101 = .ok (.aload 7, 2) := by decide +kernel
theorem dX8_move_103 : decode cX8_move 103 = .ok (.getfield 241, 3) := by decide +kernel
theorem dX8_move_106 : decode cX8_move 106 = .ok (.iload 5, 2) := by decide +kernel
theorem dX8_move_108 : decode cX8_move 108 = .ok (.isub, 1) := by decide +kernel
theorem dX8_move_109 : decode cX8_move 109 = .ok (.invokestatic 60, 3) := by decide +kernel
theorem dX8_move_112 : decode cX8_move 112 = .ok (.ifCond .ne 9, 3) := by decide +kernel
theorem dX8_move_115 : decode cX8_move 115 = .ok (.aload_n 0, 1) := by decide +kernel
theorem dX8_move_116 : decode cX8_move 116 = .ok (.iconst 1, 1) := by decide +kernel
theorem dX8_move_117 : decode cX8_move 117 = .ok (.invokevirtual 64, 3) := by decide +kernel
theorem dX8_move_120 : decode cX8_move 120 = .ok (.ireturn, 1) := by decide +kernel
theorem dX8_move_121 : decode cX8_move 121 = .ok (.aload 6, 2) := by decide +kernel
theorem dX8_move_123 : decode cX8_move 123 = .ok (.getfield 252, 3) := by decide +kernel
theorem dX8_move_126 : decode cX8_move 126 = .ok (.iload_n 2, 1) := by decide +kernel
theorem dX8_move_127 : decode cX8_move 127 = .ok (.aload 7, 2) := by decide +kernel
theorem dX8_move_129 : decode cX8_move 129 = .ok (.getfield 252, 3) := by decide +kernel
theorem dX8_move_132 : decode cX8_move 132 = .ok (.iload 4, 2) := by decide +kernel
theorem dX8_move_134 : decode cX8_move 134 = .ok (.iload 5, 2) := by decide +kernel
theorem dX8_move_136 : decode cX8_move 136 = .ok (.invokestatic 307, 3) := by decide +kernel
theorem dX8_move_139 : decode cX8_move 139 = .ok (.iload 5, 2) := by decide +kernel
theorem dX8_move_141 : decode cX8_move 141 = .ok (.ireturn, 1) := by decide +kernel
set_option maxRecDepth 20000 in
theorem ggX8_weeds_X8_isSheet : GoodIn wsX8_weeds wsX8_isSheet := goodIn_r _ [14, 15, 16, 13, 17] (by decide +kernel) (by decide +kernel)
set_option maxRecDepth 20000 in
theorem gX8_weeds_X8_isSheet : GoodIn wsX8_weeds (va_wsS RX8 234 yX8_isSheet wsX8_isSheet) := goodIn_app (goodIn_of _ (by decide +kernel)) ggX8_weeds_X8_isSheet
set_option maxRecDepth 20000 in
theorem ggX8_weeds_X8_error : GoodIn wsX8_weeds wsX8_error := goodIn_r _ [21, 22, 23, 15, 16, 13, 17, 30, 31, 32, 33, 34, 35, 36, 37, 38, 39, 40] (by decide +kernel) (by decide +kernel)
set_option maxRecDepth 20000 in
theorem gX8_weeds_X8_error : GoodIn wsX8_weeds (wsV RX8 64 RX8 yX8_error wsX8_error) := goodIn_app (goodIn_of _ (by decide +kernel)) ggX8_weeds_X8_error
set_option maxRecDepth 20000 in
theorem ggX8_weeds_X5_isMissing : GoodIn wsX8_weeds wsX5_isMissing := goodIn_r _ [28, 29, 41, 42, 43] (by decide +kernel) (by decide +kernel)
set_option maxRecDepth 20000 in
theorem gX8_weeds_X5_isMissing : GoodIn wsX8_weeds (wsV RX8 237 RX5 yX5_isMissing wsX5_isMissing) := goodIn_app (goodIn_of _ (by decide +kernel)) ggX8_weeds_X5_isMissing
set_option maxRecDepth 20000 in
theorem ggX8_weeds_X8_within : GoodIn wsX8_weeds wsX8_within := goodIn_r _ [17] (by decide +kernel) (by decide +kernel)
set_option maxRecDepth 20000 in
theorem gX8_weeds_X8_within : GoodIn wsX8_weeds (va_wsS RX8 60 yX8_within wsX8_within) := goodIn_app (goodIn_of _ (by decide +kernel)) ggX8_weeds_X8_within
theorem dX8_weeds_0 : decode cX8_weeds 0 = .ok (.iload_n 1, 1) := by decide +kernel
theorem dX8_weeds_1 : decode cX8_weeds 1 = .ok (.invokestatic 234, 3) := by decide +kernel
theorem dX8_weeds_4 : decode cX8_weeds 4 = .ok (.ifCond .ne 9, 3) := by decide +kernel
theorem dX8_weeds_7 : decode cX8_weeds 7 = .ok (.aload_n 0, 1) := by decide +kernel
theorem dX8_weeds_8 : decode cX8_weeds 8 = .ok (.iconst 1, 1) := by decide +kernel
theorem dX8_weeds_9 : decode cX8_weeds 9 = .ok (.invokevirtual 64, 3) := by decide +kernel
theorem dX8_weeds_12 : decode cX8_weeds 12 = .ok (.ireturn, 1) := by decide +kernel
theorem dX8_weeds_13 : decode cX8_weeds 13 = .ok (.aload_n 0, 1) := by decide +kernel
theorem dX8_weeds_14 : decode cX8_weeds 14 = .ok (.getfield 45, 3) := by decide +kernel
theorem dX8_weeds_17 : decode cX8_weeds 17 = .ok (.iload_n 1, 1) := by decide +kernel
theorem dX8_weeds_18 : decode cX8_weeds 18 = .ok (.aaload, 1) := by decide +kernel
theorem dX8_weeds_19 : decode cX8_weeds 19 = .ok (.astore_n 2, 1) := by decide +kernel
theorem dX8_weeds_20 : decode cX8_weeds 20 = .ok (.aload_n 2, 1) := by decide +kernel
theorem dX8_weeds_21 : decode cX8_weeds 21 = .ok (.invokevirtual 237, 3) := by decide +kernel
theorem dX8_weeds_24 : decode cX8_weeds 24 = .ok (.ifCond .eq 9, 3) := by decide +kernel
theorem dX8_weeds_27 : decode cX8_weeds 27 = .ok (.aload_n 0, 1) := by decide +kernel
theorem dX8_weeds_28 : decode cX8_weeds 28 = .ok (.iconst 2, 1) := by decide +kernel
theorem dX8_weeds_29 : decode cX8_weeds 29 = .ok (.invokevirtual 64, 3) := by decide +kernel
theorem dX8_weeds_32 : decode cX8_weeds 32 = .ok (.ireturn, 1) := by decide +kernel
theorem dX8_weeds_33 : decode cX8_weeds 33 = .ok (.aload_n 2, 1) := by decide +kernel
theorem dX8_weeds_34 : decode cX8_weeds 34 = .ok (.getfield 241, 3) := by decide +kernel
theorem dX8_weeds_37 : decode cX8_weeds 37 = .ok (.aload_n 0, 1) := by decide +kernel
theorem dX8_weeds_38 : decode cX8_weeds 38 = .ok (.getfield 10, 3) := by decide +kernel
theorem dX8_weeds_41 : decode cX8_weeds 41 = .ok (.getfield 72, 3) := by decide +kernel
theorem dX8_weeds_44 : decode cX8_weeds 44 = .ok (.invokestatic 313, 3) := by decide +kernel
theorem dX8_weeds_47 : decode cX8_weeds 47 = .ok (.istore_n 3, 1) := by decide +kernel
theorem dX8_weeds_48 : decode cX8_weeds 48 = .ok (.iconst 0, 1) := by decide +kernel
theorem dX8_weeds_49 : decode cX8_weeds 49 = .ok (.istore 4, 2) := by decide +kernel
theorem dX8_weeds_51 : decode cX8_weeds 51 = .ok (.iload 4, 2) := by decide +kernel
theorem dX8_weeds_53 : decode cX8_weeds 53 = .ok (.iload_n 3, 1) := by decide +kernel
theorem dX8_weeds_54 : decode cX8_weeds 54 = .ok (.if_icmp .ge 45, 3) := by decide +kernel
theorem dX8_weeds_57 : decode cX8_weeds 57 = .ok (.aload_n 2, 1) := by decide +kernel
theorem dX8_weeds_58 : decode cX8_weeds 58 = .ok (.getfield 252, 3) := by decide +kernel
theorem dX8_weeds_61 : decode cX8_weeds 61 = .ok (.iload 4, 2) := by decide +kernel
theorem dX8_weeds_63 : decode cX8_weeds 63 = .ok (.iaload, 1) := by decide +kernel
theorem dX8_weeds_64 : decode cX8_weeds 64 = .ok (.iconst 0, 1) := by decide +kernel
theorem dX8_weeds_65 : decode cX8_weeds 65 = .ok (.bipush 99, 2) := by decide +kernel
theorem dX8_weeds_67 : decode cX8_weeds 67 = .ok (.invokestatic 60, 3) := by decide +kernel
theorem dX8_weeds_70 : decode cX8_weeds 70 = .ok (.ifCond .ne 6, 3) := by decide +kernel
theorem dX8_weeds_73 : decode cX8_weeds 73 = .ok (.iload 4, 2) := by decide +kernel
theorem dX8_weeds_75 : decode cX8_weeds 75 = .ok (.ireturn, 1) := by decide +kernel
theorem dX8_weeds_76 : decode cX8_weeds 76 = .ok (.aload_n 0, 1) := by decide +kernel
theorem dX8_weeds_77 : decode cX8_weeds 77 = .ok (.getfield 10, 3) := by decide +kernel
theorem dX8_weeds_80 : decode cX8_weeds 80 = .ok (.getfield 87, 3) := by decide +kernel
theorem dX8_weeds_83 : decode cX8_weeds 83 = .ok (.iload 4, 2) := by decide +kernel
theorem dX8_weeds_85 : decode cX8_weeds 85 = .ok (.aload_n 2, 1) := by decide +kernel
theorem dX8_weeds_86 : decode cX8_weeds 86 = .ok (.getfield 252, 3) := by decide +kernel
theorem dX8_weeds_89 : decode cX8_weeds 89 = .ok (.iload 4, 2) := by decide +kernel
theorem dX8_weeds_91 : decode cX8_weeds 91 = .ok (.iaload, 1) := by decide +kernel
theorem dX8_weeds_92 : decode cX8_weeds 92 = .ok (.iastore, 1) := by decide +kernel
theorem dX8_weeds_93 : decode cX8_weeds 93 = .ok (.iinc 4 1, 3) := by decide +kernel
theorem dX8_weeds_96 : decode cX8_weeds 96 = .ok (.goto (-45), 3) := by decide +kernel
theorem dX8_weeds_99 : decode cX8_weeds 99 = .ok (.iload_n 3, 1) := by decide +kernel
theorem dX8_weeds_100 : decode cX8_weeds 100 = .ok (.ireturn, 1) := by decide +kernel
set_option maxRecDepth 20000 in
theorem ggX8_judge_X8_isSheet : GoodIn wsX8_judge wsX8_isSheet := goodIn_r _ [14, 15, 16, 13, 17] (by decide +kernel) (by decide +kernel)
set_option maxRecDepth 20000 in
theorem gX8_judge_X8_isSheet : GoodIn wsX8_judge (va_wsS RX8 234 yX8_isSheet wsX8_isSheet) := goodIn_app (goodIn_of _ (by decide +kernel)) ggX8_judge_X8_isSheet
set_option maxRecDepth 20000 in
theorem ggX8_judge_X8_error : GoodIn wsX8_judge wsX8_error := goodIn_r _ [21, 22, 23, 15, 16, 13, 17, 30, 31, 32, 33, 34, 35, 36, 37, 38, 39, 40] (by decide +kernel) (by decide +kernel)
set_option maxRecDepth 20000 in
theorem gX8_judge_X8_error : GoodIn wsX8_judge (wsV RX8 64 RX8 yX8_error wsX8_error) := goodIn_app (goodIn_of _ (by decide +kernel)) ggX8_judge_X8_error
set_option maxRecDepth 20000 in
theorem ggX8_judge_X5_isMissing : GoodIn wsX8_judge wsX5_isMissing := goodIn_r _ [28, 29, 41, 42, 43] (by decide +kernel) (by decide +kernel)
set_option maxRecDepth 20000 in
theorem gX8_judge_X5_isMissing : GoodIn wsX8_judge (wsV RX8 237 RX5 yX5_isMissing wsX5_isMissing) := goodIn_app (goodIn_of _ (by decide +kernel)) ggX8_judge_X5_isMissing
theorem dX8_judge_0 : decode cX8_judge 0 = .ok (.iload_n 1, 1) := by decide +kernel
theorem dX8_judge_1 : decode cX8_judge 1 = .ok (.invokestatic 234, 3) := by decide +kernel
theorem dX8_judge_4 : decode cX8_judge 4 = .ok (.ifCond .ne 9, 3) := by decide +kernel
theorem dX8_judge_7 : decode cX8_judge 7 = .ok (.aload_n 0, 1) := by decide +kernel
theorem dX8_judge_8 : decode cX8_judge 8 = .ok (.iconst 1, 1) := by decide +kernel
theorem dX8_judge_9 : decode cX8_judge 9 = .ok (.invokevirtual 64, 3) := by decide +kernel
theorem dX8_judge_12 : decode cX8_judge 12 = .ok (.ireturn, 1) := by decide +kernel
theorem dX8_judge_13 : decode cX8_judge 13 = .ok (.aload_n 0, 1) := by decide +kernel
theorem dX8_judge_14 : decode cX8_judge 14 = .ok (.getfield 45, 3) := by decide +kernel
theorem dX8_judge_17 : decode cX8_judge 17 = .ok (.iload_n 1, 1) := by decide +kernel
theorem dX8_judge_18 : decode cX8_judge 18 = .ok (.aaload, 1) := by decide +kernel
theorem dX8_judge_19 : decode cX8_judge 19 = .ok (.astore_n 2, 1) := by decide +kernel
theorem dX8_judge_20 : decode cX8_judge 20 = .ok (.aload_n 2, 1) := by decide +kernel
theorem dX8_judge_21 : decode cX8_judge 21 = .ok (.invokevirtual 237, 3) := by decide +kernel
theorem dX8_judge_24 : decode cX8_judge 24 = .ok (.ifCond .eq 9, 3) := by decide +kernel
theorem dX8_judge_27 : decode cX8_judge 27 = .ok (.aload_n 0, 1) := by decide +kernel
theorem dX8_judge_28 : decode cX8_judge 28 = .ok (.iconst 2, 1) := by decide +kernel
theorem dX8_judge_29 : decode cX8_judge 29 = .ok (.invokevirtual 64, 3) := by decide +kernel
theorem dX8_judge_32 : decode cX8_judge 32 = .ok (.ireturn, 1) := by decide +kernel
theorem dX8_judge_33 : decode cX8_judge 33 = .ok (.aload_n 2, 1) := by decide +kernel
theorem dX8_judge_34 : decode cX8_judge 34 = .ok (.getfield 241, 3) := by decide +kernel
theorem dX8_judge_37 : decode cX8_judge 37 = .ok (.aload_n 0, 1) := by decide +kernel
theorem dX8_judge_38 : decode cX8_judge 38 = .ok (.getfield 10, 3) := by decide +kernel
theorem dX8_judge_41 : decode cX8_judge 41 = .ok (.getfield 72, 3) := by decide +kernel
theorem dX8_judge_44 : decode cX8_judge 44 = .ok (.invokestatic 313, 3) := by decide +kernel
theorem dX8_judge_47 : decode cX8_judge 47 = .ok (.istore_n 3, 1) := by decide +kernel
theorem dX8_judge_48 : decode cX8_judge 48 = .ok (.iconst 0, 1) := by decide +kernel
theorem dX8_judge_49 : decode cX8_judge 49 = .ok (.istore 4, 2) := by decide +kernel
theorem dX8_judge_51 : decode cX8_judge 51 = .ok (.iload 4, 2) := by decide +kernel
theorem dX8_judge_53 : decode cX8_judge 53 = .ok (.iload_n 3, 1) := by decide +kernel
theorem dX8_judge_54 : decode cX8_judge 54 = .ok (.if_icmp .ge 32, 3) := by decide +kernel
theorem dX8_judge_57 : decode cX8_judge 57 = .ok (.aload_n 2, 1) := by decide +kernel
theorem dX8_judge_58 : decode cX8_judge 58 = .ok (.getfield 252, 3) := by decide +kernel
theorem dX8_judge_61 : decode cX8_judge 61 = .ok (.iload 4, 2) := by decide +kernel
theorem dX8_judge_63 : decode cX8_judge 63 = .ok (.iaload, 1) := by decide +kernel
theorem dX8_judge_64 : decode cX8_judge 64 = .ok (.aload_n 0, 1) := by decide +kernel
theorem dX8_judge_65 : decode cX8_judge 65 = .ok (.getfield 10, 3) := by decide +kernel
theorem dX8_judge_68 : decode cX8_judge 68 = .ok (.getfield 84, 3) := by decide +kernel
theorem dX8_judge_71 : decode cX8_judge 71 = .ok (.iload 4, 2) := by decide +kernel
theorem dX8_judge_73 : decode cX8_judge 73 = .ok (.iaload, 1) := by decide +kernel
theorem dX8_judge_74 : decode cX8_judge 74 = .ok (.if_icmp .eq 6, 3) := by decide +kernel
theorem dX8_judge_77 : decode cX8_judge 77 = .ok (.iload 4, 2) := by decide +kernel
theorem dX8_judge_79 : decode cX8_judge 79 = .ok (.ireturn, 1) := by decide +kernel
theorem dX8_judge_80 : decode cX8_judge 80 = .ok (.iinc 4 1, 3) := by decide +kernel
theorem dX8_judge_83 : decode cX8_judge 83 = .ok (.goto (-32), 3) := by decide +kernel
theorem dX8_judge_86 : decode cX8_judge 86 = .ok (.aload_n 2, 1) := by decide +kernel
theorem dX8_judge_87 : decode cX8_judge 87 = .ok (.getfield 241, 3) := by decide +kernel
theorem dX8_judge_90 : decode cX8_judge 90 = .ok (.aload_n 0, 1) := by decide +kernel
theorem dX8_judge_91 : decode cX8_judge 91 = .ok (.getfield 10, 3) := by decide +kernel
theorem dX8_judge_94 : decode cX8_judge 94 = .ok (.getfield 72, 3) := by decide +kernel
theorem dX8_judge_97 : decode cX8_judge 97 = .ok (.if_icmp .ne 7, 3) := by decide +kernel
theorem dX8_judge_100 : decode cX8_judge 100 = .ok (.iconst (-1), 1) := by decide +kernel
theorem dX8_judge_101 : decode cX8_judge 101 = .ok (.goto 4, 3) := by decide +kernel
theorem dX8_judge_104 : decode cX8_judge 104 = .ok (.iload_n 3, 1) := by decide +kernel
theorem dX8_judge_105 : decode cX8_judge 105 = .ok (.ireturn, 1) := by decide +kernel
set_option maxRecDepth 20000 in
theorem ggX8_image_X0_takeOver : GoodIn wsX8_image wsX0_takeOver := goodIn_r _ [8, 9, 10, 11, 12, 13, 14, 15, 16, 17, 18, 19, 20, 21, 22, 23, 24, 25, 26, 27, 28, 29, 30, 31, 32, 33, 34, 35, 36, 37, 38, 39, 40, 41, 42, 43, 44, 45, 46, 47, 48, 49, 61, 62, 63, 64, 65, 66, 67, 68, 69, 70, 71, 72, 73, 74, 75, 76, 77, 78, 79, 80, 81] (by decide +kernel) (by decide +kernel)
set_option maxRecDepth 20000 in
theorem gX8_image_X0_takeOver : GoodIn wsX8_image (wsV RX8 210 RX0 yX0_takeOver wsX0_takeOver) := goodIn_app (goodIn_of _ (by decide +kernel)) ggX8_image_X0_takeOver
theorem dX8_image_0 : decode cX8_image 0 = .ok (.aload_n 0, 1) := by decide +kernel
theorem dX8_image_1 : decode cX8_image 1 = .ok (.getfield 19, 3) := by decide +kernel
theorem dX8_image_4 : decode cX8_image 4 = .ok (.aload_n 0, 1) := by decide +kernel
theorem dX8_image_5 : decode cX8_image 5 = .ok (.getfield 10, 3) := by decide +kernel
theorem dX8_image_8 : decode cX8_image 8 = .ok (.invokevirtual 210, 3) := by decide +kernel
theorem dX8_image_11 : decode cX8_image 11 = .ok (.aload_n 0, 1) := by decide +kernel
theorem dX8_image_12 : decode cX8_image 12 = .ok (.dup, 1) := by decide +kernel
theorem dX8_image_13 : decode cX8_image 13 = .ok (.getfield 318, 3) := by decide +kernel
theorem dX8_image_16 : decode cX8_image 16 = .ok (.iconst 1, 1) := by decide +kernel
theorem dX8_image_17 : decode cX8_image 17 = .ok (.iadd, 1) := by decide +kernel
theorem dX8_image_18 : decode cX8_image 18 = .ok (.putfield 318, 3) := by decide +kernel
theorem dX8_image_21 : decode cX8_image 21 = .ok (.aload_n 0, 1) := by decide +kernel
theorem dX8_image_22 : decode cX8_image 22 = .ok (.getfield 318, 3) := by decide +kernel
theorem dX8_image_25 : decode cX8_image 25 = .ok (.ireturn, 1) := by decide +kernel
set_option maxRecDepth 20000 in
theorem ggX8_restore_X8_error : GoodIn wsX8_restore wsX8_error := goodIn_r _ [9, 10, 11, 12, 13, 8, 14, 61, 62, 63, 64, 65, 66, 67, 68, 69, 70, 71] (by decide +kernel) (by decide +kernel)
set_option maxRecDepth 20000 in
theorem gX8_restore_X8_error : GoodIn wsX8_restore (wsV RX8 64 RX8 yX8_error wsX8_error) := goodIn_app (goodIn_of _ (by decide +kernel)) ggX8_restore_X8_error
set_option maxRecDepth 20000 in
theorem ggX8_restore_X0_takeOver : GoodIn wsX8_restore wsX0_takeOver := goodIn_r _ [19, 20, 21, 22, 23, 24, 25, 26, 27, 28, 29, 30, 31, 32, 33, 34, 35, 36, 37, 38, 39, 40, 41, 42, 43, 44, 45, 46, 47, 48, 49, 50, 51, 52, 53, 54, 55, 56, 57, 58, 59, 60, 72, 73, 74, 75, 76, 77, 78, 79, 80, 81, 82, 83, 84, 85, 86, 87, 88, 89, 90, 91, 92] (by decide +kernel) (by decide +kernel)
set_option maxRecDepth 20000 in
theorem gX8_restore_X0_takeOver : GoodIn wsX8_restore (wsV RX8 210 RX0 yX0_takeOver wsX0_takeOver) := goodIn_app (goodIn_of _ (by decide +kernel)) ggX8_restore_X0_takeOver
