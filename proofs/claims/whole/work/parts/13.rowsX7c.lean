theorem dX7_changes_74 : decode cX7_changes 74 = .ok (.ireturn, 1) := by decide +kernel
set_option maxRecDepth 20000 in
theorem ggX7_descending_X7_isDay : GoodIn wsX7_descending wsX7_isDay := goodIn_r _ [5, 6, 7, 8, 4, 9] (by decide +kernel) (by decide +kernel)
set_option maxRecDepth 20000 in
theorem gX7_descending_X7_isDay : GoodIn wsX7_descending (va_wsS RX7 178 yX7_isDay wsX7_isDay) := goodIn_app (goodIn_of _ (by decide +kernel)) ggX7_descending_X7_isDay
set_option maxRecDepth 20000 in
theorem ggX7_descending_X7_isHouse : GoodIn wsX7_descending wsX7_isHouse := goodIn_r _ [13, 1, 7, 8, 4, 9, 55, 56, 57, 58, 59, 60, 61, 62, 63, 64, 65, 66, 67, 68, 69, 70, 71, 72, 73, 74, 75, 76, 77, 78, 79, 80, 81, 82, 83, 84, 85, 86, 87, 88, 89, 90, 91, 92] (by decide +kernel) (by decide +kernel)
set_option maxRecDepth 20000 in
theorem gX7_descending_X7_isHouse : GoodIn wsX7_descending (wsV RX7 181 RX7 yX7_isHouse wsX7_isHouse) := goodIn_app (goodIn_of _ (by decide +kernel)) ggX7_descending_X7_isHouse
set_option maxRecDepth 20000 in
theorem ggX7_descending_X7_numberNow : GoodIn wsX7_descending wsX7_numberNow := goodIn_r _ [17, 18, 19, 20, 21, 4, 22, 23, 24, 25, 26, 27, 28, 29, 30, 31, 32, 33, 34, 35, 36, 37, 38, 39, 40, 41, 42, 43, 44, 45, 46, 47, 48, 49, 50, 51, 52, 53, 54, 55, 56, 57, 58, 59, 60, 61, 62, 63, 64, 65, 66, 67, 68, 69, 70, 71, 72, 73, 74, 75, 76, 77, 78, 79, 80, 81, 82, 83, 84, 85, 86, 87, 88, 89, 90, 91, 92] (by decide +kernel) (by decide +kernel)
set_option maxRecDepth 20000 in
theorem gX7_descending_X7_numberNow : GoodIn wsX7_descending (wsV RX7 228 RX7 yX7_numberNow wsX7_numberNow) := goodIn_app (goodIn_of _ (by decide +kernel)) ggX7_descending_X7_numberNow
theorem dX7_descending_0 : decode cX7_descending 0 = .ok (.iload_n 1, 1) := by decide +kernel
theorem dX7_descending_1 : decode cX7_descending 1 = .ok (.invokestatic 178, 3) := by decide +kernel
theorem dX7_descending_4 : decode cX7_descending 4 = .ok (.ifCond .eq 11, 3) := by decide +kernel
theorem dX7_descending_7 : decode cX7_descending 7 = .ok (.aload_n 0, 1) := by decide +kernel
theorem dX7_descending_8 : decode cX7_descending 8 = .ok (.iload_n 2, 1) := by decide +kernel
theorem dX7_descending_9 : decode cX7_descending 9 = .ok (.invokevirtual 181, 3) := by decide +kernel
theorem dX7_descending_12 : decode cX7_descending 12 = .ok (.ifCond .ne 5, 3) := by decide +kernel
theorem dX7_descending_15 : decode cX7_descending 15 = .ok (.iconst (-1), 1) := by decide +kernel
theorem dX7_descending_16 : decode cX7_descending 16 = .ok (.ireturn, 1) := by decide +kernel
theorem dX7_descending_17 : decode cX7_descending 17 = .ok (.iconst 0, 1) := by decide +kernel
theorem dX7_descending_18 : decode cX7_descending 18 = .ok (.istore_n 3, 1) := by decide +kernel
theorem dX7_descending_19 : decode cX7_descending 19 = .ok (.iconst 0, 1) := by decide +kernel
theorem dX7_descending_20 : decode cX7_descending 20 = .ok (.istore 4, 2) := by decide +kernel
theorem dX7_descending_22 : decode cX7_descending 22 = .ok (.iconst 0, 1) := by decide +kernel
theorem dX7_descending_23 : decode cX7_descending 23 = .ok (.istore 5, 2) := by decide +kernel
theorem dX7_descending_25 : decode cX7_descending 25 = .ok (.iload 5, 2) := by decide +kernel
theorem dX7_descending_27 : decode cX7_descending 27 = .ok (.iload_n 2, 1) := by decide +kernel
theorem dX7_descending_28 : decode cX7_descending 28 = .ok (.if_icmp .gt 102, 3) := by decide +kernel
theorem dX7_descending_31 : decode cX7_descending 31 = .ok (.bipush (-4), 2) := by decide +kernel
theorem dX7_descending_33 : decode cX7_descending 33 = .ok (.istore 4, 2) := by decide +kernel
theorem dX7_descending_35 : decode cX7_descending 35 = .ok (.bipush (-5), 2) := by decide +kernel
theorem dX7_descending_37 : decode cX7_descending 37 = .ok (.istore 6, 2) := by decide +kernel
theorem dX7_descending_39 : decode cX7_descending 39 = .ok (.iconst 0, 1) := by decide +kernel
theorem dX7_descending_40 : decode cX7_descending 40 = .ok (.istore 7, 2) := by decide +kernel
theorem dX7_descending_42 : decode cX7_descending 42 = .ok (.iload 7, 2) := by decide +kernel
theorem dX7_descending_44 : decode cX7_descending 44 = .ok (.aload_n 0, 1) := by decide +kernel
theorem dX7_descending_45 : decode cX7_descending 45 = .ok (.getfield 13, 3) := by decide +kernel
theorem dX7_descending_48 : decode cX7_descending 48 = .ok (.if_icmp .ge 69, 3) := by decide +kernel
theorem dX7_descending_51 : decode cX7_descending 51 = .ok (.aload_n 0, 1) := by decide +kernel
theorem dX7_descending_52 : decode cX7_descending 52 = .ok (.iload 7, 2) := by decide +kernel
theorem dX7_descending_54 : decode cX7_descending 54 = .ok (.iload_n 1, 1) := by decide +kernel
theorem dX7_descending_55 : decode cX7_descending 55 = .ok (.invokevirtual 228, 3) := by decide +kernel
theorem dX7_descending_58 : decode cX7_descending 58 = .ok (.istore 8, 2) := by decide +kernel
theorem dX7_descending_60 : decode cX7_descending 60 = .ok (.iload_n 3, 1) := by decide +kernel
theorem dX7_descending_61 : decode cX7_descending 61 = .ok (.iload 7, 2) := by decide +kernel
theorem dX7_descending_63 : decode cX7_descending 63 = .ok (.ishr, 1) := by decide +kernel
theorem dX7_descending_64 : decode cX7_descending 64 = .ok (.iconst 1, 1) := by decide +kernel
theorem dX7_descending_65 : decode cX7_descending 65 = .ok (.iand, 1) := by decide +kernel
theorem dX7_descending_66 : decode cX7_descending 66 = .ok (.ifCond .ne 14, 3) := by decide +kernel
theorem dX7_descending_69 : decode cX7_descending 69 = .ok (.iload 8, 2) := by decide +kernel
theorem dX7_descending_71 : decode cX7_descending 71 = .ok (.iload 6, 2) := by decide +kernel
theorem dX7_descending_73 : decode cX7_descending 73 = .ok (.if_icmp .le 7, 3) := by decide +kernel
theorem dX7_descending_76 : decode cX7_descending 76 = .ok (.iconst 1, 1) := by decide +kernel
theorem dX7_descending_77 : decode cX7_descending 77 = .ok (.goto 4, 3) := by decide +kernel
theorem dX7_descending_80 : decode cX7_descending 80 = .ok (.iconst 0, 1) := by decide +kernel
theorem dX7_descending_81 : decode cX7_descending 81 = .ok (.istore 9, 2) := by decide +kernel
theorem dX7_descending_83 : decode cX7_descending 83 = .ok (.iload 9, 2) := by decide +kernel
theorem dX7_descending_85 : decode cX7_descending 85 = .ok (.ifCond .eq 8, 3) := by decide +kernel
theorem dX7_descending_88 : decode cX7_descending 88 = .ok (.iload 7, 2) := by decide +kernel
theorem dX7_descending_90 : decode cX7_descending 90 = .ok (.goto 5, 3) := by decide +kernel
theorem dX7_descending_93 : decode cX7_descending 93 = .ok (.iload 4, 2) := by decide +kernel
theorem dX7_descending_95 : decode cX7_descending 95 = .ok (.istore 4, 2) := by decide +kernel
theorem dX7_descending_97 : decode cX7_descending 97 = .ok (.iload 9, 2) := by decide +kernel
theorem dX7_descending_99 : decode cX7_descending 99 = .ok (.ifCond .eq 8, 3) := by decide +kernel
theorem dX7_descending_102 : decode cX7_descending 102 = .ok (.iload 8, 2) := by decide +kernel
theorem dX7_descending_104 : decode cX7_descending 104 = .ok (.goto 5, 3) := by decide +kernel
theorem dX7_descending_107 : decode cX7_descending 107 = .ok (.iload 6, 2) := by decide +kernel
theorem dX7_descending_109 : decode cX7_descending 109 = .ok (.istore 6, 2) := by decide +kernel
theorem dX7_descending_111 : decode cX7_descending 111 = .ok (.iinc 7 1, 3) := by decide +kernel
theorem dX7_descending_114 : decode cX7_descending 114 = .ok (.goto (-72), 3) := by decide +kernel
theorem dX7_descending_117 : decode cX7_descending 117 = .ok (.iload_n 3, 1) := by decide +kernel
theorem dX7_descending_118 : decode cX7_descending 118 = .ok (.iconst 1, 1) := by decide +kernel
theorem dX7_descending_119 : decode cX7_descending 119 = .ok (.iload 4, 2) := by decide +kernel
theorem dX7_descending_121 : decode cX7_descending 121 = .ok (.ishl, 1) := by decide +kernel
theorem dX7_descending_122 : decode cX7_descending 122 = .ok (.ior, 1) := by decide +kernel
theorem dX7_descending_123 : decode cX7_descending 123 = .ok (.istore_n 3, 1) := by decide +kernel
theorem dX7_descending_124 : decode cX7_descending 124 = .ok (.iinc 5 1, 3) := by decide +kernel
theorem dX7_descending_127 : decode cX7_descending 127 = .ok (.goto (-102), 3) := by decide +kernel
theorem dX7_descending_130 : decode cX7_descending 130 = .ok (.iload 4, 2) := by decide +kernel
theorem dX7_descending_132 : decode cX7_descending 132 = .ok (.ireturn, 1) := by decide +kernel
set_option maxRecDepth 20000 in
theorem ggX7_sumOf_X7_numberOf : GoodIn wsX7_sumOf wsX7_numberOf := goodIn_r _ [6, 7, 8, 9, 5, 10, 11, 12, 13, 14, 15, 16, 17, 18, 19, 20, 21, 22, 23, 24, 25, 26, 27, 28, 29, 30, 31, 32, 33, 34, 35, 36, 37, 38, 39, 40, 41, 42, 43, 44, 45, 46, 47, 48, 49, 50, 51, 52, 53, 54, 55, 56, 57, 58, 59, 60, 61, 62, 63, 64, 65, 66, 67, 68, 69, 70, 71, 72, 73, 74, 75, 76, 77] (by decide +kernel) (by decide +kernel)
set_option maxRecDepth 20000 in
theorem gX7_sumOf_X7_numberOf : GoodIn wsX7_sumOf (wsV RX7 224 RX7 yX7_numberOf wsX7_numberOf) := goodIn_app (goodIn_of _ (by decide +kernel)) ggX7_sumOf_X7_numberOf
theorem dX7_sumOf_0 : decode cX7_sumOf 0 = .ok (.iconst 0, 1) := by decide +kernel
theorem dX7_sumOf_1 : decode cX7_sumOf 1 = .ok (.istore 4, 2) := by decide +kernel
theorem dX7_sumOf_3 : decode cX7_sumOf 3 = .ok (.iconst 0, 1) := by decide +kernel
theorem dX7_sumOf_4 : decode cX7_sumOf 4 = .ok (.istore 5, 2) := by decide +kernel
theorem dX7_sumOf_6 : decode cX7_sumOf 6 = .ok (.iload 5, 2) := by decide +kernel
theorem dX7_sumOf_8 : decode cX7_sumOf 8 = .ok (.aload_n 0, 1) := by decide +kernel
theorem dX7_sumOf_9 : decode cX7_sumOf 9 = .ok (.getfield 13, 3) := by decide +kernel
theorem dX7_sumOf_12 : decode cX7_sumOf 12 = .ok (.if_icmp .ge 38, 3) := by decide +kernel
theorem dX7_sumOf_15 : decode cX7_sumOf 15 = .ok (.aload_n 0, 1) := by decide +kernel
theorem dX7_sumOf_16 : decode cX7_sumOf 16 = .ok (.iload_n 1, 1) := by decide +kernel
theorem dX7_sumOf_17 : decode cX7_sumOf 17 = .ok (.iload 5, 2) := by decide +kernel
theorem dX7_sumOf_19 : decode cX7_sumOf 19 = .ok (.iload_n 2, 1) := by decide +kernel
theorem dX7_sumOf_20 : decode cX7_sumOf 20 = .ok (.iload_n 3, 1) := by decide +kernel
theorem dX7_sumOf_21 : decode cX7_sumOf 21 = .ok (.invokevirtual 224, 3) := by decide +kernel
theorem dX7_sumOf_24 : decode cX7_sumOf 24 = .ok (.istore 6, 2) := by decide +kernel
theorem dX7_sumOf_26 : decode cX7_sumOf 26 = .ok (.iload 4, 2) := by decide +kernel
theorem dX7_sumOf_28 : decode cX7_sumOf 28 = .ok (.iload 6, 2) := by decide +kernel
theorem dX7_sumOf_30 : decode cX7_sumOf 30 = .ok (.bipush (-4), 2) := by decide +kernel
theorem dX7_sumOf_32 : decode cX7_sumOf 32 = .ok (.if_icmp .ne 7, 3) := by decide +kernel
theorem dX7_sumOf_35 : decode cX7_sumOf 35 = .ok (.iconst 0, 1) := by decide +kernel
theorem dX7_sumOf_36 : decode cX7_sumOf 36 = .ok (.goto 5, 3) := by decide +kernel
theorem dX7_sumOf_39 : decode cX7_sumOf 39 = .ok (.iload 6, 2) := by decide +kernel
theorem dX7_sumOf_41 : decode cX7_sumOf 41 = .ok (.iadd, 1) := by decide +kernel
theorem dX7_sumOf_42 : decode cX7_sumOf 42 = .ok (.istore 4, 2) := by decide +kernel
theorem dX7_sumOf_44 : decode cX7_sumOf 44 = .ok (.iinc 5 1, 3) := by decide +kernel
theorem dX7_sumOf_47 : decode cX7_sumOf 47 = .ok (.goto (-41), 3) := by decide +kernel
theorem dX7_sumOf_50 : decode cX7_sumOf 50 = .ok (.iload 4, 2) := by decide +kernel
theorem dX7_sumOf_52 : decode cX7_sumOf 52 = .ok (.ireturn, 1) := by decide +kernel
set_option maxRecDepth 20000 in
theorem ggX7_all_X7_isDay : GoodIn wsX7_all wsX7_isDay := goodIn_r _ [5, 6, 7, 8, 4, 9] (by decide +kernel) (by decide +kernel)
set_option maxRecDepth 20000 in
theorem gX7_all_X7_isDay : GoodIn wsX7_all (va_wsS RX7 178 yX7_isDay wsX7_isDay) := goodIn_app (goodIn_of _ (by decide +kernel)) ggX7_all_X7_isDay
set_option maxRecDepth 20000 in
theorem ggX7_all_X7_in : GoodIn wsX7_all wsX7_in := goodIn_r _ [9] (by decide +kernel) (by decide +kernel)
set_option maxRecDepth 20000 in
theorem gX7_all_X7_in : GoodIn wsX7_all (va_wsS RX7 66 yX7_in wsX7_in) := goodIn_app (goodIn_of _ (by decide +kernel)) ggX7_all_X7_in
set_option maxRecDepth 20000 in
theorem ggX7_all_X7_sumOf : GoodIn wsX7_all wsX7_sumOf := goodIn_r _ [13, 14, 15, 16, 17, 4, 18, 19, 20, 21, 22, 23, 24, 25, 26, 27, 28, 29, 30, 31, 32, 33, 34, 35, 36, 37, 38, 39, 40, 41, 42, 43, 44, 45, 46, 47, 48, 49, 50, 51, 52, 53, 54, 55, 56, 57, 58, 59, 60, 61, 62, 63, 64, 65, 66, 67, 68, 69, 70, 71, 72, 73, 74, 75, 76, 77, 78, 79, 80, 81, 82, 83, 84, 85, 86, 87, 88, 89] (by decide +kernel) (by decide +kernel)
set_option maxRecDepth 20000 in
theorem gX7_all_X7_sumOf : GoodIn wsX7_all (wsV RX7 238 RX7 yX7_sumOf wsX7_sumOf) := goodIn_app (goodIn_of _ (by decide +kernel)) ggX7_all_X7_sumOf
theorem dX7_all_0 : decode cX7_all 0 = .ok (.iload_n 1, 1) := by decide +kernel
theorem dX7_all_1 : decode cX7_all 1 = .ok (.invokestatic 178, 3) := by decide +kernel
theorem dX7_all_4 : decode cX7_all 4 = .ok (.ifCond .eq 25, 3) := by decide +kernel
theorem dX7_all_7 : decode cX7_all 7 = .ok (.iload_n 2, 1) := by decide +kernel
theorem dX7_all_8 : decode cX7_all 8 = .ok (.i2l, 1) := by decide +kernel
theorem dX7_all_9 : decode cX7_all 9 = .ok (.lconst 0, 1) := by decide +kernel
theorem dX7_all_10 : decode cX7_all 10 = .ok (.ldc2_w 139, 3) := by decide +kernel
theorem dX7_all_13 : decode cX7_all 13 = .ok (.invokestatic 66, 3) := by decide +kernel
theorem dX7_all_16 : decode cX7_all 16 = .ok (.ifCond .eq 13, 3) := by decide +kernel
theorem dX7_all_19 : decode cX7_all 19 = .ok (.aload_n 0, 1) := by decide +kernel
theorem dX7_all_20 : decode cX7_all 20 = .ok (.iconst 0, 1) := by decide +kernel
theorem dX7_all_21 : decode cX7_all 21 = .ok (.iload_n 1, 1) := by decide +kernel
theorem dX7_all_22 : decode cX7_all 22 = .ok (.iload_n 2, 1) := by decide +kernel
theorem dX7_all_23 : decode cX7_all 23 = .ok (.invokevirtual 238, 3) := by decide +kernel
theorem dX7_all_26 : decode cX7_all 26 = .ok (.goto 4, 3) := by decide +kernel
theorem dX7_all_29 : decode cX7_all 29 = .ok (.iconst (-1), 1) := by decide +kernel
theorem dX7_all_30 : decode cX7_all 30 = .ok (.ireturn, 1) := by decide +kernel
set_option maxRecDepth 20000 in
theorem ggX7_letter_X7_in : GoodIn wsX7_letter wsX7_in := goodIn_r _ [6] (by decide +kernel) (by decide +kernel)
set_option maxRecDepth 20000 in
theorem gX7_letter_X7_in : GoodIn wsX7_letter (va_wsS RX7 66 yX7_in wsX7_in) := goodIn_app (goodIn_of _ (by decide +kernel)) ggX7_letter_X7_in
set_option maxRecDepth 20000 in
theorem ggX7_letter_X7_isDay : GoodIn wsX7_letter wsX7_isDay := goodIn_r _ [9, 10, 3, 4, 5, 6] (by decide +kernel) (by decide +kernel)
set_option maxRecDepth 20000 in
theorem gX7_letter_X7_isDay : GoodIn wsX7_letter (va_wsS RX7 178 yX7_isDay wsX7_isDay) := goodIn_app (goodIn_of _ (by decide +kernel)) ggX7_letter_X7_isDay
set_option maxRecDepth 20000 in
theorem ggX7_letter_X7_with : GoodIn wsX7_letter wsX7_with := goodIn_r _ [14, 15, 16, 17, 18, 5, 19, 20, 21, 22, 23, 24, 25, 26, 27, 28, 29, 30, 31, 32, 33, 34, 35, 36, 37, 38, 39, 40, 41, 42, 43, 44, 45, 46, 47, 48, 49, 50, 51, 52, 53, 54, 55, 56, 57, 58, 59, 60, 61, 62, 63, 64, 65, 66, 67, 68, 69, 70, 71, 72, 73, 74, 75, 76, 77, 78, 79, 80, 81, 82, 83, 84, 85, 86, 87, 88, 89, 90, 91, 92, 93, 94] (by decide +kernel) (by decide +kernel)
set_option maxRecDepth 20000 in
theorem gX7_letter_X7_with : GoodIn wsX7_letter (wsV RX7 231 RX7 yX7_with wsX7_with) := goodIn_app (goodIn_of _ (by decide +kernel)) ggX7_letter_X7_with
theorem dX7_letter_0 : decode cX7_letter 0 = .ok (.iload_n 1, 1) := by decide +kernel
theorem dX7_letter_1 : decode cX7_letter 1 = .ok (.i2l, 1) := by decide +kernel
theorem dX7_letter_2 : decode cX7_letter 2 = .ok (.lconst 0, 1) := by decide +kernel
theorem dX7_letter_3 : decode cX7_letter 3 = .ok (.ldc2_w 241, 3) := by decide +kernel
theorem dX7_letter_6 : decode cX7_letter 6 = .ok (.invokestatic 66, 3) := by decide +kernel
theorem dX7_letter_9 : decode cX7_letter 9 = .ok (.ifCond .eq 30, 3) := by decide +kernel
theorem dX7_letter_12 : decode cX7_letter 12 = .ok (.iload_n 2, 1) := by decide +kernel
theorem dX7_letter_13 : decode cX7_letter 13 = .ok (.invokestatic 178, 3) := by decide +kernel
theorem dX7_letter_16 : decode cX7_letter 16 = .ok (.ifCond .eq 23, 3) := by decide +kernel
theorem dX7_letter_19 : decode cX7_letter 19 = .ok (.iload_n 3, 1) := by decide +kernel
theorem dX7_letter_20 : decode cX7_letter 20 = .ok (.invokestatic 178, 3) := by decide +kernel
theorem dX7_letter_23 : decode cX7_letter 23 = .ok (.ifCond .eq 16, 3) := by decide +kernel
theorem dX7_letter_26 : decode cX7_letter 26 = .ok (.iload 4, 2) := by decide +kernel
theorem dX7_letter_28 : decode cX7_letter 28 = .ok (.i2l, 1) := by decide +kernel
theorem dX7_letter_29 : decode cX7_letter 29 = .ok (.lconst 0, 1) := by decide +kernel
theorem dX7_letter_30 : decode cX7_letter 30 = .ok (.ldc2_w 172, 3) := by decide +kernel
theorem dX7_letter_33 : decode cX7_letter 33 = .ok (.invokestatic 66, 3) := by decide +kernel
theorem dX7_letter_36 : decode cX7_letter 36 = .ok (.ifCond .ne 5, 3) := by decide +kernel
theorem dX7_letter_39 : decode cX7_letter 39 = .ok (.iconst (-1), 1) := by decide +kernel
theorem dX7_letter_40 : decode cX7_letter 40 = .ok (.ireturn, 1) := by decide +kernel
theorem dX7_letter_41 : decode cX7_letter 41 = .ok (.aload_n 0, 1) := by decide +kernel
theorem dX7_letter_42 : decode cX7_letter 42 = .ok (.iload_n 1, 1) := by decide +kernel
theorem dX7_letter_43 : decode cX7_letter 43 = .ok (.iload_n 2, 1) := by decide +kernel
theorem dX7_letter_44 : decode cX7_letter 44 = .ok (.invokevirtual 231, 3) := by decide +kernel
theorem dX7_letter_47 : decode cX7_letter 47 = .ok (.istore 5, 2) := by decide +kernel
theorem dX7_letter_49 : decode cX7_letter 49 = .ok (.aload_n 0, 1) := by decide +kernel
theorem dX7_letter_50 : decode cX7_letter 50 = .ok (.iload_n 1, 1) := by decide +kernel
theorem dX7_letter_51 : decode cX7_letter 51 = .ok (.iload_n 3, 1) := by decide +kernel
theorem dX7_letter_52 : decode cX7_letter 52 = .ok (.invokevirtual 231, 3) := by decide +kernel
theorem dX7_letter_55 : decode cX7_letter 55 = .ok (.istore 6, 2) := by decide +kernel
theorem dX7_letter_57 : decode cX7_letter 57 = .ok (.iload 4, 2) := by decide +kernel
theorem dX7_letter_59 : decode cX7_letter 59 = .ok (.ifCond .ne 8, 3) := by decide +kernel
theorem dX7_letter_62 : decode cX7_letter 62 = .ok (.iload 5, 2) := by decide +kernel
theorem dX7_letter_64 : decode cX7_letter 64 = .ok (.goto 21, 3) := by decide +kernel
theorem dX7_letter_67 : decode cX7_letter 67 = .ok (.iload 4, 2) := by decide +kernel
theorem dX7_letter_69 : decode cX7_letter 69 = .ok (.iconst 1, 1) := by decide +kernel
theorem dX7_letter_70 : decode cX7_letter 70 = .ok (.if_icmp .ne 8, 3) := by decide +kernel
theorem dX7_letter_73 : decode cX7_letter 73 = .ok (.iload 6, 2) := by decide +kernel
theorem dX7_letter_75 : decode cX7_letter 75 = .ok (.goto 10, 3) := by decide +kernel
theorem dX7_letter_78 : decode cX7_letter 78 = .ok (.iload 5, 2) := by decide +kernel
theorem dX7_letter_80 : decode cX7_letter 80 = .ok (.iload 6, 2) := by decide +kernel
theorem dX7_letter_82 : decode cX7_letter 82 = .ok (.iconst (-1), 1) := by decide +kernel
theorem dX7_letter_83 : decode cX7_letter 83 = .ok (.ixor, 1) := by decide +kernel
theorem dX7_letter_84 : decode cX7_letter 84 = .ok (.iand, 1) := by decide +kernel
theorem dX7_letter_85 : decode cX7_letter 85 = .ok (.ireturn, 1) := by decide +kernel
set_option maxRecDepth 20000 in
theorem ggX7_round_X7_isDay : GoodIn wsX7_round wsX7_isDay := goodIn_r _ [6, 7, 8, 9, 5, 10] (by decide +kernel) (by decide +kernel)
set_option maxRecDepth 20000 in
theorem gX7_round_X7_isDay : GoodIn wsX7_round (va_wsS RX7 178 yX7_isDay wsX7_isDay) := goodIn_app (goodIn_of _ (by decide +kernel)) ggX7_round_X7_isDay
set_option maxRecDepth 20000 in
theorem ggX7_round_X7_in : GoodIn wsX7_round wsX7_in := goodIn_r _ [10] (by decide +kernel) (by decide +kernel)
set_option maxRecDepth 20000 in
theorem gX7_round_X7_in : GoodIn wsX7_round (va_wsS RX7 66 yX7_in wsX7_in) := goodIn_app (goodIn_of _ (by decide +kernel)) ggX7_round_X7_in
set_option maxRecDepth 20000 in
theorem ggX7_round_X7_numberNow : GoodIn wsX7_round wsX7_numberNow := goodIn_r _ [14, 15, 16, 17, 18, 5, 19, 20, 21, 22, 23, 24, 25, 26, 27, 28, 29, 30, 31, 32, 33, 34, 35, 36, 37, 38, 39, 40, 41, 42, 43, 44, 45, 46, 47, 48, 49, 50, 51, 52, 53, 54, 55, 56, 57, 58, 59, 60, 61, 62, 63, 64, 65, 66, 67, 68, 69, 70, 71, 72, 73, 74, 75, 76, 77, 78, 79, 80, 81, 82, 83, 84, 85, 86, 87, 88, 89] (by decide +kernel) (by decide +kernel)
set_option maxRecDepth 20000 in
theorem gX7_round_X7_numberNow : GoodIn wsX7_round (wsV RX7 228 RX7 yX7_numberNow wsX7_numberNow) := goodIn_app (goodIn_of _ (by decide +kernel)) ggX7_round_X7_numberNow
theorem dX7_round_0 : decode cX7_round 0 = .ok (.iload_n 1, 1) := by decide +kernel
theorem dX7_round_1 : decode cX7_round 1 = .ok (.invokestatic 178, 3) := by decide +kernel
theorem dX7_round_4 : decode cX7_round 4 = .ok (.ifCond .eq 15, 3) := by decide +kernel
theorem dX7_round_7 : decode cX7_round 7 = .ok (.iload_n 2, 1) := by decide +kernel
theorem dX7_round_8 : decode cX7_round 8 = .ok (.i2l, 1) := by decide +kernel
theorem dX7_round_9 : decode cX7_round 9 = .ok (.lconst 0, 1) := by decide +kernel
theorem dX7_round_10 : decode cX7_round 10 = .ok (.ldc2_w 243, 3) := by decide +kernel
theorem dX7_round_13 : decode cX7_round 13 = .ok (.invokestatic 66, 3) := by decide +kernel
theorem dX7_round_16 : decode cX7_round 16 = .ok (.ifCond .ne 5, 3) := by decide +kernel
theorem dX7_round_19 : decode cX7_round 19 = .ok (.iconst (-1), 1) := by decide +kernel
theorem dX7_round_20 : decode cX7_round 20 = .ok (.ireturn, 1) := by decide +kernel
theorem dX7_round_21 : decode cX7_round 21 = .ok (.iconst 0, 1) := by decide +kernel
theorem dX7_round_22 : decode cX7_round 22 = .ok (.istore_n 3, 1) := by decide +kernel
theorem dX7_round_23 : decode cX7_round 23 = .ok (.bipush (-4), 2) := by decide +kernel
theorem dX7_round_25 : decode cX7_round 25 = .ok (.istore 4, 2) := by decide +kernel
theorem dX7_round_27 : decode cX7_round 27 = .ok (.iconst 0, 1) := by decide +kernel
theorem dX7_round_28 : decode cX7_round 28 = .ok (.istore 5, 2) := by decide +kernel
theorem dX7_round_30 : decode cX7_round 30 = .ok (.iload 5, 2) := by decide +kernel
theorem dX7_round_32 : decode cX7_round 32 = .ok (.iload_n 2, 1) := by decide +kernel
theorem dX7_round_33 : decode cX7_round 33 = .ok (.if_icmp .gt 121, 3) := by decide +kernel
theorem dX7_round_36 : decode cX7_round 36 = .ok (.bipush (-4), 2) := by decide +kernel
theorem dX7_round_38 : decode cX7_round 38 = .ok (.istore 4, 2) := by decide +kernel
theorem dX7_round_40 : decode cX7_round 40 = .ok (.bipush (-4), 2) := by decide +kernel
theorem dX7_round_42 : decode cX7_round 42 = .ok (.istore 6, 2) := by decide +kernel
theorem dX7_round_44 : decode cX7_round 44 = .ok (.iconst 0, 1) := by decide +kernel
theorem dX7_round_45 : decode cX7_round 45 = .ok (.istore 7, 2) := by decide +kernel
theorem dX7_round_47 : decode cX7_round 47 = .ok (.iload 7, 2) := by decide +kernel
theorem dX7_round_49 : decode cX7_round 49 = .ok (.aload_n 0, 1) := by decide +kernel
theorem dX7_round_50 : decode cX7_round 50 = .ok (.getfield 13, 3) := by decide +kernel
theorem dX7_round_53 : decode cX7_round 53 = .ok (.if_icmp .ge 78, 3) := by decide +kernel
theorem dX7_round_56 : decode cX7_round 56 = .ok (.iload_n 1, 1) := by decide +kernel
theorem dX7_round_57 : decode cX7_round 57 = .ok (.iload 5, 2) := by decide +kernel
theorem dX7_round_59 : decode cX7_round 59 = .ok (.iadd, 1) := by decide +kernel
theorem dX7_round_60 : decode cX7_round 60 = .ok (.invokestatic 178, 3) := by decide +kernel
theorem dX7_round_63 : decode cX7_round 63 = .ok (.ifCond .eq 68, 3) := by decide +kernel
theorem dX7_round_66 : decode cX7_round 66 = .ok (.iload_n 3, 1) := by decide +kernel
theorem dX7_round_67 : decode cX7_round 67 = .ok (.iload 7, 2) := by decide +kernel
theorem dX7_round_69 : decode cX7_round 69 = .ok (.ishr, 1) := by decide +kernel
theorem dX7_round_70 : decode cX7_round 70 = .ok (.iconst 1, 1) := by decide +kernel
theorem dX7_round_71 : decode cX7_round 71 = .ok (.iand, 1) := by decide +kernel
theorem dX7_round_72 : decode cX7_round 72 = .ok (.iconst 1, 1) := by decide +kernel
theorem dX7_round_73 : decode cX7_round 73 = .ok (.if_icmp .ne 8, 3) := by decide +kernel
theorem dX7_round_76 : decode cX7_round 76 = .ok (.bipush (-4), 2) := by decide +kernel
theorem dX7_round_78 : decode cX7_round 78 = .ok (.goto 13, 3) := by decide +kernel
theorem dX7_round_81 : decode cX7_round 81 = .ok (.aload_n 0, 1) := by decide +kernel
theorem dX7_round_82 : decode cX7_round 82 = .ok (.iload 7, 2) := by decide +kernel
theorem dX7_round_84 : decode cX7_round 84 = .ok (.iload_n 1, 1) := by decide +kernel
theorem dX7_round_85 : decode cX7_round 85 = .ok (.iload 5, 2) := by decide +kernel
theorem dX7_round_87 : decode cX7_round 87 = .ok (.iadd, 1) := by decide +kernel
theorem dX7_round_88 : decode cX7_round 88 = .ok (.invokevirtual 228, 3) := by decide +kernel
theorem dX7_round_91 : decode cX7_round 91 = .ok (.istore 8, 2) := by decide +kernel
theorem dX7_round_93 : decode cX7_round 93 = .ok (.iload 8, 2) := by decide +kernel
theorem dX7_round_95 : decode cX7_round 95 = .ok (.iload 6, 2) := by decide +kernel
theorem dX7_round_97 : decode cX7_round 97 = .ok (.if_icmp .le 8, 3) := by decide +kernel
theorem dX7_round_100 : decode cX7_round 100 = .ok (.iload 7, 2) := by decide +kernel
theorem dX7_round_102 : decode cX7_round 102 = .ok (.goto 5, 3) := by decide +kernel
theorem dX7_round_105 : decode cX7_round 105 = .ok (.iload 4, 2) := by decide +kernel
theorem dX7_round_107 : decode cX7_round 107 = .ok (.istore 4, 2) := by decide +kernel
theorem dX7_round_109 : decode cX7_round 109 = .ok (.iload 8, 2) := by decide +kernel
theorem dX7_round_111 : decode cX7_round 111 = .ok (.iload 6, 2) := by decide +kernel
theorem dX7_round_113 : decode cX7_round 113 = .ok (.if_icmp .le 8, 3) := by decide +kernel
theorem dX7_round_116 : decode cX7_round 116 = .ok (.iload 8, 2) := by decide +kernel
theorem dX7_round_118 : decode cX7_round 118 = .ok (.goto 5, 3) := by decide +kernel
theorem dX7_round_121 : decode cX7_round 121 = .ok (.iload 6, 2) := by decide +kernel
theorem dX7_round_123 : decode cX7_round 123 = .ok (.istore 6, 2) := by decide +kernel
theorem dX7_round_125 : decode cX7_round 125 = .ok (.iinc 7 1, 3) := by decide +kernel
theorem dX7_round_128 : decode cX7_round 128 = .ok (.goto (-81), 3) := by decide +kernel
theorem dX7_round_131 : decode cX7_round 131 = .ok (.iload 4, 2) := by decide +kernel
theorem dX7_round_133 : decode cX7_round 133 = .ok (.bipush (-4), 2) := by decide +kernel
theorem dX7_round_135 : decode cX7_round 135 = .ok (.if_icmp .ne 6, 3) := by decide +kernel
theorem dX7_round_138 : decode cX7_round 138 = .ok (.bipush (-4), 2) := by decide +kernel
theorem dX7_round_140 : decode cX7_round 140 = .ok (.ireturn, 1) := by decide +kernel
theorem dX7_round_141 : decode cX7_round 141 = .ok (.iload_n 3, 1) := by decide +kernel
theorem dX7_round_142 : decode cX7_round 142 = .ok (.iconst 1, 1) := by decide +kernel
theorem dX7_round_143 : decode cX7_round 143 = .ok (.iload 4, 2) := by decide +kernel
theorem dX7_round_145 : decode cX7_round 145 = .ok (.ishl, 1) := by decide +kernel
theorem dX7_round_146 : decode cX7_round 146 = .ok (.ior, 1) := by decide +kernel
theorem dX7_round_147 : decode cX7_round 147 = .ok (.istore_n 3, 1) := by decide +kernel
theorem dX7_round_148 : decode cX7_round 148 = .ok (.iinc 5 1, 3) := by decide +kernel
theorem dX7_round_151 : decode cX7_round 151 = .ok (.goto (-121), 3) := by decide +kernel
theorem dX7_round_154 : decode cX7_round 154 = .ok (.iload 4, 2) := by decide +kernel
theorem dX7_round_156 : decode cX7_round 156 = .ok (.ireturn, 1) := by decide +kernel
set_option maxRecDepth 20000 in
theorem ggX7_want_X7_isHouse : GoodIn wsX7_want wsX7_isHouse := goodIn_r _ [8, 9, 10, 11, 7, 12, 13, 14, 15, 16, 17, 18, 19, 20, 21, 22, 23, 24, 25, 26, 27, 28, 29, 30, 31, 32, 33, 34, 35, 36, 37, 38, 39, 40, 41, 42, 43, 44, 45, 46, 47, 48, 49, 50] (by decide +kernel) (by decide +kernel)
set_option maxRecDepth 20000 in
theorem gX7_want_X7_isHouse : GoodIn wsX7_want (wsV RX7 181 RX7 yX7_isHouse wsX7_isHouse) := goodIn_app (goodIn_of _ (by decide +kernel)) ggX7_want_X7_isHouse
set_option maxRecDepth 20000 in
theorem ggX7_want_X7_in : GoodIn wsX7_want wsX7_in := goodIn_r _ [12] (by decide +kernel) (by decide +kernel)
set_option maxRecDepth 20000 in
theorem gX7_want_X7_in : GoodIn wsX7_want (va_wsS RX7 66 yX7_in wsX7_in) := goodIn_app (goodIn_of _ (by decide +kernel)) ggX7_want_X7_in
theorem dX7_want_0 : decode cX7_want 0 = .ok (.aload_n 0, 1) := by decide +kernel
theorem dX7_want_1 : decode cX7_want 1 = .ok (.iload_n 1, 1) := by decide +kernel
theorem dX7_want_2 : decode cX7_want 2 = .ok (.invokevirtual 181, 3) := by decide +kernel
theorem dX7_want_5 : decode cX7_want 5 = .ok (.ifCond .eq 15, 3) := by decide +kernel
theorem dX7_want_8 : decode cX7_want 8 = .ok (.iload_n 2, 1) := by decide +kernel
theorem dX7_want_9 : decode cX7_want 9 = .ok (.i2l, 1) := by decide +kernel
theorem dX7_want_10 : decode cX7_want 10 = .ok (.lconst 0, 1) := by decide +kernel
theorem dX7_want_11 : decode cX7_want 11 = .ok (.ldc2_w 241, 3) := by decide +kernel
theorem dX7_want_14 : decode cX7_want 14 = .ok (.invokestatic 66, 3) := by decide +kernel
theorem dX7_want_17 : decode cX7_want 17 = .ok (.ifCond .ne 5, 3) := by decide +kernel
theorem dX7_want_20 : decode cX7_want 20 = .ok (.iconst (-1), 1) := by decide +kernel
theorem dX7_want_21 : decode cX7_want 21 = .ok (.ireturn, 1) := by decide +kernel
theorem dX7_want_22 : decode cX7_want 22 = .ok (.aload_n 0, 1) := by decide +kernel
theorem dX7_want_23 : decode cX7_want 23 = .ok (.getfield 161, 3) := by decide +kernel
theorem dX7_want_26 : decode cX7_want 26 = .ok (.iconst 4, 1) := by decide +kernel
theorem dX7_want_27 : decode cX7_want 27 = .ok (.if_icmp .ne 6, 3) := by decide +kernel
theorem dX7_want_30 : decode cX7_want 30 = .ok (.bipush (-3), 2) := by decide +kernel
theorem dX7_want_32 : decode cX7_want 32 = .ok (.ireturn, 1) := by decide +kernel
theorem dX7_want_33 : decode cX7_want 33 = .ok (.aload_n 0, 1) := by decide +kernel
theorem dX7_want_34 : decode cX7_want 34 = .ok (.getfield 29, 3) := by decide +kernel
theorem dX7_want_37 : decode cX7_want 37 = .ok (.iconst 2, 1) := by decide +kernel
theorem dX7_want_38 : decode cX7_want 38 = .ok (.aload_n 0, 1) := by decide +kernel
theorem dX7_want_39 : decode cX7_want 39 = .ok (.getfield 161, 3) := by decide +kernel
theorem dX7_want_42 : decode cX7_want 42 = .ok (.imul, 1) := by decide +kernel
theorem dX7_want_43 : decode cX7_want 43 = .ok (.iload_n 1, 1) := by decide +kernel
theorem dX7_want_44 : decode cX7_want 44 = .ok (.iastore, 1) := by decide +kernel
theorem dX7_want_45 : decode cX7_want 45 = .ok (.aload_n 0, 1) := by decide +kernel
theorem dX7_want_46 : decode cX7_want 46 = .ok (.getfield 29, 3) := by decide +kernel
theorem dX7_want_49 : decode cX7_want 49 = .ok (.iconst 2, 1) := by decide +kernel
theorem dX7_want_50 : decode cX7_want 50 = .ok (.aload_n 0, 1) := by decide +kernel
theorem dX7_want_51 : decode cX7_want 51 = .ok (.getfield 161, 3) := by decide +kernel
theorem dX7_want_54 : decode cX7_want 54 = .ok (.imul, 1) := by decide +kernel
theorem dX7_want_55 : decode cX7_want 55 = .ok (.iconst 1, 1) := by decide +kernel
theorem dX7_want_56 : decode cX7_want 56 = .ok (.iadd, 1) := by decide +kernel
theorem dX7_want_57 : decode cX7_want 57 = .ok (.iload_n 2, 1) := by decide +kernel
theorem dX7_want_58 : decode cX7_want 58 = .ok (.iastore, 1) := by decide +kernel
theorem dX7_want_59 : decode cX7_want 59 = .ok (.aload_n 0, 1) := by decide +kernel
theorem dX7_want_60 : decode cX7_want 60 = .ok (.dup, 1) := by decide +kernel
theorem dX7_want_61 : decode cX7_want 61 = .ok (.getfield 161, 3) := by decide +kernel
theorem dX7_want_64 : decode cX7_want 64 = .ok (.iconst 1, 1) := by decide +kernel
theorem dX7_want_65 : decode cX7_want 65 = .ok (.iadd, 1) := by decide +kernel
theorem dX7_want_66 : decode cX7_want 66 = .ok (.putfield 161, 3) := by decide +kernel
theorem dX7_want_69 : decode cX7_want 69 = .ok (.aload_n 0, 1) := by decide +kernel
theorem dX7_want_70 : decode cX7_want 70 = .ok (.getfield 161, 3) := by decide +kernel
theorem dX7_want_73 : decode cX7_want 73 = .ok (.ireturn, 1) := by decide +kernel
theorem dX7_content_0 : decode cX7_content 0 = .ok (.aload_n 0, 1) := by decide +kernel
theorem dX7_content_1 : decode cX7_content 1 = .ok (.getfield 161, 3) := by decide +kernel
theorem dX7_content_4 : decode cX7_content 4 = .ok (.istore_n 1, 1) := by decide +kernel
theorem dX7_content_5 : decode cX7_content 5 = .ok (.aload_n 0, 1) := by decide +kernel
theorem dX7_content_6 : decode cX7_content 6 = .ok (.iconst 0, 1) := by decide +kernel
theorem dX7_content_7 : decode cX7_content 7 = .ok (.putfield 161, 3) := by decide +kernel
theorem dX7_content_10 : decode cX7_content 10 = .ok (.iload_n 1, 1) := by decide +kernel
theorem dX7_content_11 : decode cX7_content 11 = .ok (.ireturn, 1) := by decide +kernel
set_option maxRecDepth 20000 in
theorem ggX7_layNumbers_X7_empties : GoodIn wsX7_layNumbers wsX7_empties := goodIn_r _ [9, 10, 11, 30, 31, 32, 33, 34, 35, 36, 37, 38, 39, 40, 41, 42, 43, 44, 45, 46, 47, 48, 49, 50, 51, 52, 53, 54, 55, 56, 57, 58, 59, 60, 61, 62, 63, 64, 65, 66, 67] (by decide +kernel) (by decide +kernel)
set_option maxRecDepth 20000 in
theorem gX7_layNumbers_X7_empties : GoodIn wsX7_layNumbers (wsV RX7 211 RX7 yX7_empties wsX7_empties) := goodIn_app (goodIn_of _ (by decide +kernel)) ggX7_layNumbers_X7_empties
set_option maxRecDepth 20000 in
theorem ggX7_layNumbers_X7_people : GoodIn wsX7_layNumbers wsX7_people := goodIn_r _ [15, 4, 30, 31, 32, 33, 34, 35, 36, 37, 38, 39, 40, 41, 42, 43, 44, 45, 46, 47, 48, 49, 50, 51, 52, 53, 54, 55, 56, 57, 58, 59, 60, 61, 62, 63, 64, 65, 66, 67] (by decide +kernel) (by decide +kernel)
set_option maxRecDepth 20000 in
theorem gX7_layNumbers_X7_people : GoodIn wsX7_layNumbers (wsV RX7 169 RX7 yX7_people wsX7_people) := goodIn_app (goodIn_of _ (by decide +kernel)) ggX7_layNumbers_X7_people
set_option maxRecDepth 20000 in
theorem ggX7_layNumbers_X7_tellsOf : GoodIn wsX7_layNumbers wsX7_tellsOf := goodIn_r _ [19, 4, 20, 21, 22, 8, 23, 10, 24, 25, 11, 30, 31, 32, 33, 34, 35, 36, 37, 38, 39, 40, 41, 42, 43, 44, 45, 46, 47, 48, 49, 50, 51, 52, 53, 54, 55, 56, 57, 58, 59, 60, 61, 62, 63, 64, 65, 66, 67] (by decide +kernel) (by decide +kernel)
set_option maxRecDepth 20000 in
theorem gX7_layNumbers_X7_tellsOf : GoodIn wsX7_layNumbers (wsV RX7 214 RX7 yX7_tellsOf wsX7_tellsOf) := goodIn_app (goodIn_of _ (by decide +kernel)) ggX7_layNumbers_X7_tellsOf
set_option maxRecDepth 20000 in
theorem ggX7_layNumbers_X7_toldBy : GoodIn wsX7_layNumbers wsX7_toldBy := goodIn_r _ [29, 10, 24, 25, 11, 30, 31, 32, 33, 34, 35, 36, 37, 38, 39, 40, 41, 42, 43, 44, 45, 46, 47, 48, 49, 50, 51, 52, 53, 54, 55, 56, 57, 58, 59, 60, 61, 62, 63, 64, 65, 66, 67] (by decide +kernel) (by decide +kernel)
set_option maxRecDepth 20000 in
theorem gX7_layNumbers_X7_toldBy : GoodIn wsX7_layNumbers (wsV RX7 221 RX7 yX7_toldBy wsX7_toldBy) := goodIn_app (goodIn_of _ (by decide +kernel)) ggX7_layNumbers_X7_toldBy
theorem dX7_layNumbers_0 : decode cX7_layNumbers 0 = .ok (.iconst 0, 1) := by decide +kernel
theorem dX7_layNumbers_1 : decode cX7_layNumbers 1 = .ok (.istore_n 2, 1) := by decide +kernel
theorem dX7_layNumbers_2 : decode cX7_layNumbers 2 = .ok (.iload_n 2, 1) := by decide +kernel
theorem dX7_layNumbers_3 : decode cX7_layNumbers 3 = .ok (.aload_n 0, 1) := by decide +kernel
theorem dX7_layNumbers_4 : decode cX7_layNumbers 4 = .ok (.getfield 13, 3) := by decide +kernel
theorem dX7_layNumbers_7 : decode cX7_layNumbers 7 = .ok (.if_icmp .ge 63, 3) := by decide +kernel
theorem dX7_layNumbers_10 : decode cX7_layNumbers 10 = .ok (.aload_n 0, 1) := by decide +kernel
theorem dX7_layNumbers_11 : decode cX7_layNumbers 11 = .ok (.invokevirtual 211, 3) := by decide +kernel
theorem dX7_layNumbers_14 : decode cX7_layNumbers 14 = .ok (.iconst 0, 1) := by decide +kernel
theorem dX7_layNumbers_15 : decode cX7_layNumbers 15 = .ok (.istore_n 3, 1) := by decide +kernel
theorem dX7_layNumbers_16 : decode cX7_layNumbers 16 = .ok (.iload_n 3, 1) := by decide +kernel
theorem dX7_layNumbers_17 : decode cX7_layNumbers 17 = .ok (.aload_n 0, 1) := by decide +kernel
theorem dX7_layNumbers_18 : decode cX7_layNumbers 18 = .ok (.invokevirtual 169, 3) := by decide +kernel
theorem dX7_layNumbers_21 : decode cX7_layNumbers 21 = .ok (.if_icmp .ge 26, 3) := by decide +kernel
theorem dX7_layNumbers_24 : decode cX7_layNumbers 24 = .ok (.aload_n 0, 1) := by decide +kernel
theorem dX7_layNumbers_25 : decode cX7_layNumbers 25 = .ok (.getfield 35, 3) := by decide +kernel
theorem dX7_layNumbers_28 : decode cX7_layNumbers 28 = .ok (.iload_n 3, 1) := by decide +kernel
theorem dX7_layNumbers_29 : decode cX7_layNumbers 29 = .ok (.iaload, 1) := by decide +kernel
theorem dX7_layNumbers_30 : decode cX7_layNumbers 30 = .ok (.iload_n 2, 1) := by decide +kernel
theorem dX7_layNumbers_31 : decode cX7_layNumbers 31 = .ok (.if_icmp .ne 10, 3) := by decide +kernel
theorem dX7_layNumbers_34 : decode cX7_layNumbers 34 = .ok (.aload_n 0, 1) := by decide +kernel
theorem dX7_layNumbers_35 : decode cX7_layNumbers 35 = .ok (.iconst 0, 1) := by decide +kernel
theorem dX7_layNumbers_36 : decode cX7_layNumbers 36 = .ok (.iload_n 3, 1) := by decide +kernel
theorem dX7_layNumbers_37 : decode cX7_layNumbers 37 = .ok (.iload_n 1, 1) := by decide +kernel
theorem dX7_layNumbers_38 : decode cX7_layNumbers 38 = .ok (.invokevirtual 214, 3) := by decide +kernel
theorem dX7_layNumbers_41 : decode cX7_layNumbers 41 = .ok (.iinc 3 1, 3) := by decide +kernel
theorem dX7_layNumbers_44 : decode cX7_layNumbers 44 = .ok (.goto (-28), 3) := by decide +kernel
theorem dX7_layNumbers_47 : decode cX7_layNumbers 47 = .ok (.aload_n 0, 1) := by decide +kernel
theorem dX7_layNumbers_48 : decode cX7_layNumbers 48 = .ok (.getfield 44, 3) := by decide +kernel
theorem dX7_layNumbers_51 : decode cX7_layNumbers 51 = .ok (.iload_n 2, 1) := by decide +kernel
theorem dX7_layNumbers_52 : decode cX7_layNumbers 52 = .ok (.aload_n 0, 1) := by decide +kernel
theorem dX7_layNumbers_53 : decode cX7_layNumbers 53 = .ok (.aload_n 0, 1) := by decide +kernel
theorem dX7_layNumbers_54 : decode cX7_layNumbers 54 = .ok (.getfield 7, 3) := by decide +kernel
theorem dX7_layNumbers_57 : decode cX7_layNumbers 57 = .ok (.bipush 91, 2) := by decide +kernel
theorem dX7_layNumbers_59 : decode cX7_layNumbers 59 = .ok (.iaload, 1) := by decide +kernel
theorem dX7_layNumbers_60 : decode cX7_layNumbers 60 = .ok (.invokevirtual 221, 3) := by decide +kernel
theorem dX7_layNumbers_63 : decode cX7_layNumbers 63 = .ok (.iastore, 1) := by decide +kernel
theorem dX7_layNumbers_64 : decode cX7_layNumbers 64 = .ok (.iinc 2 1, 3) := by decide +kernel
theorem dX7_layNumbers_67 : decode cX7_layNumbers 67 = .ok (.goto (-65), 3) := by decide +kernel
theorem dX7_layNumbers_70 : decode cX7_layNumbers 70 = .ok (.return_, 1) := by decide +kernel
theorem dX7_isAsWanted_0 : decode cX7_isAsWanted 0 = .ok (.iconst 1, 1) := by decide +kernel
theorem dX7_isAsWanted_1 : decode cX7_isAsWanted 1 = .ok (.istore_n 2, 1) := by decide +kernel
theorem dX7_isAsWanted_2 : decode cX7_isAsWanted 2 = .ok (.iconst 0, 1) := by decide +kernel
theorem dX7_isAsWanted_3 : decode cX7_isAsWanted 3 = .ok (.istore_n 3, 1) := by decide +kernel
theorem dX7_isAsWanted_4 : decode cX7_isAsWanted 4 = .ok (.iload_n 3, 1) := by decide +kernel
theorem dX7_isAsWanted_5 : decode cX7_isAsWanted 5 = .ok (.aload_n 0, 1) := by decide +kernel
theorem dX7_isAsWanted_6 : decode cX7_isAsWanted 6 = .ok (.getfield 161, 3) := by decide +kernel
theorem dX7_isAsWanted_9 : decode cX7_isAsWanted 9 = .ok (.if_icmp .ge 45, 3) := by decide +kernel
theorem dX7_isAsWanted_12 : decode cX7_isAsWanted 12 = .ok (.iload_n 2, 1) := by decide +kernel
theorem dX7_isAsWanted_13 : decode cX7_isAsWanted 13 = .ok (.ifCond .eq 33, 3) := by decide +kernel
theorem dX7_isAsWanted_16 : decode cX7_isAsWanted 16 = .ok (.aload_n 0, 1) := by decide +kernel
theorem dX7_isAsWanted_17 : decode cX7_isAsWanted 17 = .ok (.getfield 44, 3) := by decide +kernel
theorem dX7_isAsWanted_20 : decode cX7_isAsWanted 20 = .ok (.aload_n 0, 1) := by decide +kernel
theorem dX7_isAsWanted_21 : decode cX7_isAsWanted 21 = .ok (.getfield 29, 3) := by decide +kernel
theorem dX7_isAsWanted_24 : decode cX7_isAsWanted 24 = .ok (.iconst 2, 1) := by decide +kernel
theorem dX7_isAsWanted_25 : decode cX7_isAsWanted 25 = .ok (.iload_n 3, 1) := by decide +kernel
theorem dX7_isAsWanted_26 : decode cX7_isAsWanted 26 = .ok (.imul, 1) := by decide +kernel
theorem dX7_isAsWanted_27 : decode cX7_isAsWanted 27 = .ok (.iaload, 1) := by decide +kernel
theorem dX7_isAsWanted_28 : decode cX7_isAsWanted 28 = .ok (.iaload, 1) := by decide +kernel
theorem dX7_isAsWanted_29 : decode cX7_isAsWanted 29 = .ok (.aload_n 0, 1) := by decide +kernel
theorem dX7_isAsWanted_30 : decode cX7_isAsWanted 30 = .ok (.getfield 29, 3) := by decide +kernel
theorem dX7_isAsWanted_33 : decode cX7_isAsWanted 33 = .ok (.iconst 2, 1) := by decide +kernel
theorem dX7_isAsWanted_34 : decode cX7_isAsWanted 34 = .ok (.iload_n 3, 1) := by decide +kernel
theorem dX7_isAsWanted_35 : decode cX7_isAsWanted 35 = .ok (.imul, 1) := by decide +kernel
theorem dX7_isAsWanted_36 : decode cX7_isAsWanted 36 = .ok (.iconst 1, 1) := by decide +kernel
theorem dX7_isAsWanted_37 : decode cX7_isAsWanted 37 = .ok (.iadd, 1) := by decide +kernel
theorem dX7_isAsWanted_38 : decode cX7_isAsWanted 38 = .ok (.iaload, 1) := by decide +kernel
theorem dX7_isAsWanted_39 : decode cX7_isAsWanted 39 = .ok (.if_icmp .ne 7, 3) := by decide +kernel
theorem dX7_isAsWanted_42 : decode cX7_isAsWanted 42 = .ok (.iconst 1, 1) := by decide +kernel
theorem dX7_isAsWanted_43 : decode cX7_isAsWanted 43 = .ok (.goto 4, 3) := by decide +kernel
theorem dX7_isAsWanted_46 : decode cX7_isAsWanted 46 = .ok (.iconst 0, 1) := by decide +kernel
theorem dX7_isAsWanted_47 : decode cX7_isAsWanted 47 = .ok (.istore_n 2, 1) := by decide +kernel
theorem dX7_isAsWanted_48 : decode cX7_isAsWanted 48 = .ok (.iinc 3 1, 3) := by decide +kernel
theorem dX7_isAsWanted_51 : decode cX7_isAsWanted 51 = .ok (.goto (-47), 3) := by decide +kernel
theorem dX7_isAsWanted_54 : decode cX7_isAsWanted 54 = .ok (.iconst 0, 1) := by decide +kernel
theorem dX7_isAsWanted_55 : decode cX7_isAsWanted 55 = .ok (.istore_n 3, 1) := by decide +kernel
theorem dX7_isAsWanted_56 : decode cX7_isAsWanted 56 = .ok (.iload_n 3, 1) := by decide +kernel
theorem dX7_isAsWanted_57 : decode cX7_isAsWanted 57 = .ok (.bipush 64, 2) := by decide +kernel
theorem dX7_isAsWanted_59 : decode cX7_isAsWanted 59 = .ok (.if_icmp .ge 80, 3) := by decide +kernel
theorem dX7_isAsWanted_62 : decode cX7_isAsWanted 62 = .ok (.iload_n 1, 1) := by decide +kernel
theorem dX7_isAsWanted_63 : decode cX7_isAsWanted 63 = .ok (.ifCond .eq 76, 3) := by decide +kernel
theorem dX7_isAsWanted_66 : decode cX7_isAsWanted 66 = .ok (.iload_n 3, 1) := by decide +kernel
theorem dX7_isAsWanted_67 : decode cX7_isAsWanted 67 = .ok (.bipush 8, 2) := by decide +kernel
theorem dX7_isAsWanted_69 : decode cX7_isAsWanted 69 = .ok (.idiv, 1) := by decide +kernel
theorem dX7_isAsWanted_70 : decode cX7_isAsWanted 70 = .ok (.istore 4, 2) := by decide +kernel
theorem dX7_isAsWanted_72 : decode cX7_isAsWanted 72 = .ok (.iload_n 3, 1) := by decide +kernel
theorem dX7_isAsWanted_73 : decode cX7_isAsWanted 73 = .ok (.bipush 8, 2) := by decide +kernel
theorem dX7_isAsWanted_75 : decode cX7_isAsWanted 75 = .ok (.irem, 1) := by decide +kernel
theorem dX7_isAsWanted_76 : decode cX7_isAsWanted 76 = .ok (.istore 5, 2) := by decide +kernel
theorem dX7_isAsWanted_78 : decode cX7_isAsWanted 78 = .ok (.iload_n 2, 1) := by decide +kernel
theorem dX7_isAsWanted_79 : decode cX7_isAsWanted 79 = .ok (.ifCond .eq 52, 3) := by decide +kernel
theorem dX7_isAsWanted_82 : decode cX7_isAsWanted 82 = .ok (.iload 4, 2) := by decide +kernel
theorem dX7_isAsWanted_84 : decode cX7_isAsWanted 84 = .ok (.iload 5, 2) := by decide +kernel
theorem dX7_isAsWanted_86 : decode cX7_isAsWanted 86 = .ok (.if_icmp .ge 41, 3) := by decide +kernel
theorem dX7_isAsWanted_89 : decode cX7_isAsWanted 89 = .ok (.iload 5, 2) := by decide +kernel
theorem dX7_isAsWanted_91 : decode cX7_isAsWanted 91 = .ok (.aload_n 0, 1) := by decide +kernel
theorem dX7_isAsWanted_92 : decode cX7_isAsWanted 92 = .ok (.getfield 13, 3) := by decide +kernel
theorem dX7_isAsWanted_95 : decode cX7_isAsWanted 95 = .ok (.if_icmp .ge 32, 3) := by decide +kernel
theorem dX7_isAsWanted_98 : decode cX7_isAsWanted 98 = .ok (.aload_n 0, 1) := by decide +kernel
theorem dX7_isAsWanted_99 : decode cX7_isAsWanted 99 = .ok (.getfield 44, 3) := by decide +kernel
theorem dX7_isAsWanted_102 : decode cX7_isAsWanted 102 = .ok (.iload 4, 2) := by decide +kernel
theorem dX7_isAsWanted_104 : decode cX7_isAsWanted 104 = .ok (.iaload, 1) := by decide +kernel
theorem dX7_isAsWanted_105 : decode cX7_isAsWanted 105 = .ok (.bipush (-4), 2) := by decide +kernel
theorem dX7_isAsWanted_107 : decode cX7_isAsWanted 107 = .ok (.if_icmp .eq 20, 3) := by decide +kernel
theorem dX7_isAsWanted_110 : decode cX7_isAsWanted 110 = .ok (.aload_n 0, 1) := by decide +kernel
theorem dX7_isAsWanted_111 : decode cX7_isAsWanted 111 = .ok (.getfield 44, 3) := by decide +kernel
theorem dX7_isAsWanted_114 : decode cX7_isAsWanted 114 = .ok (.iload 4, 2) := by decide +kernel
theorem dX7_isAsWanted_116 : decode cX7_isAsWanted 116 = .ok (.iaload, 1) := by decide +kernel
theorem dX7_isAsWanted_117 : decode cX7_isAsWanted 117 = .ok (.aload_n 0, 1) := by decide +kernel
theorem dX7_isAsWanted_118 : decode cX7_isAsWanted 118 = .ok (.getfield 44, 3) := by decide +kernel
theorem dX7_isAsWanted_121 : decode cX7_isAsWanted 121 = .ok (.iload 5, 2) := by decide +kernel
theorem dX7_isAsWanted_123 : decode cX7_isAsWanted 123 = .ok (.iaload, 1) := by decide +kernel
theorem dX7_isAsWanted_124 : decode cX7_isAsWanted 124 = .ok (.if_icmp .eq 7, 3) := by decide +kernel
theorem dX7_isAsWanted_127 : decode cX7_isAsWanted 127 = .ok (.iconst 1, 1) := by decide +kernel
theorem dX7_isAsWanted_128 : decode cX7_isAsWanted 128 = .ok (.goto 4, 3) := by decide +kernel
theorem dX7_isAsWanted_131 : decode cX7_isAsWanted 131 = .ok (.iconst 0, 1) := by decide +kernel
theorem dX7_isAsWanted_132 : decode cX7_isAsWanted 132 = .ok (.istore_n 2, 1) := by decide +kernel
theorem dX7_isAsWanted_133 : decode cX7_isAsWanted 133 = .ok (.iinc 3 1, 3) := by decide +kernel
theorem dX7_isAsWanted_136 : decode cX7_isAsWanted 136 = .ok (.goto (-80), 3) := by decide +kernel
theorem dX7_isAsWanted_139 : decode cX7_isAsWanted 139 = .ok (.iload_n 2, 1) := by decide +kernel
theorem dX7_isAsWanted_140 : decode cX7_isAsWanted 140 = .ok (.ireturn, 1) := by decide +kernel
set_option maxRecDepth 20000 in
theorem ggX7_layFetch_X7_homeOf : GoodIn wsX7_layFetch wsX7_homeOf := goodIn_r _ [11, 12, 48, 49, 50, 51, 52, 53, 54, 55, 56, 57, 58, 59, 60, 61, 62, 63, 64, 65, 66, 67, 68, 69, 70, 71, 72, 73, 74, 75, 76, 77, 78, 79, 80, 81, 82, 83, 84, 85] (by decide +kernel) (by decide +kernel)
set_option maxRecDepth 20000 in
theorem gX7_layFetch_X7_homeOf : GoodIn wsX7_layFetch (wsV RX7 192 RX7 yX7_homeOf wsX7_homeOf) := goodIn_app (goodIn_of _ (by decide +kernel)) ggX7_layFetch_X7_homeOf
set_option maxRecDepth 20000 in
theorem ggX7_layFetch_X7_layNumbers : GoodIn wsX7_layFetch wsX7_layNumbers := goodIn_r _ [16, 2, 5, 17, 12, 18, 19, 20, 10, 21, 22, 23, 24, 25, 26, 27, 28, 29, 30, 31, 32, 33, 34, 35, 36, 37, 38, 39, 40, 41, 48, 49, 50, 51, 52, 53, 54, 55, 56, 57, 58, 59, 60, 61, 62, 63, 64, 65, 66, 67, 68, 69, 70, 71, 72, 73, 74, 75, 76, 77, 78, 79, 80, 81, 82, 83, 84, 85] (by decide +kernel) (by decide +kernel)
set_option maxRecDepth 20000 in
theorem gX7_layFetch_X7_layNumbers : GoodIn wsX7_layFetch (wsV RX7 248 RX7 yX7_layNumbers wsX7_layNumbers) := goodIn_app (goodIn_of _ (by decide +kernel)) ggX7_layFetch_X7_layNumbers
set_option maxRecDepth 20000 in
theorem ggX7_layFetch_X7_isAsWanted : GoodIn wsX7_layFetch wsX7_isAsWanted := goodIn_r _ [45, 46, 17, 47, 2, 48, 49, 50, 51, 52, 53, 54, 55, 56, 57, 58, 59, 60, 61, 62, 63, 64, 65, 66, 67, 68, 69, 70, 71, 72, 73, 74, 75, 76, 77, 78, 79, 80, 81, 82, 83, 84, 85] (by decide +kernel) (by decide +kernel)
set_option maxRecDepth 20000 in
theorem gX7_layFetch_X7_isAsWanted : GoodIn wsX7_layFetch (wsV RX7 251 RX7 yX7_isAsWanted wsX7_isAsWanted) := goodIn_app (goodIn_of _ (by decide +kernel)) ggX7_layFetch_X7_isAsWanted
theorem dX7_layFetch_0 : decode cX7_layFetch 0 = .ok (.iconst 1, 1) := by decide +kernel
theorem dX7_layFetch_1 : decode cX7_layFetch 1 = .ok (.istore_n 3, 1) := by decide +kernel
theorem dX7_layFetch_2 : decode cX7_layFetch 2 = .ok (.bipush (-4), 2) := by decide +kernel
theorem dX7_layFetch_4 : decode cX7_layFetch 4 = .ok (.istore 4, 2) := by decide +kernel
theorem dX7_layFetch_6 : decode cX7_layFetch 6 = .ok (.iconst 0, 1) := by decide +kernel
theorem dX7_layFetch_7 : decode cX7_layFetch 7 = .ok (.istore 5, 2) := by decide +kernel
theorem dX7_layFetch_9 : decode cX7_layFetch 9 = .ok (.iload 5, 2) := by decide +kernel
theorem dX7_layFetch_11 : decode cX7_layFetch 11 = .ok (.aload_n 0, 1) := by decide +kernel
theorem dX7_layFetch_12 : decode cX7_layFetch 12 = .ok (.getfield 245, 3) := by decide +kernel
theorem dX7_layFetch_15 : decode cX7_layFetch 15 = .ok (.if_icmp .ge 16, 3) := by decide +kernel
theorem dX7_layFetch_18 : decode cX7_layFetch 18 = .ok (.iload_n 3, 1) := by decide +kernel
theorem dX7_layFetch_19 : decode cX7_layFetch 19 = .ok (.aload_n 0, 1) := by decide +kernel
theorem dX7_layFetch_20 : decode cX7_layFetch 20 = .ok (.getfield 13, 3) := by decide +kernel
theorem dX7_layFetch_23 : decode cX7_layFetch 23 = .ok (.imul, 1) := by decide +kernel
theorem dX7_layFetch_24 : decode cX7_layFetch 24 = .ok (.istore_n 3, 1) := by decide +kernel
theorem dX7_layFetch_25 : decode cX7_layFetch 25 = .ok (.iinc 5 1, 3) := by decide +kernel
theorem dX7_layFetch_28 : decode cX7_layFetch 28 = .ok (.goto (-19), 3) := by decide +kernel
theorem dX7_layFetch_31 : decode cX7_layFetch 31 = .ok (.iconst 0, 1) := by decide +kernel
theorem dX7_layFetch_32 : decode cX7_layFetch 32 = .ok (.istore 5, 2) := by decide +kernel
theorem dX7_layFetch_34 : decode cX7_layFetch 34 = .ok (.iload 5, 2) := by decide +kernel
theorem dX7_layFetch_36 : decode cX7_layFetch 36 = .ok (.iload_n 3, 1) := by decide +kernel
theorem dX7_layFetch_37 : decode cX7_layFetch 37 = .ok (.if_icmp .ge 173, 3) := by decide +kernel
theorem dX7_layFetch_40 : decode cX7_layFetch 40 = .ok (.iload 5, 2) := by decide +kernel
theorem dX7_layFetch_42 : decode cX7_layFetch 42 = .ok (.istore 6, 2) := by decide +kernel
theorem dX7_layFetch_44 : decode cX7_layFetch 44 = .ok (.iconst 0, 1) := by decide +kernel
theorem dX7_layFetch_45 : decode cX7_layFetch 45 = .ok (.istore 7, 2) := by decide +kernel
theorem dX7_layFetch_47 : decode cX7_layFetch 47 = .ok (.aload_n 0, 1) := by decide +kernel
theorem dX7_layFetch_48 : decode cX7_layFetch 48 = .ok (.getfield 245, 3) := by decide +kernel
theorem dX7_layFetch_51 : decode cX7_layFetch 51 = .ok (.iconst 1, 1) := by decide +kernel
theorem dX7_layFetch_52 : decode cX7_layFetch 52 = .ok (.isub, 1) := by decide +kernel
theorem dX7_layFetch_53 : decode cX7_layFetch 53 = .ok (.istore 8, 2) := by decide +kernel
theorem dX7_layFetch_55 : decode cX7_layFetch 55 = .ok (.iload 8, 2) := by decide +kernel
theorem dX7_layFetch_57 : decode cX7_layFetch 57 = .ok (.ifCond .lt 84, 3) := by decide +kernel
theorem dX7_layFetch_60 : decode cX7_layFetch 60 = .ok (.aload_n 0, 1) := by decide +kernel
theorem dX7_layFetch_61 : decode cX7_layFetch 61 = .ok (.getfield 38, 3) := by decide +kernel
theorem dX7_layFetch_64 : decode cX7_layFetch 64 = .ok (.iload 8, 2) := by decide +kernel
theorem dX7_layFetch_66 : decode cX7_layFetch 66 = .ok (.iload 6, 2) := by decide +kernel
theorem dX7_layFetch_68 : decode cX7_layFetch 68 = .ok (.aload_n 0, 1) := by decide +kernel
theorem dX7_layFetch_69 : decode cX7_layFetch 69 = .ok (.getfield 13, 3) := by decide +kernel
theorem dX7_layFetch_72 : decode cX7_layFetch 72 = .ok (.irem, 1) := by decide +kernel
theorem dX7_layFetch_73 : decode cX7_layFetch 73 = .ok (.iastore, 1) := by decide +kernel
theorem dX7_layFetch_74 : decode cX7_layFetch 74 = .ok (.iload 6, 2) := by decide +kernel
theorem dX7_layFetch_76 : decode cX7_layFetch 76 = .ok (.aload_n 0, 1) := by decide +kernel
theorem dX7_layFetch_77 : decode cX7_layFetch 77 = .ok (.getfield 13, 3) := by decide +kernel
theorem dX7_layFetch_80 : decode cX7_layFetch 80 = .ok (.idiv, 1) := by decide +kernel
theorem dX7_layFetch_81 : decode cX7_layFetch 81 = .ok (.istore 6, 2) := by decide +kernel
theorem dX7_layFetch_83 : decode cX7_layFetch 83 = .ok (.iload 7, 2) := by decide +kernel
theorem dX7_layFetch_85 : decode cX7_layFetch 85 = .ok (.aload_n 0, 1) := by decide +kernel
theorem dX7_layFetch_86 : decode cX7_layFetch 86 = .ok (.getfield 38, 3) := by decide +kernel
theorem dX7_layFetch_89 : decode cX7_layFetch 89 = .ok (.iload 8, 2) := by decide +kernel
theorem dX7_layFetch_91 : decode cX7_layFetch 91 = .ok (.iaload, 1) := by decide +kernel
theorem dX7_layFetch_92 : decode cX7_layFetch 92 = .ok (.aload_n 0, 1) := by decide +kernel
theorem dX7_layFetch_93 : decode cX7_layFetch 93 = .ok (.iconst 0, 1) := by decide +kernel
theorem dX7_layFetch_94 : decode cX7_layFetch 94 = .ok (.aload_n 0, 1) := by decide +kernel
theorem dX7_layFetch_95 : decode cX7_layFetch 95 = .ok (.getfield 32, 3) := by decide +kernel
theorem dX7_layFetch_98 : decode cX7_layFetch 98 = .ok (.iload 8, 2) := by decide +kernel
theorem dX7_layFetch_100 : decode cX7_layFetch 100 = .ok (.iaload, 1) := by decide +kernel
theorem dX7_layFetch_101 : decode cX7_layFetch 101 = .ok (.iload_n 1, 1) := by decide +kernel
theorem dX7_layFetch_102 : decode cX7_layFetch 102 = .ok (.invokevirtual 192, 3) := by decide +kernel
theorem dX7_layFetch_105 : decode cX7_layFetch 105 = .ok (.if_icmp .ne 7, 3) := by decide +kernel
theorem dX7_layFetch_108 : decode cX7_layFetch 108 = .ok (.iconst 0, 1) := by decide +kernel
theorem dX7_layFetch_109 : decode cX7_layFetch 109 = .ok (.goto 4, 3) := by decide +kernel
theorem dX7_layFetch_112 : decode cX7_layFetch 112 = .ok (.iconst 1, 1) := by decide +kernel
theorem dX7_layFetch_113 : decode cX7_layFetch 113 = .ok (.iadd, 1) := by decide +kernel
theorem dX7_layFetch_114 : decode cX7_layFetch 114 = .ok (.istore 7, 2) := by decide +kernel
theorem dX7_layFetch_116 : decode cX7_layFetch 116 = .ok (.aload_n 0, 1) := by decide +kernel
theorem dX7_layFetch_117 : decode cX7_layFetch 117 = .ok (.getfield 35, 3) := by decide +kernel
theorem dX7_layFetch_120 : decode cX7_layFetch 120 = .ok (.aload_n 0, 1) := by decide +kernel
theorem dX7_layFetch_121 : decode cX7_layFetch 121 = .ok (.getfield 32, 3) := by decide +kernel
theorem dX7_layFetch_124 : decode cX7_layFetch 124 = .ok (.iload 8, 2) := by decide +kernel
theorem dX7_layFetch_126 : decode cX7_layFetch 126 = .ok (.iaload, 1) := by decide +kernel
theorem dX7_layFetch_127 : decode cX7_layFetch 127 = .ok (.aload_n 0, 1) := by decide +kernel
theorem dX7_layFetch_128 : decode cX7_layFetch 128 = .ok (.getfield 38, 3) := by decide +kernel
theorem dX7_layFetch_131 : decode cX7_layFetch 131 = .ok (.iload 8, 2) := by decide +kernel
theorem dX7_layFetch_133 : decode cX7_layFetch 133 = .ok (.iaload, 1) := by decide +kernel
theorem dX7_layFetch_134 : decode cX7_layFetch 134 = .ok (.iastore, 1) := by decide +kernel
theorem dX7_layFetch_135 : decode cX7_layFetch 135 = .ok (.iinc 8 (-1), 3) := by decide +kernel
theorem dX7_layFetch_138 : decode cX7_layFetch 138 = .ok (.goto (-83), 3) := by decide +kernel
theorem dX7_layFetch_141 : decode cX7_layFetch 141 = .ok (.aload_n 0, 1) := by decide +kernel
theorem dX7_layFetch_142 : decode cX7_layFetch 142 = .ok (.iload_n 1, 1) := by decide +kernel
theorem dX7_layFetch_143 : decode cX7_layFetch 143 = .ok (.invokevirtual 248, 3) := by decide +kernel
theorem dX7_layFetch_146 : decode cX7_layFetch 146 = .ok (.aload_n 0, 1) := by decide +kernel
theorem dX7_layFetch_147 : decode cX7_layFetch 147 = .ok (.iload_n 2, 1) := by decide +kernel
theorem dX7_layFetch_148 : decode cX7_layFetch 148 = .ok (.invokevirtual 251, 3) := by decide +kernel
theorem dX7_layFetch_151 : decode cX7_layFetch 151 = .ok (.ifCond .eq 53, 3) := by decide +kernel
theorem dX7_layFetch_154 : decode cX7_layFetch 154 = .ok (.iload 4, 2) := by decide +kernel
theorem dX7_layFetch_156 : decode cX7_layFetch 156 = .ok (.bipush (-4), 2) := by decide +kernel
theorem dX7_layFetch_158 : decode cX7_layFetch 158 = .ok (.if_icmp .eq 10, 3) := by decide +kernel
theorem dX7_layFetch_161 : decode cX7_layFetch 161 = .ok (.iload 7, 2) := by decide +kernel
theorem dX7_layFetch_163 : decode cX7_layFetch 163 = .ok (.iload 4, 2) := by decide +kernel
theorem dX7_layFetch_165 : decode cX7_layFetch 165 = .ok (.if_icmp .ge 39, 3) := by decide +kernel
theorem dX7_layFetch_168 : decode cX7_layFetch 168 = .ok (.iload 7, 2) := by decide +kernel
theorem dX7_layFetch_170 : decode cX7_layFetch 170 = .ok (.istore 4, 2) := by decide +kernel
theorem dX7_layFetch_172 : decode cX7_layFetch 172 = .ok (.iconst 0, 1) := by decide +kernel
theorem dX7_layFetch_173 : decode cX7_layFetch 173 = .ok (.istore 8, 2) := by decide +kernel
theorem dX7_layFetch_175 : decode cX7_layFetch 175 = .ok (.iload 8, 2) := by decide +kernel
theorem dX7_layFetch_177 : decode cX7_layFetch 177 = .ok (.aload_n 0, 1) := by decide +kernel
theorem dX7_layFetch_178 : decode cX7_layFetch 178 = .ok (.getfield 245, 3) := by decide +kernel
theorem dX7_layFetch_181 : decode cX7_layFetch 181 = .ok (.if_icmp .ge 23, 3) := by decide +kernel
theorem dX7_layFetch_184 : decode cX7_layFetch 184 = .ok (.aload_n 0, 1) := by decide +kernel
theorem dX7_layFetch_185 : decode cX7_layFetch 185 = .ok (.getfield 41, 3) := by decide +kernel
theorem dX7_layFetch_188 : decode cX7_layFetch 188 = .ok (.iload 8, 2) := by decide +kernel
theorem dX7_layFetch_190 : decode cX7_layFetch 190 = .ok (.aload_n 0, 1) := by decide +kernel
theorem dX7_layFetch_191 : decode cX7_layFetch 191 = .ok (.getfield 38, 3) := by decide +kernel
theorem dX7_layFetch_194 : decode cX7_layFetch 194 = .ok (.iload 8, 2) := by decide +kernel
theorem dX7_layFetch_196 : decode cX7_layFetch 196 = .ok (.iaload, 1) := by decide +kernel
theorem dX7_layFetch_197 : decode cX7_layFetch 197 = .ok (.iastore, 1) := by decide +kernel
theorem dX7_layFetch_198 : decode cX7_layFetch 198 = .ok (.iinc 8 1, 3) := by decide +kernel
theorem dX7_layFetch_201 : decode cX7_layFetch 201 = .ok (.goto (-26), 3) := by decide +kernel
theorem dX7_layFetch_204 : decode cX7_layFetch 204 = .ok (.iinc 5 1, 3) := by decide +kernel
theorem dX7_layFetch_207 : decode cX7_layFetch 207 = .ok (.goto (-173), 3) := by decide +kernel
theorem dX7_layFetch_210 : decode cX7_layFetch 210 = .ok (.iload 4, 2) := by decide +kernel
theorem dX7_layFetch_212 : decode cX7_layFetch 212 = .ok (.ireturn, 1) := by decide +kernel
set_option maxRecDepth 20000 in
theorem ggX7_fetch_X7_isDay : GoodIn wsX7_fetch wsX7_isDay := goodIn_r _ [10, 11, 12, 13, 9, 14] (by decide +kernel) (by decide +kernel)
set_option maxRecDepth 20000 in
theorem gX7_fetch_X7_isDay : GoodIn wsX7_fetch (va_wsS RX7 178 yX7_isDay wsX7_isDay) := goodIn_app (goodIn_of _ (by decide +kernel)) ggX7_fetch_X7_isDay
set_option maxRecDepth 20000 in
theorem ggX7_fetch_X7_people : GoodIn wsX7_fetch wsX7_people := goodIn_r _ [18, 4, 64, 65, 66, 67, 68, 69, 70, 71, 72, 73, 74, 75, 76, 77, 78, 79, 80, 81, 82, 83, 84, 85, 86, 87, 88, 89, 90, 91, 92, 93, 94, 95, 96, 97, 98, 99, 100, 101] (by decide +kernel) (by decide +kernel)
set_option maxRecDepth 20000 in
theorem gX7_fetch_X7_people : GoodIn wsX7_fetch (wsV RX7 169 RX7 yX7_people wsX7_people) := goodIn_app (goodIn_of _ (by decide +kernel)) ggX7_fetch_X7_people
set_option maxRecDepth 20000 in
theorem ggX7_fetch_X7_in : GoodIn wsX7_fetch wsX7_in := goodIn_r _ [14] (by decide +kernel) (by decide +kernel)
set_option maxRecDepth 20000 in
theorem gX7_fetch_X7_in : GoodIn wsX7_fetch (va_wsS RX7 66 yX7_in wsX7_in) := goodIn_app (goodIn_of _ (by decide +kernel)) ggX7_fetch_X7_in
set_option maxRecDepth 20000 in
theorem ggX7_fetch_X7_isAlive : GoodIn wsX7_fetch wsX7_isAlive := goodIn_r _ [22, 4, 64, 65, 66, 67, 68, 69, 70, 71, 72, 73, 74, 75, 76, 77, 78, 79, 80, 81, 82, 83, 84, 85, 86, 87, 88, 89, 90, 91, 92, 93, 94, 95, 96, 97, 98, 99, 100, 101] (by decide +kernel) (by decide +kernel)
set_option maxRecDepth 20000 in
theorem gX7_fetch_X7_isAlive : GoodIn wsX7_fetch (wsV RX7 188 RX7 yX7_isAlive wsX7_isAlive) := goodIn_app (goodIn_of _ (by decide +kernel)) ggX7_fetch_X7_isAlive
set_option maxRecDepth 20000 in
theorem ggX7_fetch_X7_homeOf : GoodIn wsX7_fetch wsX7_homeOf := goodIn_r _ [26, 4, 64, 65, 66, 67, 68, 69, 70, 71, 72, 73, 74, 75, 76, 77, 78, 79, 80, 81, 82, 83, 84, 85, 86, 87, 88, 89, 90, 91, 92, 93, 94, 95, 96, 97, 98, 99, 100, 101] (by decide +kernel) (by decide +kernel)
set_option maxRecDepth 20000 in
theorem gX7_fetch_X7_homeOf : GoodIn wsX7_fetch (wsV RX7 192 RX7 yX7_homeOf wsX7_homeOf) := goodIn_app (goodIn_of _ (by decide +kernel)) ggX7_fetch_X7_homeOf
set_option maxRecDepth 20000 in
theorem ggX7_fetch_X7_layFetch : GoodIn wsX7_fetch wsX7_layFetch := goodIn_r _ [30, 2, 31, 32, 5, 3, 6, 23, 24, 25, 9, 26, 4, 33, 34, 35, 36, 37, 38, 39, 40, 41, 42, 43, 15, 16, 17, 18, 44, 45, 46, 47, 48, 49, 50, 51, 52, 53, 54, 55, 56, 57, 58, 59, 60, 61, 62, 63, 64, 65, 66, 67, 68, 69, 70, 71, 72, 73, 74, 75, 76, 77, 78, 79, 80, 81, 82, 83, 84, 85, 86, 87, 88, 89, 90, 91, 92, 93, 94, 95, 96, 97, 98, 99, 100, 101] (by decide +kernel) (by decide +kernel)
set_option maxRecDepth 20000 in
theorem gX7_fetch_X7_layFetch : GoodIn wsX7_fetch (wsV RX7 257 RX7 yX7_layFetch wsX7_layFetch) := goodIn_app (goodIn_of _ (by decide +kernel)) ggX7_fetch_X7_layFetch
theorem dX7_fetch_0 : decode cX7_fetch 0 = .ok (.iload_n 1, 1) := by decide +kernel
theorem dX7_fetch_1 : decode cX7_fetch 1 = .ok (.invokestatic 178, 3) := by decide +kernel
theorem dX7_fetch_4 : decode cX7_fetch 4 = .ok (.ifCond .eq 26, 3) := by decide +kernel
theorem dX7_fetch_7 : decode cX7_fetch 7 = .ok (.iload_n 3, 1) := by decide +kernel
theorem dX7_fetch_8 : decode cX7_fetch 8 = .ok (.ifCond .eq 24, 3) := by decide +kernel
theorem dX7_fetch_11 : decode cX7_fetch 11 = .ok (.iload_n 3, 1) := by decide +kernel
theorem dX7_fetch_12 : decode cX7_fetch 12 = .ok (.i2l, 1) := by decide +kernel
theorem dX7_fetch_13 : decode cX7_fetch 13 = .ok (.ldc2_w 255, 3) := by decide +kernel
theorem dX7_fetch_16 : decode cX7_fetch 16 = .ok (.bipush 9, 2) := by decide +kernel
theorem dX7_fetch_18 : decode cX7_fetch 18 = .ok (.aload_n 0, 1) := by decide +kernel
theorem dX7_fetch_19 : decode cX7_fetch 19 = .ok (.invokevirtual 169, 3) := by decide +kernel
theorem dX7_fetch_22 : decode cX7_fetch 22 = .ok (.iadd, 1) := by decide +kernel
theorem dX7_fetch_23 : decode cX7_fetch 23 = .ok (.i2l, 1) := by decide +kernel
theorem dX7_fetch_24 : decode cX7_fetch 24 = .ok (.invokestatic 66, 3) := by decide +kernel
theorem dX7_fetch_27 : decode cX7_fetch 27 = .ok (.ifCond .ne 5, 3) := by decide +kernel
theorem dX7_fetch_30 : decode cX7_fetch 30 = .ok (.iconst (-1), 1) := by decide +kernel
theorem dX7_fetch_31 : decode cX7_fetch 31 = .ok (.ireturn, 1) := by decide +kernel
theorem dX7_fetch_32 : decode cX7_fetch 32 = .ok (.aload_n 0, 1) := by decide +kernel
theorem dX7_fetch_33 : decode cX7_fetch 33 = .ok (.iconst 0, 1) := by decide +kernel
theorem dX7_fetch_34 : decode cX7_fetch 34 = .ok (.putfield 245, 3) := by decide +kernel
theorem dX7_fetch_37 : decode cX7_fetch 37 = .ok (.bipush (-4), 2) := by decide +kernel
theorem dX7_fetch_39 : decode cX7_fetch 39 = .ok (.istore 4, 2) := by decide +kernel
theorem dX7_fetch_41 : decode cX7_fetch 41 = .ok (.iconst 0, 1) := by decide +kernel
theorem dX7_fetch_42 : decode cX7_fetch 42 = .ok (.istore 5, 2) := by decide +kernel
theorem dX7_fetch_44 : decode cX7_fetch 44 = .ok (.iload 5, 2) := by decide +kernel
theorem dX7_fetch_46 : decode cX7_fetch 46 = .ok (.aload_n 0, 1) := by decide +kernel
theorem dX7_fetch_47 : decode cX7_fetch 47 = .ok (.invokevirtual 169, 3) := by decide +kernel
theorem dX7_fetch_50 : decode cX7_fetch 50 = .ok (.if_icmp .ge 103, 3) := by decide +kernel
theorem dX7_fetch_53 : decode cX7_fetch 53 = .ok (.aload_n 0, 1) := by decide +kernel
theorem dX7_fetch_54 : decode cX7_fetch 54 = .ok (.iconst 0, 1) := by decide +kernel
theorem dX7_fetch_55 : decode cX7_fetch 55 = .ok (.iload 5, 2) := by decide +kernel
theorem dX7_fetch_57 : decode cX7_fetch 57 = .ok (.iload_n 1, 1) := by decide +kernel
theorem dX7_fetch_58 : decode cX7_fetch 58 = .ok (.invokevirtual 188, 3) := by decide +kernel
theorem dX7_fetch_61 : decode cX7_fetch 61 = .ok (.istore 6, 2) := by decide +kernel
theorem dX7_fetch_63 : decode cX7_fetch 63 = .ok (.aload_n 0, 1) := by decide +kernel
theorem dX7_fetch_64 : decode cX7_fetch 64 = .ok (.getfield 35, 3) := by decide +kernel
theorem dX7_fetch_67 : decode cX7_fetch 67 = .ok (.iload 5, 2) := by decide +kernel
theorem dX7_fetch_69 : decode cX7_fetch 69 = .ok (.iload 6, 2) := by decide +kernel
theorem dX7_fetch_71 : decode cX7_fetch 71 = .ok (.ifCond .eq 14, 3) := by decide +kernel
theorem dX7_fetch_74 : decode cX7_fetch 74 = .ok (.aload_n 0, 1) := by decide +kernel
theorem dX7_fetch_75 : decode cX7_fetch 75 = .ok (.iconst 0, 1) := by decide +kernel
theorem dX7_fetch_76 : decode cX7_fetch 76 = .ok (.iload 5, 2) := by decide +kernel
theorem dX7_fetch_78 : decode cX7_fetch 78 = .ok (.iload_n 1, 1) := by decide +kernel
theorem dX7_fetch_79 : decode cX7_fetch 79 = .ok (.invokevirtual 192, 3) := by decide +kernel
theorem dX7_fetch_82 : decode cX7_fetch 82 = .ok (.goto 5, 3) := by decide +kernel
theorem dX7_fetch_85 : decode cX7_fetch 85 = .ok (.bipush (-4), 2) := by decide +kernel
theorem dX7_fetch_87 : decode cX7_fetch 87 = .ok (.iastore, 1) := by decide +kernel
theorem dX7_fetch_88 : decode cX7_fetch 88 = .ok (.iload 6, 2) := by decide +kernel
theorem dX7_fetch_90 : decode cX7_fetch 90 = .ok (.ifCond .eq 57, 3) := by decide +kernel
theorem dX7_fetch_93 : decode cX7_fetch 93 = .ok (.aload_n 0, 1) := by decide +kernel
theorem dX7_fetch_94 : decode cX7_fetch 94 = .ok (.getfield 7, 3) := by decide +kernel
theorem dX7_fetch_97 : decode cX7_fetch 97 = .ok (.iconst 4, 1) := by decide +kernel
theorem dX7_fetch_98 : decode cX7_fetch 98 = .ok (.iload 5, 2) := by decide +kernel
theorem dX7_fetch_100 : decode cX7_fetch 100 = .ok (.imul, 1) := by decide +kernel
theorem dX7_fetch_101 : decode cX7_fetch 101 = .ok (.iaload, 1) := by decide +kernel
theorem dX7_fetch_102 : decode cX7_fetch 102 = .ok (.iconst 1, 1) := by decide +kernel
theorem dX7_fetch_103 : decode cX7_fetch 103 = .ok (.if_icmp .ne 44, 3) := by decide +kernel
theorem dX7_fetch_106 : decode cX7_fetch 106 = .ok (.iload_n 3, 1) := by decide +kernel
theorem dX7_fetch_107 : decode cX7_fetch 107 = .ok (.bipush 10, 2) := by decide +kernel
theorem dX7_fetch_109 : decode cX7_fetch 109 = .ok (.iload 5, 2) := by decide +kernel
theorem dX7_fetch_111 : decode cX7_fetch 111 = .ok (.iadd, 1) := by decide +kernel
theorem dX7_fetch_112 : decode cX7_fetch 112 = .ok (.if_icmp .ne 10, 3) := by decide +kernel
theorem dX7_fetch_115 : decode cX7_fetch 115 = .ok (.aload_n 0, 1) := by decide +kernel
theorem dX7_fetch_116 : decode cX7_fetch 116 = .ok (.getfield 245, 3) := by decide +kernel
theorem dX7_fetch_119 : decode cX7_fetch 119 = .ok (.goto 5, 3) := by decide +kernel
theorem dX7_fetch_122 : decode cX7_fetch 122 = .ok (.iload 4, 2) := by decide +kernel
theorem dX7_fetch_124 : decode cX7_fetch 124 = .ok (.istore 4, 2) := by decide +kernel
theorem dX7_fetch_126 : decode cX7_fetch 126 = .ok (.aload_n 0, 1) := by decide +kernel
theorem dX7_fetch_127 : decode cX7_fetch 127 = .ok (.getfield 32, 3) := by decide +kernel
theorem dX7_fetch_130 : decode cX7_fetch 130 = .ok (.aload_n 0, 1) := by decide +kernel
theorem dX7_fetch_131 : decode cX7_fetch 131 = .ok (.getfield 245, 3) := by decide +kernel
theorem dX7_fetch_134 : decode cX7_fetch 134 = .ok (.iload 5, 2) := by decide +kernel
theorem dX7_fetch_136 : decode cX7_fetch 136 = .ok (.iastore, 1) := by decide +kernel
theorem dX7_fetch_137 : decode cX7_fetch 137 = .ok (.aload_n 0, 1) := by decide +kernel
theorem dX7_fetch_138 : decode cX7_fetch 138 = .ok (.dup, 1) := by decide +kernel
theorem dX7_fetch_139 : decode cX7_fetch 139 = .ok (.getfield 245, 3) := by decide +kernel
theorem dX7_fetch_142 : decode cX7_fetch 142 = .ok (.iconst 1, 1) := by decide +kernel
theorem dX7_fetch_143 : decode cX7_fetch 143 = .ok (.iadd, 1) := by decide +kernel
theorem dX7_fetch_144 : decode cX7_fetch 144 = .ok (.putfield 245, 3) := by decide +kernel
theorem dX7_fetch_147 : decode cX7_fetch 147 = .ok (.iinc 5 1, 3) := by decide +kernel
theorem dX7_fetch_150 : decode cX7_fetch 150 = .ok (.goto (-106), 3) := by decide +kernel
theorem dX7_fetch_153 : decode cX7_fetch 153 = .ok (.iload_n 3, 1) := by decide +kernel
theorem dX7_fetch_154 : decode cX7_fetch 154 = .ok (.ifCond .eq 12, 3) := by decide +kernel
theorem dX7_fetch_157 : decode cX7_fetch 157 = .ok (.iload 4, 2) := by decide +kernel
theorem dX7_fetch_159 : decode cX7_fetch 159 = .ok (.bipush (-4), 2) := by decide +kernel
theorem dX7_fetch_161 : decode cX7_fetch 161 = .ok (.if_icmp .ne 5, 3) := by decide +kernel
theorem dX7_fetch_164 : decode cX7_fetch 164 = .ok (.iconst (-1), 1) := by decide +kernel
theorem dX7_fetch_165 : decode cX7_fetch 165 = .ok (.ireturn, 1) := by decide +kernel
theorem dX7_fetch_166 : decode cX7_fetch 166 = .ok (.aload_n 0, 1) := by decide +kernel
theorem dX7_fetch_167 : decode cX7_fetch 167 = .ok (.getfield 245, 3) := by decide +kernel
theorem dX7_fetch_170 : decode cX7_fetch 170 = .ok (.iconst 4, 1) := by decide +kernel
theorem dX7_fetch_171 : decode cX7_fetch 171 = .ok (.if_icmp .le 6, 3) := by decide +kernel
theorem dX7_fetch_174 : decode cX7_fetch 174 = .ok (.bipush (-2), 2) := by decide +kernel
theorem dX7_fetch_176 : decode cX7_fetch 176 = .ok (.ireturn, 1) := by decide +kernel
theorem dX7_fetch_177 : decode cX7_fetch 177 = .ok (.aload_n 0, 1) := by decide +kernel
theorem dX7_fetch_178 : decode cX7_fetch 178 = .ok (.iload_n 1, 1) := by decide +kernel
theorem dX7_fetch_179 : decode cX7_fetch 179 = .ok (.iload_n 2, 1) := by decide +kernel
theorem dX7_fetch_180 : decode cX7_fetch 180 = .ok (.invokevirtual 257, 3) := by decide +kernel
theorem dX7_fetch_183 : decode cX7_fetch 183 = .ok (.istore 5, 2) := by decide +kernel
theorem dX7_fetch_185 : decode cX7_fetch 185 = .ok (.iload 5, 2) := by decide +kernel
theorem dX7_fetch_187 : decode cX7_fetch 187 = .ok (.bipush (-4), 2) := by decide +kernel
theorem dX7_fetch_189 : decode cX7_fetch 189 = .ok (.if_icmp .eq 7, 3) := by decide +kernel
theorem dX7_fetch_192 : decode cX7_fetch 192 = .ok (.iload_n 3, 1) := by decide +kernel
theorem dX7_fetch_193 : decode cX7_fetch 193 = .ok (.ifCond .ne 8, 3) := by decide +kernel
theorem dX7_fetch_196 : decode cX7_fetch 196 = .ok (.iload 5, 2) := by decide +kernel
theorem dX7_fetch_198 : decode cX7_fetch 198 = .ok (.goto 10, 3) := by decide +kernel
theorem dX7_fetch_201 : decode cX7_fetch 201 = .ok (.aload_n 0, 1) := by decide +kernel
theorem dX7_fetch_202 : decode cX7_fetch 202 = .ok (.getfield 41, 3) := by decide +kernel
theorem dX7_fetch_205 : decode cX7_fetch 205 = .ok (.iload 4, 2) := by decide +kernel
theorem dX7_fetch_207 : decode cX7_fetch 207 = .ok (.iaload, 1) := by decide +kernel
theorem dX7_fetch_208 : decode cX7_fetch 208 = .ok (.ireturn, 1) := by decide +kernel
set_option maxRecDepth 20000 in
theorem ggX7_expect_X7_isHouse : GoodIn wsX7_expect wsX7_isHouse := goodIn_r _ [7, 8, 9, 10, 6, 11, 15, 16, 17, 18, 19, 20, 21, 22, 23, 24, 25, 26, 27, 28, 29, 30, 31, 32, 33, 34, 35, 36, 37, 38, 39, 40, 41, 42, 43, 44, 45, 46, 47, 48, 49, 50, 51, 52] (by decide +kernel) (by decide +kernel)
set_option maxRecDepth 20000 in
theorem gX7_expect_X7_isHouse : GoodIn wsX7_expect (wsV RX7 181 RX7 yX7_isHouse wsX7_isHouse) := goodIn_app (goodIn_of _ (by decide +kernel)) ggX7_expect_X7_isHouse
set_option maxRecDepth 20000 in
theorem ggX7_expect_X7_isDay : GoodIn wsX7_expect wsX7_isDay := goodIn_r _ [14, 1, 9, 10, 6, 11] (by decide +kernel) (by decide +kernel)
set_option maxRecDepth 20000 in
theorem gX7_expect_X7_isDay : GoodIn wsX7_expect (va_wsS RX7 178 yX7_isDay wsX7_isDay) := goodIn_app (goodIn_of _ (by decide +kernel)) ggX7_expect_X7_isDay
set_option maxRecDepth 20000 in
theorem ggX7_expect_X7_in : GoodIn wsX7_expect wsX7_in := goodIn_r _ [11] (by decide +kernel) (by decide +kernel)
set_option maxRecDepth 20000 in
theorem gX7_expect_X7_in : GoodIn wsX7_expect (va_wsS RX7 66 yX7_in wsX7_in) := goodIn_app (goodIn_of _ (by decide +kernel)) ggX7_expect_X7_in
theorem dX7_expect_0 : decode cX7_expect 0 = .ok (.aload_n 0, 1) := by decide +kernel
theorem dX7_expect_1 : decode cX7_expect 1 = .ok (.iload_n 1, 1) := by decide +kernel
theorem dX7_expect_2 : decode cX7_expect 2 = .ok (.invokevirtual 181, 3) := by decide +kernel
theorem dX7_expect_5 : decode cX7_expect 5 = .ok (.ifCond .eq 23, 3) := by decide +kernel
theorem dX7_expect_8 : decode cX7_expect 8 = .ok (.iload_n 2, 1) := by decide +kernel
theorem dX7_expect_9 : decode cX7_expect 9 = .ok (.invokestatic 178, 3) := by decide +kernel
theorem dX7_expect_12 : decode cX7_expect 12 = .ok (.ifCond .eq 16, 3) := by decide +kernel
theorem dX7_expect_15 : decode cX7_expect 15 = .ok (.iload_n 3, 1) := by decide +kernel
theorem dX7_expect_16 : decode cX7_expect 16 = .ok (.i2l, 1) := by decide +kernel
theorem dX7_expect_17 : decode cX7_expect 17 = .ok (.iload_n 2, 1) := by decide +kernel
theorem dX7_expect_18 : decode cX7_expect 18 = .ok (.i2l, 1) := by decide +kernel
theorem dX7_expect_19 : decode cX7_expect 19 = .ok (.ldc2_w 167, 3) := by decide +kernel
theorem dX7_expect_22 : decode cX7_expect 22 = .ok (.invokestatic 66, 3) := by decide +kernel
theorem dX7_expect_25 : decode cX7_expect 25 = .ok (.ifCond .ne 5, 3) := by decide +kernel
theorem dX7_expect_28 : decode cX7_expect 28 = .ok (.iconst (-1), 1) := by decide +kernel
theorem dX7_expect_29 : decode cX7_expect 29 = .ok (.ireturn, 1) := by decide +kernel
theorem dX7_expect_30 : decode cX7_expect 30 = .ok (.aload_n 0, 1) := by decide +kernel
theorem dX7_expect_31 : decode cX7_expect 31 = .ok (.getfield 7, 3) := by decide +kernel
theorem dX7_expect_34 : decode cX7_expect 34 = .ok (.bipush 90, 2) := by decide +kernel
theorem dX7_expect_36 : decode cX7_expect 36 = .ok (.iaload, 1) := by decide +kernel
theorem dX7_expect_37 : decode cX7_expect 37 = .ok (.istore 4, 2) := by decide +kernel
theorem dX7_expect_39 : decode cX7_expect 39 = .ok (.iload 4, 2) := by decide +kernel
theorem dX7_expect_41 : decode cX7_expect 41 = .ok (.iconst 4, 1) := by decide +kernel
theorem dX7_expect_42 : decode cX7_expect 42 = .ok (.if_icmp .ne 6, 3) := by decide +kernel
theorem dX7_expect_45 : decode cX7_expect 45 = .ok (.bipush (-3), 2) := by decide +kernel
theorem dX7_expect_47 : decode cX7_expect 47 = .ok (.ireturn, 1) := by decide +kernel
theorem dX7_expect_48 : decode cX7_expect 48 = .ok (.aload_n 0, 1) := by decide +kernel
theorem dX7_expect_49 : decode cX7_expect 49 = .ok (.getfield 7, 3) := by decide +kernel
theorem dX7_expect_52 : decode cX7_expect 52 = .ok (.bipush 76, 2) := by decide +kernel
theorem dX7_expect_54 : decode cX7_expect 54 = .ok (.iconst 3, 1) := by decide +kernel
theorem dX7_expect_55 : decode cX7_expect 55 = .ok (.iload 4, 2) := by decide +kernel
theorem dX7_expect_57 : decode cX7_expect 57 = .ok (.imul, 1) := by decide +kernel
theorem dX7_expect_58 : decode cX7_expect 58 = .ok (.iadd, 1) := by decide +kernel
theorem dX7_expect_59 : decode cX7_expect 59 = .ok (.iload_n 1, 1) := by decide +kernel
theorem dX7_expect_60 : decode cX7_expect 60 = .ok (.iastore, 1) := by decide +kernel
theorem dX7_expect_61 : decode cX7_expect 61 = .ok (.aload_n 0, 1) := by decide +kernel
theorem dX7_expect_62 : decode cX7_expect 62 = .ok (.getfield 7, 3) := by decide +kernel
theorem dX7_expect_65 : decode cX7_expect 65 = .ok (.bipush 76, 2) := by decide +kernel
theorem dX7_expect_67 : decode cX7_expect 67 = .ok (.iconst 3, 1) := by decide +kernel
theorem dX7_expect_68 : decode cX7_expect 68 = .ok (.iload 4, 2) := by decide +kernel
theorem dX7_expect_70 : decode cX7_expect 70 = .ok (.imul, 1) := by decide +kernel
theorem dX7_expect_71 : decode cX7_expect 71 = .ok (.iadd, 1) := by decide +kernel
theorem dX7_expect_72 : decode cX7_expect 72 = .ok (.iconst 1, 1) := by decide +kernel
theorem dX7_expect_73 : decode cX7_expect 73 = .ok (.iadd, 1) := by decide +kernel
theorem dX7_expect_74 : decode cX7_expect 74 = .ok (.iload_n 2, 1) := by decide +kernel
theorem dX7_expect_75 : decode cX7_expect 75 = .ok (.iastore, 1) := by decide +kernel
theorem dX7_expect_76 : decode cX7_expect 76 = .ok (.aload_n 0, 1) := by decide +kernel
theorem dX7_expect_77 : decode cX7_expect 77 = .ok (.getfield 7, 3) := by decide +kernel
theorem dX7_expect_80 : decode cX7_expect 80 = .ok (.bipush 76, 2) := by decide +kernel
theorem dX7_expect_82 : decode cX7_expect 82 = .ok (.iconst 3, 1) := by decide +kernel
theorem dX7_expect_83 : decode cX7_expect 83 = .ok (.iload 4, 2) := by decide +kernel
theorem dX7_expect_85 : decode cX7_expect 85 = .ok (.imul, 1) := by decide +kernel
theorem dX7_expect_86 : decode cX7_expect 86 = .ok (.iadd, 1) := by decide +kernel
theorem dX7_expect_87 : decode cX7_expect 87 = .ok (.iconst 2, 1) := by decide +kernel
theorem dX7_expect_88 : decode cX7_expect 88 = .ok (.iadd, 1) := by decide +kernel
theorem dX7_expect_89 : decode cX7_expect 89 = .ok (.iload_n 3, 1) := by decide +kernel
theorem dX7_expect_90 : decode cX7_expect 90 = .ok (.iastore, 1) := by decide +kernel
theorem dX7_expect_91 : decode cX7_expect 91 = .ok (.aload_n 0, 1) := by decide +kernel
theorem dX7_expect_92 : decode cX7_expect 92 = .ok (.getfield 7, 3) := by decide +kernel
theorem dX7_expect_95 : decode cX7_expect 95 = .ok (.bipush 90, 2) := by decide +kernel
theorem dX7_expect_97 : decode cX7_expect 97 = .ok (.dup2, 1) := by decide +kernel
theorem dX7_expect_98 : decode cX7_expect 98 = .ok (.iaload, 1) := by decide +kernel
theorem dX7_expect_99 : decode cX7_expect 99 = .ok (.iconst 1, 1) := by decide +kernel
theorem dX7_expect_100 : decode cX7_expect 100 = .ok (.iadd, 1) := by decide +kernel
theorem dX7_expect_101 : decode cX7_expect 101 = .ok (.iastore, 1) := by decide +kernel
theorem dX7_expect_102 : decode cX7_expect 102 = .ok (.iload 4, 2) := by decide +kernel
theorem dX7_expect_104 : decode cX7_expect 104 = .ok (.iconst 1, 1) := by decide +kernel
theorem dX7_expect_105 : decode cX7_expect 105 = .ok (.iadd, 1) := by decide +kernel
theorem dX7_expect_106 : decode cX7_expect 106 = .ok (.ireturn, 1) := by decide +kernel
theorem dX7_canBe_0 : decode cX7_canBe 0 = .ok (.iconst 1, 1) := by decide +kernel
theorem dX7_canBe_1 : decode cX7_canBe 1 = .ok (.istore 4, 2) := by decide +kernel
theorem dX7_canBe_3 : decode cX7_canBe 3 = .ok (.iconst 0, 1) := by decide +kernel
theorem dX7_canBe_4 : decode cX7_canBe 4 = .ok (.istore 5, 2) := by decide +kernel
theorem dX7_canBe_6 : decode cX7_canBe 6 = .ok (.iload 5, 2) := by decide +kernel
theorem dX7_canBe_8 : decode cX7_canBe 8 = .ok (.iconst 4, 1) := by decide +kernel
theorem dX7_canBe_9 : decode cX7_canBe 9 = .ok (.if_icmp .ge 121, 3) := by decide +kernel
theorem dX7_canBe_12 : decode cX7_canBe 12 = .ok (.bipush 76, 2) := by decide +kernel
theorem dX7_canBe_14 : decode cX7_canBe 14 = .ok (.iconst 3, 1) := by decide +kernel
theorem dX7_canBe_15 : decode cX7_canBe 15 = .ok (.iload 5, 2) := by decide +kernel
theorem dX7_canBe_17 : decode cX7_canBe 17 = .ok (.imul, 1) := by decide +kernel
theorem dX7_canBe_18 : decode cX7_canBe 18 = .ok (.iadd, 1) := by decide +kernel
theorem dX7_canBe_19 : decode cX7_canBe 19 = .ok (.istore 6, 2) := by decide +kernel
theorem dX7_canBe_21 : decode cX7_canBe 21 = .ok (.iload 5, 2) := by decide +kernel
theorem dX7_canBe_23 : decode cX7_canBe 23 = .ok (.aload_n 0, 1) := by decide +kernel
theorem dX7_canBe_24 : decode cX7_canBe 24 = .ok (.getfield 7, 3) := by decide +kernel
theorem dX7_canBe_27 : decode cX7_canBe 27 = .ok (.bipush 90, 2) := by decide +kernel
theorem dX7_canBe_29 : decode cX7_canBe 29 = .ok (.iaload, 1) := by decide +kernel
theorem dX7_canBe_30 : decode cX7_canBe 30 = .ok (.if_icmp .ge 18, 3) := by decide +kernel
theorem dX7_canBe_33 : decode cX7_canBe 33 = .ok (.aload_n 0, 1) := by decide +kernel
theorem dX7_canBe_34 : decode cX7_canBe 34 = .ok (.getfield 7, 3) := by decide +kernel
theorem dX7_canBe_37 : decode cX7_canBe 37 = .ok (.iload 6, 2) := by decide +kernel
theorem dX7_canBe_39 : decode cX7_canBe 39 = .ok (.iaload, 1) := by decide +kernel
theorem dX7_canBe_40 : decode cX7_canBe 40 = .ok (.iload_n 1, 1) := by decide +kernel
theorem dX7_canBe_41 : decode cX7_canBe 41 = .ok (.if_icmp .ne 7, 3) := by decide +kernel
theorem dX7_canBe_44 : decode cX7_canBe 44 = .ok (.iconst 1, 1) := by decide +kernel
theorem dX7_canBe_45 : decode cX7_canBe 45 = .ok (.goto 4, 3) := by decide +kernel
theorem dX7_canBe_48 : decode cX7_canBe 48 = .ok (.iconst 0, 1) := by decide +kernel
theorem dX7_canBe_49 : decode cX7_canBe 49 = .ok (.istore 7, 2) := by decide +kernel
theorem dX7_canBe_51 : decode cX7_canBe 51 = .ok (.iload_n 3, 1) := by decide +kernel
theorem dX7_canBe_52 : decode cX7_canBe 52 = .ok (.iload 5, 2) := by decide +kernel
theorem dX7_canBe_54 : decode cX7_canBe 54 = .ok (.ishr, 1) := by decide +kernel
theorem dX7_canBe_55 : decode cX7_canBe 55 = .ok (.iconst 1, 1) := by decide +kernel
theorem dX7_canBe_56 : decode cX7_canBe 56 = .ok (.iand, 1) := by decide +kernel
theorem dX7_canBe_57 : decode cX7_canBe 57 = .ok (.iconst 1, 1) := by decide +kernel
theorem dX7_canBe_58 : decode cX7_canBe 58 = .ok (.if_icmp .ne 7, 3) := by decide +kernel
theorem dX7_canBe_61 : decode cX7_canBe 61 = .ok (.iconst 1, 1) := by decide +kernel
theorem dX7_canBe_62 : decode cX7_canBe 62 = .ok (.goto 4, 3) := by decide +kernel
theorem dX7_canBe_65 : decode cX7_canBe 65 = .ok (.iconst 0, 1) := by decide +kernel
theorem dX7_canBe_66 : decode cX7_canBe 66 = .ok (.istore 8, 2) := by decide +kernel
theorem dX7_canBe_68 : decode cX7_canBe 68 = .ok (.iload 4, 2) := by decide +kernel
theorem dX7_canBe_70 : decode cX7_canBe 70 = .ok (.ifCond .eq 51, 3) := by decide +kernel
theorem dX7_canBe_73 : decode cX7_canBe 73 = .ok (.iload 8, 2) := by decide +kernel
theorem dX7_canBe_75 : decode cX7_canBe 75 = .ok (.ifCond .eq 24, 3) := by decide +kernel
theorem dX7_canBe_78 : decode cX7_canBe 78 = .ok (.iload 7, 2) := by decide +kernel
theorem dX7_canBe_80 : decode cX7_canBe 80 = .ok (.ifCond .eq 41, 3) := by decide +kernel
theorem dX7_canBe_83 : decode cX7_canBe 83 = .ok (.aload_n 0, 1) := by decide +kernel
theorem dX7_canBe_84 : decode cX7_canBe 84 = .ok (.getfield 7, 3) := by decide +kernel
theorem dX7_canBe_87 : decode cX7_canBe 87 = .ok (.iload 6, 2) := by decide +kernel
theorem dX7_canBe_89 : decode cX7_canBe 89 = .ok (.iconst 1, 1) := by decide +kernel
theorem dX7_canBe_90 : decode cX7_canBe 90 = .ok (.iadd, 1) := by decide +kernel
theorem dX7_canBe_91 : decode cX7_canBe 91 = .ok (.iaload, 1) := by decide +kernel
theorem dX7_canBe_92 : decode cX7_canBe 92 = .ok (.iload_n 2, 1) := by decide +kernel
theorem dX7_canBe_93 : decode cX7_canBe 93 = .ok (.if_icmp .gt 28, 3) := by decide +kernel
theorem dX7_canBe_96 : decode cX7_canBe 96 = .ok (.goto 21, 3) := by decide +kernel
theorem dX7_canBe_99 : decode cX7_canBe 99 = .ok (.iload 7, 2) := by decide +kernel
theorem dX7_canBe_101 : decode cX7_canBe 101 = .ok (.ifCond .eq 16, 3) := by decide +kernel
theorem dX7_canBe_104 : decode cX7_canBe 104 = .ok (.aload_n 0, 1) := by decide +kernel
theorem dX7_canBe_105 : decode cX7_canBe 105 = .ok (.getfield 7, 3) := by decide +kernel
theorem dX7_canBe_108 : decode cX7_canBe 108 = .ok (.iload 6, 2) := by decide +kernel
theorem dX7_canBe_110 : decode cX7_canBe 110 = .ok (.iconst 2, 1) := by decide +kernel
theorem dX7_canBe_111 : decode cX7_canBe 111 = .ok (.iadd, 1) := by decide +kernel
theorem dX7_canBe_112 : decode cX7_canBe 112 = .ok (.iaload, 1) := by decide +kernel
theorem dX7_canBe_113 : decode cX7_canBe 113 = .ok (.iload_n 2, 1) := by decide +kernel
theorem dX7_canBe_114 : decode cX7_canBe 114 = .ok (.if_icmp .le 7, 3) := by decide +kernel
theorem dX7_canBe_117 : decode cX7_canBe 117 = .ok (.iconst 1, 1) := by decide +kernel
theorem dX7_canBe_118 : decode cX7_canBe 118 = .ok (.goto 4, 3) := by decide +kernel
theorem dX7_canBe_121 : decode cX7_canBe 121 = .ok (.iconst 0, 1) := by decide +kernel
theorem dX7_canBe_122 : decode cX7_canBe 122 = .ok (.istore 4, 2) := by decide +kernel
theorem dX7_canBe_124 : decode cX7_canBe 124 = .ok (.iinc 5 1, 3) := by decide +kernel
theorem dX7_canBe_127 : decode cX7_canBe 127 = .ok (.goto (-121), 3) := by decide +kernel
theorem dX7_canBe_130 : decode cX7_canBe 130 = .ok (.iload 4, 2) := by decide +kernel
theorem dX7_canBe_132 : decode cX7_canBe 132 = .ok (.ireturn, 1) := by decide +kernel
set_option maxRecDepth 20000 in
theorem ggX7_numberWith_X7_layHouse : GoodIn wsX7_numberWith wsX7_layHouse := goodIn_r _ [6, 1, 7, 8, 9, 5, 10, 11, 12, 13, 14, 15, 16, 17, 18, 19, 20, 21, 22, 23, 24, 25, 26, 27, 28, 29, 30, 35, 36, 37, 38, 39, 40, 41, 42, 43, 44, 45, 46, 47, 48, 49, 50, 51, 52, 53, 54, 55, 56, 57, 58, 59, 60, 61, 62, 63, 64, 65, 66, 67, 68, 69, 70, 71, 72] (by decide +kernel) (by decide +kernel)
set_option maxRecDepth 20000 in
theorem gX7_numberWith_X7_layHouse : GoodIn wsX7_numberWith (wsV RX7 218 RX7 yX7_layHouse wsX7_layHouse) := goodIn_app (goodIn_of _ (by decide +kernel)) ggX7_numberWith_X7_layHouse
set_option maxRecDepth 20000 in
theorem ggX7_numberWith_X7_tells : GoodIn wsX7_numberWith wsX7_tells := goodIn_r _ [28, 11, 29, 30, 12, 35, 36, 37, 38, 39, 40, 41, 42, 43, 44, 45, 46, 47, 48, 49, 50, 51, 52, 53, 54, 55, 56, 57, 58, 59, 60, 61, 62, 63, 64, 65, 66, 67, 68, 69, 70, 71, 72] (by decide +kernel) (by decide +kernel)
set_option maxRecDepth 20000 in
theorem gX7_numberWith_X7_tells : GoodIn wsX7_numberWith (wsV RX7 207 RX7 yX7_tells wsX7_tells) := goodIn_app (goodIn_of _ (by decide +kernel)) ggX7_numberWith_X7_tells
set_option maxRecDepth 20000 in
theorem ggX7_numberWith_X7_toldBy : GoodIn wsX7_numberWith wsX7_toldBy := goodIn_r _ [34, 11, 29, 30, 12, 35, 36, 37, 38, 39, 40, 41, 42, 43, 44, 45, 46, 47, 48, 49, 50, 51, 52, 53, 54, 55, 56, 57, 58, 59, 60, 61, 62, 63, 64, 65, 66, 67, 68, 69, 70, 71, 72] (by decide +kernel) (by decide +kernel)
set_option maxRecDepth 20000 in
theorem gX7_numberWith_X7_toldBy : GoodIn wsX7_numberWith (wsV RX7 221 RX7 yX7_toldBy wsX7_toldBy) := goodIn_app (goodIn_of _ (by decide +kernel)) ggX7_numberWith_X7_toldBy
theorem dX7_numberWith_0 : decode cX7_numberWith 0 = .ok (.aload_n 0, 1) := by decide +kernel
theorem dX7_numberWith_1 : decode cX7_numberWith 1 = .ok (.iconst 0, 1) := by decide +kernel
theorem dX7_numberWith_2 : decode cX7_numberWith 2 = .ok (.iload_n 1, 1) := by decide +kernel
theorem dX7_numberWith_3 : decode cX7_numberWith 3 = .ok (.iload_n 2, 1) := by decide +kernel
theorem dX7_numberWith_4 : decode cX7_numberWith 4 = .ok (.invokevirtual 218, 3) := by decide +kernel
theorem dX7_numberWith_7 : decode cX7_numberWith 7 = .ok (.iconst 0, 1) := by decide +kernel
theorem dX7_numberWith_8 : decode cX7_numberWith 8 = .ok (.istore 5, 2) := by decide +kernel
theorem dX7_numberWith_10 : decode cX7_numberWith 10 = .ok (.iload 5, 2) := by decide +kernel
theorem dX7_numberWith_12 : decode cX7_numberWith 12 = .ok (.iconst 4, 1) := by decide +kernel
theorem dX7_numberWith_13 : decode cX7_numberWith 13 = .ok (.if_icmp .ge 84, 3) := by decide +kernel
theorem dX7_numberWith_16 : decode cX7_numberWith 16 = .ok (.iload_n 3, 1) := by decide +kernel
theorem dX7_numberWith_17 : decode cX7_numberWith 17 = .ok (.iload 5, 2) := by decide +kernel
theorem dX7_numberWith_19 : decode cX7_numberWith 19 = .ok (.ishr, 1) := by decide +kernel
theorem dX7_numberWith_20 : decode cX7_numberWith 20 = .ok (.iconst 1, 1) := by decide +kernel
theorem dX7_numberWith_21 : decode cX7_numberWith 21 = .ok (.iand, 1) := by decide +kernel
theorem dX7_numberWith_22 : decode cX7_numberWith 22 = .ok (.iconst 1, 1) := by decide +kernel
theorem dX7_numberWith_23 : decode cX7_numberWith 23 = .ok (.if_icmp .ne 68, 3) := by decide +kernel
theorem dX7_numberWith_26 : decode cX7_numberWith 26 = .ok (.aload_n 0, 1) := by decide +kernel
theorem dX7_numberWith_27 : decode cX7_numberWith 27 = .ok (.getfield 7, 3) := by decide +kernel
theorem dX7_numberWith_30 : decode cX7_numberWith 30 = .ok (.bipush 76, 2) := by decide +kernel
theorem dX7_numberWith_32 : decode cX7_numberWith 32 = .ok (.iconst 3, 1) := by decide +kernel
theorem dX7_numberWith_33 : decode cX7_numberWith 33 = .ok (.iload 5, 2) := by decide +kernel
theorem dX7_numberWith_35 : decode cX7_numberWith 35 = .ok (.imul, 1) := by decide +kernel
theorem dX7_numberWith_36 : decode cX7_numberWith 36 = .ok (.iadd, 1) := by decide +kernel
theorem dX7_numberWith_37 : decode cX7_numberWith 37 = .ok (.iconst 1, 1) := by decide +kernel
theorem dX7_numberWith_38 : decode cX7_numberWith 38 = .ok (.iadd, 1) := by decide +kernel
theorem dX7_numberWith_39 : decode cX7_numberWith 39 = .ok (.iaload, 1) := by decide +kernel
theorem dX7_numberWith_40 : decode cX7_numberWith 40 = .ok (.istore 6, 2) := by decide +kernel
theorem dX7_numberWith_42 : decode cX7_numberWith 42 = .ok (.aload_n 0, 1) := by decide +kernel
theorem dX7_numberWith_43 : decode cX7_numberWith 43 = .ok (.getfield 7, 3) := by decide +kernel
theorem dX7_numberWith_46 : decode cX7_numberWith 46 = .ok (.bipush 76, 2) := by decide +kernel
theorem dX7_numberWith_48 : decode cX7_numberWith 48 = .ok (.iconst 3, 1) := by decide +kernel
theorem dX7_numberWith_49 : decode cX7_numberWith 49 = .ok (.iload 5, 2) := by decide +kernel
theorem dX7_numberWith_51 : decode cX7_numberWith 51 = .ok (.imul, 1) := by decide +kernel
theorem dX7_numberWith_52 : decode cX7_numberWith 52 = .ok (.iadd, 1) := by decide +kernel
theorem dX7_numberWith_53 : decode cX7_numberWith 53 = .ok (.iconst 2, 1) := by decide +kernel
theorem dX7_numberWith_54 : decode cX7_numberWith 54 = .ok (.iadd, 1) := by decide +kernel
theorem dX7_numberWith_55 : decode cX7_numberWith 55 = .ok (.iaload, 1) := by decide +kernel
theorem dX7_numberWith_56 : decode cX7_numberWith 56 = .ok (.istore 7, 2) := by decide +kernel
theorem dX7_numberWith_58 : decode cX7_numberWith 58 = .ok (.aload_n 0, 1) := by decide +kernel
theorem dX7_numberWith_59 : decode cX7_numberWith 59 = .ok (.iload_n 2, 1) := by decide +kernel
theorem dX7_numberWith_60 : decode cX7_numberWith 60 = .ok (.iload 4, 2) := by decide +kernel
theorem dX7_numberWith_62 : decode cX7_numberWith 62 = .ok (.ifCond .eq 8, 3) := by decide +kernel
theorem dX7_numberWith_65 : decode cX7_numberWith 65 = .ok (.iload 6, 2) := by decide +kernel
theorem dX7_numberWith_67 : decode cX7_numberWith 67 = .ok (.goto 15, 3) := by decide +kernel
theorem dX7_numberWith_70 : decode cX7_numberWith 70 = .ok (.iload 7, 2) := by decide +kernel
theorem dX7_numberWith_72 : decode cX7_numberWith 72 = .ok (.iload_n 2, 1) := by decide +kernel
theorem dX7_numberWith_73 : decode cX7_numberWith 73 = .ok (.if_icmp .ge 8, 3) := by decide +kernel
theorem dX7_numberWith_76 : decode cX7_numberWith 76 = .ok (.iload 7, 2) := by decide +kernel
theorem dX7_numberWith_78 : decode cX7_numberWith 78 = .ok (.goto 4, 3) := by decide +kernel
theorem dX7_numberWith_81 : decode cX7_numberWith 81 = .ok (.iload_n 2, 1) := by decide +kernel
theorem dX7_numberWith_82 : decode cX7_numberWith 82 = .ok (.isub, 1) := by decide +kernel
theorem dX7_numberWith_83 : decode cX7_numberWith 83 = .ok (.sipush 360, 3) := by decide +kernel
theorem dX7_numberWith_86 : decode cX7_numberWith 86 = .ok (.idiv, 1) := by decide +kernel
theorem dX7_numberWith_87 : decode cX7_numberWith 87 = .ok (.iconst 1, 1) := by decide +kernel
theorem dX7_numberWith_88 : decode cX7_numberWith 88 = .ok (.invokevirtual 207, 3) := by decide +kernel
theorem dX7_numberWith_91 : decode cX7_numberWith 91 = .ok (.iinc 5 1, 3) := by decide +kernel
theorem dX7_numberWith_94 : decode cX7_numberWith 94 = .ok (.goto (-84), 3) := by decide +kernel
theorem dX7_numberWith_97 : decode cX7_numberWith 97 = .ok (.aload_n 0, 1) := by decide +kernel
theorem dX7_numberWith_98 : decode cX7_numberWith 98 = .ok (.aload_n 0, 1) := by decide +kernel
theorem dX7_numberWith_99 : decode cX7_numberWith 99 = .ok (.getfield 7, 3) := by decide +kernel
theorem dX7_numberWith_102 : decode cX7_numberWith 102 = .ok (.bipush 91, 2) := by decide +kernel
theorem dX7_numberWith_104 : decode cX7_numberWith 104 = .ok (.iaload, 1) := by decide +kernel
theorem dX7_numberWith_105 : decode cX7_numberWith 105 = .ok (.invokevirtual 221, 3) := by decide +kernel
theorem dX7_numberWith_108 : decode cX7_numberWith 108 = .ok (.ireturn, 1) := by decide +kernel
set_option maxRecDepth 20000 in
theorem ggX7_can_X7_isHouse : GoodIn wsX7_can wsX7_isHouse := goodIn_r _ [6, 7, 8, 9, 5, 10, 56, 57, 58, 59, 60, 61, 62, 63, 64, 65, 66, 67, 68, 69, 70, 71, 72, 73, 74, 75, 76, 77, 78, 79, 80, 81, 82, 83, 84, 85, 86, 87, 88, 89, 90, 91, 92, 93] (by decide +kernel) (by decide +kernel)
set_option maxRecDepth 20000 in
theorem gX7_can_X7_isHouse : GoodIn wsX7_can (wsV RX7 181 RX7 yX7_isHouse wsX7_isHouse) := goodIn_app (goodIn_of _ (by decide +kernel)) ggX7_can_X7_isHouse
set_option maxRecDepth 20000 in
theorem ggX7_can_X7_isDay : GoodIn wsX7_can wsX7_isDay := goodIn_r _ [13, 14, 8, 9, 5, 10] (by decide +kernel) (by decide +kernel)
set_option maxRecDepth 20000 in
theorem gX7_can_X7_isDay : GoodIn wsX7_can (va_wsS RX7 178 yX7_isDay wsX7_isDay) := goodIn_app (goodIn_of _ (by decide +kernel)) ggX7_can_X7_isDay
set_option maxRecDepth 20000 in
theorem ggX7_can_X7_in : GoodIn wsX7_can wsX7_in := goodIn_r _ [10] (by decide +kernel) (by decide +kernel)
set_option maxRecDepth 20000 in
theorem gX7_can_X7_in : GoodIn wsX7_can (va_wsS RX7 66 yX7_in wsX7_in) := goodIn_app (goodIn_of _ (by decide +kernel)) ggX7_can_X7_in
set_option maxRecDepth 20000 in
theorem ggX7_can_X7_canBe : GoodIn wsX7_can wsX7_canBe := goodIn_r _ [18, 19, 56, 57, 58, 59, 60, 61, 62, 63, 64, 65, 66, 67, 68, 69, 70, 71, 72, 73, 74, 75, 76, 77, 78, 79, 80, 81, 82, 83, 84, 85, 86, 87, 88, 89, 90, 91, 92, 93] (by decide +kernel) (by decide +kernel)
set_option maxRecDepth 20000 in
theorem gX7_can_X7_canBe : GoodIn wsX7_can (wsV RX7 261 RX7 yX7_canBe wsX7_canBe) := goodIn_app (goodIn_of _ (by decide +kernel)) ggX7_can_X7_canBe
set_option maxRecDepth 20000 in
theorem ggX7_can_X7_numberWith : GoodIn wsX7_can wsX7_numberWith := goodIn_r _ [23, 19, 24, 25, 26, 5, 27, 28, 29, 30, 31, 32, 33, 34, 35, 36, 37, 38, 39, 40, 41, 42, 43, 44, 45, 46, 47, 48, 49, 50, 51, 52, 53, 54, 55, 56, 57, 58, 59, 60, 61, 62, 63, 64, 65, 66, 67, 68, 69, 70, 71, 72, 73, 74, 75, 76, 77, 78, 79, 80, 81, 82, 83, 84, 85, 86, 87, 88, 89, 90, 91, 92, 93] (by decide +kernel) (by decide +kernel)
set_option maxRecDepth 20000 in
theorem gX7_can_X7_numberWith : GoodIn wsX7_can (wsV RX7 264 RX7 yX7_numberWith wsX7_numberWith) := goodIn_app (goodIn_of _ (by decide +kernel)) ggX7_can_X7_numberWith
theorem dX7_can_0 : decode cX7_can 0 = .ok (.aload_n 0, 1) := by decide +kernel
theorem dX7_can_1 : decode cX7_can 1 = .ok (.iload_n 1, 1) := by decide +kernel
theorem dX7_can_2 : decode cX7_can 2 = .ok (.invokevirtual 181, 3) := by decide +kernel
theorem dX7_can_5 : decode cX7_can 5 = .ok (.ifCond .eq 22, 3) := by decide +kernel
theorem dX7_can_8 : decode cX7_can 8 = .ok (.iload_n 2, 1) := by decide +kernel
theorem dX7_can_9 : decode cX7_can 9 = .ok (.invokestatic 178, 3) := by decide +kernel
theorem dX7_can_12 : decode cX7_can 12 = .ok (.ifCond .eq 15, 3) := by decide +kernel
theorem dX7_can_15 : decode cX7_can 15 = .ok (.iload_n 3, 1) := by decide +kernel
theorem dX7_can_16 : decode cX7_can 16 = .ok (.i2l, 1) := by decide +kernel
theorem dX7_can_17 : decode cX7_can 17 = .ok (.lconst 0, 1) := by decide +kernel
theorem dX7_can_18 : decode cX7_can 18 = .ok (.ldc2_w 172, 3) := by decide +kernel
theorem dX7_can_21 : decode cX7_can 21 = .ok (.invokestatic 66, 3) := by decide +kernel
theorem dX7_can_24 : decode cX7_can 24 = .ok (.ifCond .ne 5, 3) := by decide +kernel
theorem dX7_can_27 : decode cX7_can 27 = .ok (.iconst (-1), 1) := by decide +kernel
theorem dX7_can_28 : decode cX7_can 28 = .ok (.ireturn, 1) := by decide +kernel
theorem dX7_can_29 : decode cX7_can 29 = .ok (.bipush (-4), 2) := by decide +kernel
theorem dX7_can_31 : decode cX7_can 31 = .ok (.istore 4, 2) := by decide +kernel
theorem dX7_can_33 : decode cX7_can 33 = .ok (.bipush (-4), 2) := by decide +kernel
theorem dX7_can_35 : decode cX7_can 35 = .ok (.istore 5, 2) := by decide +kernel
theorem dX7_can_37 : decode cX7_can 37 = .ok (.iconst 0, 1) := by decide +kernel
theorem dX7_can_38 : decode cX7_can 38 = .ok (.istore 6, 2) := by decide +kernel
theorem dX7_can_40 : decode cX7_can 40 = .ok (.iconst 0, 1) := by decide +kernel
theorem dX7_can_41 : decode cX7_can 41 = .ok (.istore 7, 2) := by decide +kernel
theorem dX7_can_43 : decode cX7_can 43 = .ok (.iload 7, 2) := by decide +kernel
theorem dX7_can_45 : decode cX7_can 45 = .ok (.bipush 16, 2) := by decide +kernel
theorem dX7_can_47 : decode cX7_can 47 = .ok (.if_icmp .ge 103, 3) := by decide +kernel
theorem dX7_can_50 : decode cX7_can 50 = .ok (.aload_n 0, 1) := by decide +kernel
theorem dX7_can_51 : decode cX7_can 51 = .ok (.iload_n 1, 1) := by decide +kernel
theorem dX7_can_52 : decode cX7_can 52 = .ok (.iload_n 2, 1) := by decide +kernel
theorem dX7_can_53 : decode cX7_can 53 = .ok (.iload 7, 2) := by decide +kernel
theorem dX7_can_55 : decode cX7_can 55 = .ok (.invokevirtual 261, 3) := by decide +kernel
theorem dX7_can_58 : decode cX7_can 58 = .ok (.ifCond .eq 86, 3) := by decide +kernel
theorem dX7_can_61 : decode cX7_can 61 = .ok (.aload_n 0, 1) := by decide +kernel
theorem dX7_can_62 : decode cX7_can 62 = .ok (.iload_n 1, 1) := by decide +kernel
theorem dX7_can_63 : decode cX7_can 63 = .ok (.iload_n 2, 1) := by decide +kernel
theorem dX7_can_64 : decode cX7_can 64 = .ok (.iload 7, 2) := by decide +kernel
theorem dX7_can_66 : decode cX7_can 66 = .ok (.iconst 0, 1) := by decide +kernel
theorem dX7_can_67 : decode cX7_can 67 = .ok (.invokevirtual 264, 3) := by decide +kernel
theorem dX7_can_70 : decode cX7_can 70 = .ok (.istore 8, 2) := by decide +kernel
theorem dX7_can_72 : decode cX7_can 72 = .ok (.aload_n 0, 1) := by decide +kernel
theorem dX7_can_73 : decode cX7_can 73 = .ok (.iload_n 1, 1) := by decide +kernel
theorem dX7_can_74 : decode cX7_can 74 = .ok (.iload_n 2, 1) := by decide +kernel
theorem dX7_can_75 : decode cX7_can 75 = .ok (.iload 7, 2) := by decide +kernel
theorem dX7_can_77 : decode cX7_can 77 = .ok (.iconst 1, 1) := by decide +kernel
theorem dX7_can_78 : decode cX7_can 78 = .ok (.invokevirtual 264, 3) := by decide +kernel
theorem dX7_can_81 : decode cX7_can 81 = .ok (.istore 9, 2) := by decide +kernel
theorem dX7_can_83 : decode cX7_can 83 = .ok (.iload 8, 2) := by decide +kernel
theorem dX7_can_85 : decode cX7_can 85 = .ok (.bipush (-4), 2) := by decide +kernel
theorem dX7_can_87 : decode cX7_can 87 = .ok (.if_icmp .ne 7, 3) := by decide +kernel
theorem dX7_can_90 : decode cX7_can 90 = .ok (.iconst 1, 1) := by decide +kernel
theorem dX7_can_91 : decode cX7_can 91 = .ok (.goto 5, 3) := by decide +kernel
theorem dX7_can_94 : decode cX7_can 94 = .ok (.iload 6, 2) := by decide +kernel
theorem dX7_can_96 : decode cX7_can 96 = .ok (.istore 6, 2) := by decide +kernel
theorem dX7_can_98 : decode cX7_can 98 = .ok (.iload 8, 2) := by decide +kernel
theorem dX7_can_100 : decode cX7_can 100 = .ok (.bipush (-4), 2) := by decide +kernel
theorem dX7_can_102 : decode cX7_can 102 = .ok (.if_icmp .eq 22, 3) := by decide +kernel
theorem dX7_can_105 : decode cX7_can 105 = .ok (.iload 4, 2) := by decide +kernel
theorem dX7_can_107 : decode cX7_can 107 = .ok (.bipush (-4), 2) := by decide +kernel
theorem dX7_can_109 : decode cX7_can 109 = .ok (.if_icmp .eq 10, 3) := by decide +kernel
theorem dX7_can_112 : decode cX7_can 112 = .ok (.iload 8, 2) := by decide +kernel
theorem dX7_can_114 : decode cX7_can 114 = .ok (.iload 4, 2) := by decide +kernel
theorem dX7_can_116 : decode cX7_can 116 = .ok (.if_icmp .ge 8, 3) := by decide +kernel
theorem dX7_can_119 : decode cX7_can 119 = .ok (.iload 8, 2) := by decide +kernel
theorem dX7_can_121 : decode cX7_can 121 = .ok (.goto 5, 3) := by decide +kernel
theorem dX7_can_124 : decode cX7_can 124 = .ok (.iload 4, 2) := by decide +kernel
theorem dX7_can_126 : decode cX7_can 126 = .ok (.istore 4, 2) := by decide +kernel
theorem dX7_can_128 : decode cX7_can 128 = .ok (.iload 9, 2) := by decide +kernel
theorem dX7_can_130 : decode cX7_can 130 = .ok (.iload 5, 2) := by decide +kernel
theorem dX7_can_132 : decode cX7_can 132 = .ok (.if_icmp .le 8, 3) := by decide +kernel
theorem dX7_can_135 : decode cX7_can 135 = .ok (.iload 9, 2) := by decide +kernel
theorem dX7_can_137 : decode cX7_can 137 = .ok (.goto 5, 3) := by decide +kernel
theorem dX7_can_140 : decode cX7_can 140 = .ok (.iload 5, 2) := by decide +kernel
theorem dX7_can_142 : decode cX7_can 142 = .ok (.istore 5, 2) := by decide +kernel
theorem dX7_can_144 : decode cX7_can 144 = .ok (.iinc 7 1, 3) := by decide +kernel
theorem dX7_can_147 : decode cX7_can 147 = .ok (.goto (-104), 3) := by decide +kernel
theorem dX7_can_150 : decode cX7_can 150 = .ok (.iload_n 3, 1) := by decide +kernel
theorem dX7_can_151 : decode cX7_can 151 = .ok (.ifCond .ne 8, 3) := by decide +kernel
theorem dX7_can_154 : decode cX7_can 154 = .ok (.iload 4, 2) := by decide +kernel
theorem dX7_can_156 : decode cX7_can 156 = .ok (.goto 15, 3) := by decide +kernel
theorem dX7_can_159 : decode cX7_can 159 = .ok (.iload_n 3, 1) := by decide +kernel
theorem dX7_can_160 : decode cX7_can 160 = .ok (.iconst 1, 1) := by decide +kernel
theorem dX7_can_161 : decode cX7_can 161 = .ok (.if_icmp .ne 8, 3) := by decide +kernel
theorem dX7_can_164 : decode cX7_can 164 = .ok (.iload 5, 2) := by decide +kernel
theorem dX7_can_166 : decode cX7_can 166 = .ok (.goto 5, 3) := by decide +kernel
theorem dX7_can_169 : decode cX7_can 169 = .ok (.iload 6, 2) := by decide +kernel
theorem dX7_can_171 : decode cX7_can 171 = .ok (.ireturn, 1) := by decide +kernel
set_option maxRecDepth 20000 in
theorem ggX7_see_X7_isHouse : GoodIn wsX7_see wsX7_isHouse := goodIn_r _ [8, 9, 10, 11, 7, 12, 17, 18, 19, 20, 21, 22, 23, 24, 25, 26, 27, 28, 29, 30, 31, 32, 33, 34, 35, 36, 37, 38, 39, 40, 41, 42, 43, 44, 45, 46, 47, 48, 49, 50, 51, 52, 53, 54] (by decide +kernel) (by decide +kernel)
set_option maxRecDepth 20000 in
theorem gX7_see_X7_isHouse : GoodIn wsX7_see (wsV RX7 181 RX7 yX7_isHouse wsX7_isHouse) := goodIn_app (goodIn_of _ (by decide +kernel)) ggX7_see_X7_isHouse
set_option maxRecDepth 20000 in
theorem ggX7_see_X7_isDay : GoodIn wsX7_see wsX7_isDay := goodIn_r _ [15, 16, 10, 11, 7, 12] (by decide +kernel) (by decide +kernel)
set_option maxRecDepth 20000 in
theorem gX7_see_X7_isDay : GoodIn wsX7_see (va_wsS RX7 178 yX7_isDay wsX7_isDay) := goodIn_app (goodIn_of _ (by decide +kernel)) ggX7_see_X7_isDay
set_option maxRecDepth 20000 in
theorem ggX7_see_X7_in : GoodIn wsX7_see wsX7_in := goodIn_r _ [12] (by decide +kernel) (by decide +kernel)
set_option maxRecDepth 20000 in
theorem gX7_see_X7_in : GoodIn wsX7_see (va_wsS RX7 66 yX7_in wsX7_in) := goodIn_app (goodIn_of _ (by decide +kernel)) ggX7_see_X7_in
theorem dX7_see_0 : decode cX7_see 0 = .ok (.aload_n 0, 1) := by decide +kernel
theorem dX7_see_1 : decode cX7_see 1 = .ok (.iload_n 1, 1) := by decide +kernel
theorem dX7_see_2 : decode cX7_see 2 = .ok (.invokevirtual 181, 3) := by decide +kernel
theorem dX7_see_5 : decode cX7_see 5 = .ok (.ifCond .eq 22, 3) := by decide +kernel
theorem dX7_see_8 : decode cX7_see 8 = .ok (.iload_n 2, 1) := by decide +kernel
theorem dX7_see_9 : decode cX7_see 9 = .ok (.invokestatic 178, 3) := by decide +kernel
theorem dX7_see_12 : decode cX7_see 12 = .ok (.ifCond .eq 15, 3) := by decide +kernel
theorem dX7_see_15 : decode cX7_see 15 = .ok (.iload_n 3, 1) := by decide +kernel
theorem dX7_see_16 : decode cX7_see 16 = .ok (.i2l, 1) := by decide +kernel
theorem dX7_see_17 : decode cX7_see 17 = .ok (.lconst 0, 1) := by decide +kernel
theorem dX7_see_18 : decode cX7_see 18 = .ok (.ldc2_w 241, 3) := by decide +kernel
theorem dX7_see_21 : decode cX7_see 21 = .ok (.invokestatic 66, 3) := by decide +kernel
theorem dX7_see_24 : decode cX7_see 24 = .ok (.ifCond .ne 5, 3) := by decide +kernel
theorem dX7_see_27 : decode cX7_see 27 = .ok (.iconst (-1), 1) := by decide +kernel
theorem dX7_see_28 : decode cX7_see 28 = .ok (.ireturn, 1) := by decide +kernel
theorem dX7_see_29 : decode cX7_see 29 = .ok (.aload_n 0, 1) := by decide +kernel
theorem dX7_see_30 : decode cX7_see 30 = .ok (.getfield 164, 3) := by decide +kernel
theorem dX7_see_33 : decode cX7_see 33 = .ok (.bipush 8, 2) := by decide +kernel
theorem dX7_see_35 : decode cX7_see 35 = .ok (.if_icmp .ne 6, 3) := by decide +kernel
theorem dX7_see_38 : decode cX7_see 38 = .ok (.bipush (-3), 2) := by decide +kernel
theorem dX7_see_40 : decode cX7_see 40 = .ok (.ireturn, 1) := by decide +kernel
theorem dX7_see_41 : decode cX7_see 41 = .ok (.aload_n 0, 1) := by decide +kernel
theorem dX7_see_42 : decode cX7_see 42 = .ok (.getfield 47, 3) := by decide +kernel
theorem dX7_see_45 : decode cX7_see 45 = .ok (.iconst 3, 1) := by decide +kernel
theorem dX7_see_46 : decode cX7_see 46 = .ok (.aload_n 0, 1) := by decide +kernel
theorem dX7_see_47 : decode cX7_see 47 = .ok (.getfield 164, 3) := by decide +kernel
theorem dX7_see_50 : decode cX7_see 50 = .ok (.imul, 1) := by decide +kernel
theorem dX7_see_51 : decode cX7_see 51 = .ok (.iload_n 1, 1) := by decide +kernel
theorem dX7_see_52 : decode cX7_see 52 = .ok (.iastore, 1) := by decide +kernel
theorem dX7_see_53 : decode cX7_see 53 = .ok (.aload_n 0, 1) := by decide +kernel
theorem dX7_see_54 : decode cX7_see 54 = .ok (.getfield 47, 3) := by decide +kernel
theorem dX7_see_57 : decode cX7_see 57 = .ok (.iconst 3, 1) := by decide +kernel
theorem dX7_see_58 : decode cX7_see 58 = .ok (.aload_n 0, 1) := by decide +kernel
theorem dX7_see_59 : decode cX7_see 59 = .ok (.getfield 164, 3) := by decide +kernel
theorem dX7_see_62 : decode cX7_see 62 = .ok (.imul, 1) := by decide +kernel
theorem dX7_see_63 : decode cX7_see 63 = .ok (.iconst 1, 1) := by decide +kernel
theorem dX7_see_64 : decode cX7_see 64 = .ok (.iadd, 1) := by decide +kernel
theorem dX7_see_65 : decode cX7_see 65 = .ok (.iload_n 2, 1) := by decide +kernel
theorem dX7_see_66 : decode cX7_see 66 = .ok (.iastore, 1) := by decide +kernel
theorem dX7_see_67 : decode cX7_see 67 = .ok (.aload_n 0, 1) := by decide +kernel
theorem dX7_see_68 : decode cX7_see 68 = .ok (.getfield 47, 3) := by decide +kernel
theorem dX7_see_71 : decode cX7_see 71 = .ok (.iconst 3, 1) := by decide +kernel
theorem dX7_see_72 : decode cX7_see 72 = .ok (.aload_n 0, 1) := by decide +kernel
theorem dX7_see_73 : decode cX7_see 73 = .ok (.getfield 164, 3) := by decide +kernel
theorem dX7_see_76 : decode cX7_see 76 = .ok (.imul, 1) := by decide +kernel
theorem dX7_see_77 : decode cX7_see 77 = .ok (.iconst 2, 1) := by decide +kernel
theorem dX7_see_78 : decode cX7_see 78 = .ok (.iadd, 1) := by decide +kernel
theorem dX7_see_79 : decode cX7_see 79 = .ok (.iload_n 3, 1) := by decide +kernel
theorem dX7_see_80 : decode cX7_see 80 = .ok (.iastore, 1) := by decide +kernel
theorem dX7_see_81 : decode cX7_see 81 = .ok (.aload_n 0, 1) := by decide +kernel
theorem dX7_see_82 : decode cX7_see 82 = .ok (.dup, 1) := by decide +kernel
theorem dX7_see_83 : decode cX7_see 83 = .ok (.getfield 164, 3) := by decide +kernel
theorem dX7_see_86 : decode cX7_see 86 = .ok (.iconst 1, 1) := by decide +kernel
theorem dX7_see_87 : decode cX7_see 87 = .ok (.iadd, 1) := by decide +kernel
theorem dX7_see_88 : decode cX7_see 88 = .ok (.putfield 164, 3) := by decide +kernel
theorem dX7_see_91 : decode cX7_see 91 = .ok (.aload_n 0, 1) := by decide +kernel
theorem dX7_see_92 : decode cX7_see 92 = .ok (.getfield 164, 3) := by decide +kernel
theorem dX7_see_95 : decode cX7_see 95 = .ok (.ireturn, 1) := by decide +kernel
set_option maxRecDepth 20000 in
theorem ggX7_forget_X7_in : GoodIn wsX7_forget wsX7_in := goodIn_r _ [5] (by decide +kernel) (by decide +kernel)
set_option maxRecDepth 20000 in
theorem gX7_forget_X7_in : GoodIn wsX7_forget (va_wsS RX7 66 yX7_in wsX7_in) := goodIn_app (goodIn_of _ (by decide +kernel)) ggX7_forget_X7_in
theorem dX7_forget_0 : decode cX7_forget 0 = .ok (.iload_n 1, 1) := by decide +kernel
theorem dX7_forget_1 : decode cX7_forget 1 = .ok (.i2l, 1) := by decide +kernel
theorem dX7_forget_2 : decode cX7_forget 2 = .ok (.lconst 0, 1) := by decide +kernel
theorem dX7_forget_3 : decode cX7_forget 3 = .ok (.aload_n 0, 1) := by decide +kernel
theorem dX7_forget_4 : decode cX7_forget 4 = .ok (.getfield 164, 3) := by decide +kernel
theorem dX7_forget_7 : decode cX7_forget 7 = .ok (.i2l, 1) := by decide +kernel
theorem dX7_forget_8 : decode cX7_forget 8 = .ok (.invokestatic 66, 3) := by decide +kernel
theorem dX7_forget_11 : decode cX7_forget 11 = .ok (.ifCond .ne 5, 3) := by decide +kernel
theorem dX7_forget_14 : decode cX7_forget 14 = .ok (.iconst (-1), 1) := by decide +kernel
theorem dX7_forget_15 : decode cX7_forget 15 = .ok (.ireturn, 1) := by decide +kernel
theorem dX7_forget_16 : decode cX7_forget 16 = .ok (.aload_n 0, 1) := by decide +kernel
theorem dX7_forget_17 : decode cX7_forget 17 = .ok (.getfield 164, 3) := by decide +kernel
theorem dX7_forget_20 : decode cX7_forget 20 = .ok (.istore_n 2, 1) := by decide +kernel
theorem dX7_forget_21 : decode cX7_forget 21 = .ok (.aload_n 0, 1) := by decide +kernel
theorem dX7_forget_22 : decode cX7_forget 22 = .ok (.iload_n 1, 1) := by decide +kernel
theorem dX7_forget_23 : decode cX7_forget 23 = .ok (.putfield 164, 3) := by decide +kernel
theorem dX7_forget_26 : decode cX7_forget 26 = .ok (.iload_n 2, 1) := by decide +kernel
theorem dX7_forget_27 : decode cX7_forget 27 = .ok (.ireturn, 1) := by decide +kernel
set_option maxRecDepth 20000 in
theorem ggX7_firstLie_X7_numberNow : GoodIn wsX7_firstLie wsX7_numberNow := goodIn_r _ [7, 8, 9, 10, 11, 6, 12, 13, 14, 15, 16, 17, 18, 19, 20, 21, 22, 23, 24, 25, 26, 27, 28, 29, 30, 31, 32, 33, 34, 35, 36, 37, 38, 39, 40, 41, 42, 43, 44, 45, 46, 47, 48, 49, 50, 51, 52, 53, 54, 55, 56, 57, 58, 59, 60, 61, 62, 63, 64, 65, 66, 67, 68, 69, 70, 71, 72, 73, 74, 75, 76, 77, 78, 79, 80, 81, 82] (by decide +kernel) (by decide +kernel)
set_option maxRecDepth 20000 in
theorem gX7_firstLie_X7_numberNow : GoodIn wsX7_firstLie (wsV RX7 228 RX7 yX7_numberNow wsX7_numberNow) := goodIn_app (goodIn_of _ (by decide +kernel)) ggX7_firstLie_X7_numberNow
theorem dX7_firstLie_0 : decode cX7_firstLie 0 = .ok (.iconst 0, 1) := by decide +kernel
theorem dX7_firstLie_1 : decode cX7_firstLie 1 = .ok (.istore_n 1, 1) := by decide +kernel
theorem dX7_firstLie_2 : decode cX7_firstLie 2 = .ok (.iload_n 1, 1) := by decide +kernel
theorem dX7_firstLie_3 : decode cX7_firstLie 3 = .ok (.aload_n 0, 1) := by decide +kernel
theorem dX7_firstLie_4 : decode cX7_firstLie 4 = .ok (.getfield 164, 3) := by decide +kernel
theorem dX7_firstLie_7 : decode cX7_firstLie 7 = .ok (.if_icmp .ge 46, 3) := by decide +kernel
theorem dX7_firstLie_10 : decode cX7_firstLie 10 = .ok (.aload_n 0, 1) := by decide +kernel
theorem dX7_firstLie_11 : decode cX7_firstLie 11 = .ok (.aload_n 0, 1) := by decide +kernel
theorem dX7_firstLie_12 : decode cX7_firstLie 12 = .ok (.getfield 47, 3) := by decide +kernel
theorem dX7_firstLie_15 : decode cX7_firstLie 15 = .ok (.iconst 3, 1) := by decide +kernel
theorem dX7_firstLie_16 : decode cX7_firstLie 16 = .ok (.iload_n 1, 1) := by decide +kernel
theorem dX7_firstLie_17 : decode cX7_firstLie 17 = .ok (.imul, 1) := by decide +kernel
theorem dX7_firstLie_18 : decode cX7_firstLie 18 = .ok (.iaload, 1) := by decide +kernel
theorem dX7_firstLie_19 : decode cX7_firstLie 19 = .ok (.aload_n 0, 1) := by decide +kernel
theorem dX7_firstLie_20 : decode cX7_firstLie 20 = .ok (.getfield 47, 3) := by decide +kernel
theorem dX7_firstLie_23 : decode cX7_firstLie 23 = .ok (.iconst 3, 1) := by decide +kernel
theorem dX7_firstLie_24 : decode cX7_firstLie 24 = .ok (.iload_n 1, 1) := by decide +kernel
theorem dX7_firstLie_25 : decode cX7_firstLie 25 = .ok (.imul, 1) := by decide +kernel
theorem dX7_firstLie_26 : decode cX7_firstLie 26 = .ok (.iconst 1, 1) := by decide +kernel
theorem dX7_firstLie_27 : decode cX7_firstLie 27 = .ok (.iadd, 1) := by decide +kernel
theorem dX7_firstLie_28 : decode cX7_firstLie 28 = .ok (.iaload, 1) := by decide +kernel
theorem dX7_firstLie_29 : decode cX7_firstLie 29 = .ok (.invokevirtual 228, 3) := by decide +kernel
theorem dX7_firstLie_32 : decode cX7_firstLie 32 = .ok (.aload_n 0, 1) := by decide +kernel
theorem dX7_firstLie_33 : decode cX7_firstLie 33 = .ok (.getfield 47, 3) := by decide +kernel
theorem dX7_firstLie_36 : decode cX7_firstLie 36 = .ok (.iconst 3, 1) := by decide +kernel
theorem dX7_firstLie_37 : decode cX7_firstLie 37 = .ok (.iload_n 1, 1) := by decide +kernel
theorem dX7_firstLie_38 : decode cX7_firstLie 38 = .ok (.imul, 1) := by decide +kernel
theorem dX7_firstLie_39 : decode cX7_firstLie 39 = .ok (.iconst 2, 1) := by decide +kernel
theorem dX7_firstLie_40 : decode cX7_firstLie 40 = .ok (.iadd, 1) := by decide +kernel
theorem dX7_firstLie_41 : decode cX7_firstLie 41 = .ok (.iaload, 1) := by decide +kernel
theorem dX7_firstLie_42 : decode cX7_firstLie 42 = .ok (.if_icmp .eq 5, 3) := by decide +kernel
theorem dX7_firstLie_45 : decode cX7_firstLie 45 = .ok (.iload_n 1, 1) := by decide +kernel
theorem dX7_firstLie_46 : decode cX7_firstLie 46 = .ok (.ireturn, 1) := by decide +kernel
theorem dX7_firstLie_47 : decode cX7_firstLie 47 = .ok (.iinc 1 1, 3) := by decide +kernel
theorem dX7_firstLie_50 : decode cX7_firstLie 50 = .ok (.goto (-48), 3) := by decide +kernel
theorem dX7_firstLie_53 : decode cX7_firstLie 53 = .ok (.bipush (-4), 2) := by decide +kernel
theorem dX7_firstLie_55 : decode cX7_firstLie 55 = .ok (.ireturn, 1) := by decide +kernel
set_option maxRecDepth 20000 in
theorem ggX7_lie_X7_firstLie : GoodIn wsX7_lie wsX7_firstLie := goodIn_r _ [5, 6, 7, 8, 9, 10, 4, 11, 12, 13, 14, 15, 16, 17, 18, 19, 20, 21, 22, 23, 24, 25, 26, 27, 28, 29, 30, 31, 32, 33, 34, 35, 36, 37, 38, 39, 40, 41, 42, 43, 44, 45, 46, 47, 48, 49, 50, 51, 52, 53, 54, 55, 56, 57, 58, 59, 60, 61, 62, 63, 64, 65, 66, 67, 68, 69, 70, 71, 72, 73, 74, 75, 76, 77, 78, 79, 80, 81, 82, 83, 84, 85, 86] (by decide +kernel) (by decide +kernel)
set_option maxRecDepth 20000 in
theorem gX7_lie_X7_firstLie : GoodIn wsX7_lie (wsV RX7 268 RX7 yX7_firstLie wsX7_firstLie) := goodIn_app (goodIn_of _ (by decide +kernel)) ggX7_lie_X7_firstLie
theorem dX7_lie_0 : decode cX7_lie 0 = .ok (.aload_n 0, 1) := by decide +kernel
theorem dX7_lie_1 : decode cX7_lie 1 = .ok (.invokevirtual 268, 3) := by decide +kernel
theorem dX7_lie_4 : decode cX7_lie 4 = .ok (.ireturn, 1) := by decide +kernel
set_option maxRecDepth 20000 in
theorem ggX7_born_X7_isOne : GoodIn wsX7_born wsX7_isOne := goodIn_r _ [7, 8, 9, 10, 6, 11, 2, 12, 13, 14, 61, 62, 63, 64, 65, 66, 67, 68, 69, 70, 71, 72, 73, 74, 75, 76, 77, 78, 79, 80, 81, 82, 83, 84, 85, 86, 87, 88, 89, 90, 91, 92, 93, 94, 95, 96, 97, 98] (by decide +kernel) (by decide +kernel)
set_option maxRecDepth 20000 in
theorem gX7_born_X7_isOne : GoodIn wsX7_born (wsV RX7 174 RX7 yX7_isOne wsX7_isOne) := goodIn_app (goodIn_of _ (by decide +kernel)) ggX7_born_X7_isOne
set_option maxRecDepth 20000 in
theorem ggX7_born_X7_in : GoodIn wsX7_born wsX7_in := goodIn_r _ [14] (by decide +kernel) (by decide +kernel)
set_option maxRecDepth 20000 in
theorem gX7_born_X7_in : GoodIn wsX7_born (va_wsS RX7 66 yX7_in wsX7_in) := goodIn_app (goodIn_of _ (by decide +kernel)) ggX7_born_X7_in
set_option maxRecDepth 20000 in
theorem ggX7_born_X7_firstLie : GoodIn wsX7_born wsX7_firstLie := goodIn_r _ [18, 19, 20, 21, 22, 23, 6, 24, 2, 25, 26, 27, 28, 29, 30, 31, 32, 33, 34, 35, 36, 37, 38, 39, 40, 41, 42, 43, 44, 45, 46, 47, 48, 49, 50, 51, 52, 53, 54, 55, 56, 57, 58, 59, 60, 61, 62, 63, 64, 65, 66, 67, 68, 69, 70, 71, 72, 73, 74, 75, 76, 77, 78, 79, 80, 81, 82, 83, 84, 85, 86, 87, 88, 89, 90, 91, 92, 93, 94, 95, 96, 97, 98] (by decide +kernel) (by decide +kernel)
set_option maxRecDepth 20000 in
theorem gX7_born_X7_firstLie : GoodIn wsX7_born (wsV RX7 268 RX7 yX7_firstLie wsX7_firstLie) := goodIn_app (goodIn_of _ (by decide +kernel)) ggX7_born_X7_firstLie
theorem dX7_born_0 : decode cX7_born 0 = .ok (.aload_n 0, 1) := by decide +kernel
theorem dX7_born_1 : decode cX7_born 1 = .ok (.iload_n 1, 1) := by decide +kernel
theorem dX7_born_2 : decode cX7_born 2 = .ok (.invokevirtual 174, 3) := by decide +kernel
theorem dX7_born_5 : decode cX7_born 5 = .ok (.ifCond .eq 15, 3) := by decide +kernel
theorem dX7_born_8 : decode cX7_born 8 = .ok (.iload_n 2, 1) := by decide +kernel
theorem dX7_born_9 : decode cX7_born 9 = .ok (.i2l, 1) := by decide +kernel
theorem dX7_born_10 : decode cX7_born 10 = .ok (.lconst 0, 1) := by decide +kernel
theorem dX7_born_11 : decode cX7_born 11 = .ok (.ldc2_w 172, 3) := by decide +kernel
theorem dX7_born_14 : decode cX7_born 14 = .ok (.invokestatic 66, 3) := by decide +kernel
theorem dX7_born_17 : decode cX7_born 17 = .ok (.ifCond .ne 5, 3) := by decide +kernel
theorem dX7_born_20 : decode cX7_born 20 = .ok (.iconst (-1), 1) := by decide +kernel
theorem dX7_born_21 : decode cX7_born 21 = .ok (.ireturn, 1) := by decide +kernel
theorem dX7_born_22 : decode cX7_born 22 = .ok (.aload_n 0, 1) := by decide +kernel
theorem dX7_born_23 : decode cX7_born 23 = .ok (.getfield 7, 3) := by decide +kernel
theorem dX7_born_26 : decode cX7_born 26 = .ok (.iconst 4, 1) := by decide +kernel
theorem dX7_born_27 : decode cX7_born 27 = .ok (.iload_n 1, 1) := by decide +kernel
theorem dX7_born_28 : decode cX7_born 28 = .ok (.imul, 1) := by decide +kernel
theorem dX7_born_29 : decode cX7_born 29 = .ok (.iconst 1, 1) := by decide +kernel
theorem dX7_born_30 : decode cX7_born 30 = .ok (.iadd, 1) := by decide +kernel
theorem dX7_born_31 : decode cX7_born 31 = .ok (.iaload, 1) := by decide +kernel
theorem dX7_born_32 : decode cX7_born 32 = .ok (.istore_n 3, 1) := by decide +kernel
theorem dX7_born_33 : decode cX7_born 33 = .ok (.aload_n 0, 1) := by decide +kernel
theorem dX7_born_34 : decode cX7_born 34 = .ok (.getfield 7, 3) := by decide +kernel
theorem dX7_born_37 : decode cX7_born 37 = .ok (.iconst 4, 1) := by decide +kernel
theorem dX7_born_38 : decode cX7_born 38 = .ok (.iload_n 1, 1) := by decide +kernel
theorem dX7_born_39 : decode cX7_born 39 = .ok (.imul, 1) := by decide +kernel
theorem dX7_born_40 : decode cX7_born 40 = .ok (.iconst 3, 1) := by decide +kernel
theorem dX7_born_41 : decode cX7_born 41 = .ok (.iadd, 1) := by decide +kernel
theorem dX7_born_42 : decode cX7_born 42 = .ok (.iaload, 1) := by decide +kernel
theorem dX7_born_43 : decode cX7_born 43 = .ok (.istore 4, 2) := by decide +kernel
theorem dX7_born_45 : decode cX7_born 45 = .ok (.iconst 0, 1) := by decide +kernel
theorem dX7_born_46 : decode cX7_born 46 = .ok (.istore 5, 2) := by decide +kernel
theorem dX7_born_48 : decode cX7_born 48 = .ok (.bipush (-4), 2) := by decide +kernel
theorem dX7_born_50 : decode cX7_born 50 = .ok (.istore 6, 2) := by decide +kernel
theorem dX7_born_52 : decode cX7_born 52 = .ok (.bipush (-4), 2) := by decide +kernel
theorem dX7_born_54 : decode cX7_born 54 = .ok (.istore 7, 2) := by decide +kernel
theorem dX7_born_56 : decode cX7_born 56 = .ok (.iconst 0, 1) := by decide +kernel
theorem dX7_born_57 : decode cX7_born 57 = .ok (.istore 8, 2) := by decide +kernel
theorem dX7_born_59 : decode cX7_born 59 = .ok (.iload 8, 2) := by decide +kernel
theorem dX7_born_61 : decode cX7_born 61 = .ok (.bipush 100, 2) := by decide +kernel
theorem dX7_born_63 : decode cX7_born 63 = .ok (.if_icmp .ge 83, 3) := by decide +kernel
theorem dX7_born_66 : decode cX7_born 66 = .ok (.aload_n 0, 1) := by decide +kernel
theorem dX7_born_67 : decode cX7_born 67 = .ok (.getfield 7, 3) := by decide +kernel
theorem dX7_born_70 : decode cX7_born 70 = .ok (.iconst 4, 1) := by decide +kernel
theorem dX7_born_71 : decode cX7_born 71 = .ok (.iload_n 1, 1) := by decide +kernel
theorem dX7_born_72 : decode cX7_born 72 = .ok (.imul, 1) := by decide +kernel
theorem dX7_born_73 : decode cX7_born 73 = .ok (.iconst 1, 1) := by decide +kernel
theorem dX7_born_74 : decode cX7_born 74 = .ok (.iadd, 1) := by decide +kernel
theorem dX7_born_75 : decode cX7_born 75 = .ok (.sipush 360, 3) := by decide +kernel
theorem dX7_born_78 : decode cX7_born 78 = .ok (.iload 8, 2) := by decide +kernel
theorem dX7_born_80 : decode cX7_born 80 = .ok (.imul, 1) := by decide +kernel
theorem dX7_born_81 : decode cX7_born 81 = .ok (.iload_n 3, 1) := by decide +kernel
theorem dX7_born_82 : decode cX7_born 82 = .ok (.sipush 360, 3) := by decide +kernel
theorem dX7_born_85 : decode cX7_born 85 = .ok (.irem, 1) := by decide +kernel
theorem dX7_born_86 : decode cX7_born 86 = .ok (.iadd, 1) := by decide +kernel
theorem dX7_born_87 : decode cX7_born 87 = .ok (.iastore, 1) := by decide +kernel
theorem dX7_born_88 : decode cX7_born 88 = .ok (.iload 4, 2) := by decide +kernel
theorem dX7_born_90 : decode cX7_born 90 = .ok (.bipush (-4), 2) := by decide +kernel
