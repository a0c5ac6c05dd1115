theorem dX6_born_149 : decode cX6_born 149 = .ok (.ifCond .ne 5, 3) := by decide +kernel
theorem dX6_born_152 : decode cX6_born 152 = .ok (.iload_n 3, 1) := by decide +kernel
theorem dX6_born_153 : decode cX6_born 153 = .ok (.ireturn, 1) := by decide +kernel
theorem dX6_born_154 : decode cX6_born 154 = .ok (.iload_n 2, 1) := by decide +kernel
theorem dX6_born_155 : decode cX6_born 155 = .ok (.iconst 1, 1) := by decide +kernel
theorem dX6_born_156 : decode cX6_born 156 = .ok (.if_icmp .ne 8, 3) := by decide +kernel
theorem dX6_born_159 : decode cX6_born 159 = .ok (.iload 4, 2) := by decide +kernel
theorem dX6_born_161 : decode cX6_born 161 = .ok (.goto 5, 3) := by decide +kernel
theorem dX6_born_164 : decode cX6_born 164 = .ok (.iload 5, 2) := by decide +kernel
theorem dX6_born_166 : decode cX6_born 166 = .ok (.ireturn, 1) := by decide +kernel
set_option maxRecDepth 20000 in
theorem ggX6_later_X6_isDay : GoodIn wsX6_later wsX6_isDay := goodIn_r _ [11, 12] (by decide +kernel) (by decide +kernel)
set_option maxRecDepth 20000 in
theorem gX6_later_X6_isDay : GoodIn wsX6_later (va_wsS RX6 148 yX6_isDay wsX6_isDay) := goodIn_app (goodIn_of _ (by decide +kernel)) ggX6_later_X6_isDay
set_option maxRecDepth 20000 in
theorem ggX6_later_X5_copyOf : GoodIn wsX6_later wsX5_copyOf := goodIn_r _ [17, 18, 19, 20, 21, 22, 23, 24, 25, 26, 27, 28, 29, 30, 31, 32, 33, 34, 35, 36, 102, 103, 104, 105, 106, 107, 108, 109, 110, 111, 112, 113, 114, 115, 116, 117] (by decide +kernel) (by decide +kernel)
set_option maxRecDepth 20000 in
theorem gX6_later_X5_copyOf : GoodIn wsX6_later (wsV RX6 84 RX5 yX5_copyOf wsX5_copyOf) := goodIn_app (goodIn_of _ (by decide +kernel)) ggX6_later_X5_copyOf
set_option maxRecDepth 20000 in
theorem ggX6_later_X6_lastDayOf : GoodIn wsX6_later wsX6_lastDayOf := goodIn_r _ [39] (by decide +kernel) (by decide +kernel)
set_option maxRecDepth 20000 in
theorem gX6_later_X6_lastDayOf : GoodIn wsX6_later (va_wsS RX6 247 yX6_lastDayOf wsX6_lastDayOf) := goodIn_app (goodIn_of _ (by decide +kernel)) ggX6_later_X6_lastDayOf
set_option maxRecDepth 20000 in
theorem ggX6_later_X5_passYearEnd : GoodIn wsX6_later wsX5_passYearEnd := goodIn_r _ [43, 20, 44, 30, 45, 46, 47, 16, 48, 28, 49, 50, 51, 52, 102, 103, 104, 105, 106, 107, 108, 109, 110, 111, 112, 113, 114, 115, 116, 117] (by decide +kernel) (by decide +kernel)
set_option maxRecDepth 20000 in
theorem gX6_later_X5_passYearEnd : GoodIn wsX6_later (wsV RX6 250 RX5 yX5_passYearEnd wsX5_passYearEnd) := goodIn_app (goodIn_of _ (by decide +kernel)) ggX6_later_X5_passYearEnd
set_option maxRecDepth 20000 in
theorem ggX6_later_X5_aliveOn : GoodIn wsX6_later wsX5_aliveOn := goodIn_r _ [56, 20, 45, 46, 47, 16, 48, 28, 30, 102, 103, 104, 105, 106, 107, 108, 109, 110, 111, 112, 113, 114, 115, 116, 117] (by decide +kernel) (by decide +kernel)
set_option maxRecDepth 20000 in
theorem gX6_later_X5_aliveOn : GoodIn wsX6_later (wsV RX6 253 RX5 yX5_aliveOn wsX5_aliveOn) := goodIn_app (goodIn_of _ (by decide +kernel)) ggX6_later_X5_aliveOn
set_option maxRecDepth 20000 in
theorem ggX6_later_X5_allNumbers : GoodIn wsX6_later wsX5_allNumbers := goodIn_r _ [60, 18, 61, 62, 63, 16, 64, 65, 20, 23, 66, 67, 68, 69, 70, 71, 72, 45, 46, 47, 48, 28, 30, 73, 74, 75, 76, 21, 32, 31, 33, 29, 49, 50, 51, 52, 77, 78, 79, 80, 81, 82, 5, 83, 84, 85, 86, 4, 6, 87, 88, 89, 90, 102, 103, 104, 105, 106, 107, 108, 109, 110, 111, 112, 113, 114, 115, 116, 117, 118, 119, 120, 121] (by decide +kernel) (by decide +kernel)
set_option maxRecDepth 20000 in
theorem gX6_later_X5_allNumbers : GoodIn wsX6_later (wsV RX6 198 RX5 yX5_allNumbers wsX5_allNumbers) := goodIn_app (goodIn_of _ (by decide +kernel)) ggX6_later_X5_allNumbers
theorem dX6_later_0 : decode cX6_later 0 = .ok (.iload_n 2, 1) := by decide +kernel
theorem dX6_later_1 : decode cX6_later 1 = .ok (.invokestatic 148, 3) := by decide +kernel
theorem dX6_later_4 : decode cX6_later 4 = .ok (.ifCond .eq 25, 3) := by decide +kernel
theorem dX6_later_7 : decode cX6_later 7 = .ok (.iload_n 3, 1) := by decide +kernel
theorem dX6_later_8 : decode cX6_later 8 = .ok (.iconst 1, 1) := by decide +kernel
theorem dX6_later_9 : decode cX6_later 9 = .ok (.if_icmp .lt 20, 3) := by decide +kernel
theorem dX6_later_12 : decode cX6_later 12 = .ok (.iload_n 3, 1) := by decide +kernel
theorem dX6_later_13 : decode cX6_later 13 = .ok (.bipush 40, 2) := by decide +kernel
theorem dX6_later_15 : decode cX6_later 15 = .ok (.if_icmp .gt 14, 3) := by decide +kernel
theorem dX6_later_18 : decode cX6_later 18 = .ok (.iload 4, 2) := by decide +kernel
theorem dX6_later_20 : decode cX6_later 20 = .ok (.ifCond .lt 9, 3) := by decide +kernel
theorem dX6_later_23 : decode cX6_later 23 = .ok (.iload 4, 2) := by decide +kernel
theorem dX6_later_25 : decode cX6_later 25 = .ok (.iconst 1, 1) := by decide +kernel
theorem dX6_later_26 : decode cX6_later 26 = .ok (.if_icmp .le 5, 3) := by decide +kernel
theorem dX6_later_29 : decode cX6_later 29 = .ok (.iconst (-1), 1) := by decide +kernel
theorem dX6_later_30 : decode cX6_later 30 = .ok (.ireturn, 1) := by decide +kernel
theorem dX6_later_31 : decode cX6_later 31 = .ok (.aload_n 0, 1) := by decide +kernel
theorem dX6_later_32 : decode cX6_later 32 = .ok (.getfield 16, 3) := by decide +kernel
theorem dX6_later_35 : decode cX6_later 35 = .ok (.aload_n 0, 1) := by decide +kernel
theorem dX6_later_36 : decode cX6_later 36 = .ok (.getfield 12, 3) := by decide +kernel
theorem dX6_later_39 : decode cX6_later 39 = .ok (.invokevirtual 84, 3) := by decide +kernel
theorem dX6_later_42 : decode cX6_later 42 = .ok (.iload_n 2, 1) := by decide +kernel
theorem dX6_later_43 : decode cX6_later 43 = .ok (.sipush 360, 3) := by decide +kernel
theorem dX6_later_46 : decode cX6_later 46 = .ok (.idiv, 1) := by decide +kernel
theorem dX6_later_47 : decode cX6_later 47 = .ok (.istore 5, 2) := by decide +kernel
theorem dX6_later_49 : decode cX6_later 49 = .ok (.iload 5, 2) := by decide +kernel
theorem dX6_later_51 : decode cX6_later 51 = .ok (.iload_n 3, 1) := by decide +kernel
theorem dX6_later_52 : decode cX6_later 52 = .ok (.iadd, 1) := by decide +kernel
theorem dX6_later_53 : decode cX6_later 53 = .ok (.bipush 100, 2) := by decide +kernel
theorem dX6_later_55 : decode cX6_later 55 = .ok (.invokestatic 235, 3) := by decide +kernel
theorem dX6_later_58 : decode cX6_later 58 = .ok (.iconst 1, 1) := by decide +kernel
theorem dX6_later_59 : decode cX6_later 59 = .ok (.isub, 1) := by decide +kernel
theorem dX6_later_60 : decode cX6_later 60 = .ok (.istore 6, 2) := by decide +kernel
theorem dX6_later_62 : decode cX6_later 62 = .ok (.iload_n 1, 1) := by decide +kernel
theorem dX6_later_63 : decode cX6_later 63 = .ok (.istore 7, 2) := by decide +kernel
theorem dX6_later_65 : decode cX6_later 65 = .ok (.iload 5, 2) := by decide +kernel
theorem dX6_later_67 : decode cX6_later 67 = .ok (.istore 8, 2) := by decide +kernel
theorem dX6_later_69 : decode cX6_later 69 = .ok (.iload 8, 2) := by decide +kernel
theorem dX6_later_71 : decode cX6_later 71 = .ok (.iload 6, 2) := by decide +kernel
theorem dX6_later_73 : decode cX6_later 73 = .ok (.if_icmp .gt 25, 3) := by decide +kernel
theorem dX6_later_76 : decode cX6_later 76 = .ok (.aload_n 0, 1) := by decide +kernel
theorem dX6_later_77 : decode cX6_later 77 = .ok (.getfield 16, 3) := by decide +kernel
theorem dX6_later_80 : decode cX6_later 80 = .ok (.iload 8, 2) := by decide +kernel
theorem dX6_later_82 : decode cX6_later 82 = .ok (.invokestatic 247, 3) := by decide +kernel
theorem dX6_later_85 : decode cX6_later 85 = .ok (.iload 7, 2) := by decide +kernel
theorem dX6_later_87 : decode cX6_later 87 = .ok (.invokevirtual 250, 3) := by decide +kernel
theorem dX6_later_90 : decode cX6_later 90 = .ok (.istore 7, 2) := by decide +kernel
theorem dX6_later_92 : decode cX6_later 92 = .ok (.iinc 8 1, 3) := by decide +kernel
theorem dX6_later_95 : decode cX6_later 95 = .ok (.goto (-26), 3) := by decide +kernel
theorem dX6_later_98 : decode cX6_later 98 = .ok (.iload 6, 2) := by decide +kernel
theorem dX6_later_100 : decode cX6_later 100 = .ok (.invokestatic 247, 3) := by decide +kernel
theorem dX6_later_103 : decode cX6_later 103 = .ok (.istore 8, 2) := by decide +kernel
theorem dX6_later_105 : decode cX6_later 105 = .ok (.iload 4, 2) := by decide +kernel
theorem dX6_later_107 : decode cX6_later 107 = .ok (.ifCond .ne 15, 3) := by decide +kernel
theorem dX6_later_110 : decode cX6_later 110 = .ok (.aload_n 0, 1) := by decide +kernel
theorem dX6_later_111 : decode cX6_later 111 = .ok (.getfield 16, 3) := by decide +kernel
theorem dX6_later_114 : decode cX6_later 114 = .ok (.iload 8, 2) := by decide +kernel
theorem dX6_later_116 : decode cX6_later 116 = .ok (.invokevirtual 253, 3) := by decide +kernel
theorem dX6_later_119 : decode cX6_later 119 = .ok (.goto 19, 3) := by decide +kernel
theorem dX6_later_122 : decode cX6_later 122 = .ok (.aload_n 0, 1) := by decide +kernel
theorem dX6_later_123 : decode cX6_later 123 = .ok (.getfield 16, 3) := by decide +kernel
theorem dX6_later_126 : decode cX6_later 126 = .ok (.iload 8, 2) := by decide +kernel
theorem dX6_later_128 : decode cX6_later 128 = .ok (.aload_n 0, 1) := by decide +kernel
theorem dX6_later_129 : decode cX6_later 129 = .ok (.getfield 16, 3) := by decide +kernel
theorem dX6_later_132 : decode cX6_later 132 = .ok (.getfield 97, 3) := by decide +kernel
theorem dX6_later_135 : decode cX6_later 135 = .ok (.invokevirtual 198, 3) := by decide +kernel
theorem dX6_later_138 : decode cX6_later 138 = .ok (.ireturn, 1) := by decide +kernel
set_option maxRecDepth 20000 in
theorem ggX6_keep_X6_isImage : GoodIn wsX6_keep wsX6_isImage := goodIn_r _ [7] (by decide +kernel) (by decide +kernel)
set_option maxRecDepth 20000 in
theorem gX6_keep_X6_isImage : GoodIn wsX6_keep (va_wsS RX6 256 yX6_isImage wsX6_isImage) := goodIn_app (goodIn_of _ (by decide +kernel)) ggX6_keep_X6_isImage
set_option maxRecDepth 20000 in
theorem ggX6_keep_X5_copyOf : GoodIn wsX6_keep wsX5_copyOf := goodIn_r _ [12, 13, 14, 15, 16, 17, 18, 19, 20, 21, 22, 23, 24, 25, 26, 27, 28, 29, 30, 31, 43, 44, 45, 46, 47, 48, 49, 50, 51, 52, 53, 54, 55, 56, 57, 58] (by decide +kernel) (by decide +kernel)
set_option maxRecDepth 20000 in
theorem gX6_keep_X5_copyOf : GoodIn wsX6_keep (wsV RX6 84 RX5 yX5_copyOf wsX5_copyOf) := goodIn_app (goodIn_of _ (by decide +kernel)) ggX6_keep_X5_copyOf
theorem dX6_keep_0 : decode cX6_keep 0 = .ok (.iload_n 1, 1) := by decide +kernel
theorem dX6_keep_1 : decode cX6_keep 1 = .ok (.invokestatic 256, 3) := by decide +kernel
theorem dX6_keep_4 : decode cX6_keep 4 = .ok (.ifCond .ne 5, 3) := by decide +kernel
theorem dX6_keep_7 : decode cX6_keep 7 = .ok (.iconst (-1), 1) := by decide +kernel
theorem dX6_keep_8 : decode cX6_keep 8 = .ok (.ireturn, 1) := by decide +kernel
theorem dX6_keep_9 : decode cX6_keep 9 = .ok (.aload_n 0, 1) := by decide +kernel
theorem dX6_keep_10 : decode cX6_keep 10 = .ok (.getfield 23, 3) := by decide +kernel
theorem dX6_keep_13 : decode cX6_keep 13 = .ok (.iload_n 1, 1) := by decide +kernel
theorem dX6_keep_14 : decode cX6_keep 14 = .ok (.baload, 1) := by decide +kernel
theorem dX6_keep_15 : decode cX6_keep 15 = .ok (.ifCond .eq 7, 3) := by decide +kernel
theorem dX6_keep_18 : decode cX6_keep 18 = .ok (.iconst 1, 1) := by decide +kernel
theorem dX6_keep_19 : decode cX6_keep 19 = .ok (.goto 4, 3) := by decide +kernel
theorem dX6_keep_22 : decode cX6_keep 22 = .ok (.iconst 0, 1) := by decide +kernel
theorem dX6_keep_23 : decode cX6_keep 23 = .ok (.istore_n 2, 1) := by decide +kernel
theorem dX6_keep_24 : decode cX6_keep 24 = .ok (.aload_n 0, 1) := by decide +kernel
theorem dX6_keep_25 : decode cX6_keep 25 = .ok (.getfield 19, 3) := by decide +kernel
theorem dX6_keep_28 : decode cX6_keep 28 = .ok (.iload_n 1, 1) := by decide +kernel
theorem dX6_keep_29 : decode cX6_keep 29 = .ok (.aaload, 1) := by decide +kernel
theorem dX6_keep_30 : decode cX6_keep 30 = .ok (.aload_n 0, 1) := by decide +kernel
theorem dX6_keep_31 : decode cX6_keep 31 = .ok (.getfield 12, 3) := by decide +kernel
theorem dX6_keep_34 : decode cX6_keep 34 = .ok (.invokevirtual 84, 3) := by decide +kernel
theorem dX6_keep_37 : decode cX6_keep 37 = .ok (.aload_n 0, 1) := by decide +kernel
theorem dX6_keep_38 : decode cX6_keep 38 = .ok (.getfield 23, 3) := by decide +kernel
theorem dX6_keep_41 : decode cX6_keep 41 = .ok (.iload_n 1, 1) := by decide +kernel
theorem dX6_keep_42 : decode cX6_keep 42 = .ok (.iconst 1, 1) := by decide +kernel
theorem dX6_keep_43 : decode cX6_keep 43 = .ok (.bastore, 1) := by decide +kernel
theorem dX6_keep_44 : decode cX6_keep 44 = .ok (.iload_n 2, 1) := by decide +kernel
theorem dX6_keep_45 : decode cX6_keep 45 = .ok (.ireturn, 1) := by decide +kernel
set_option maxRecDepth 20000 in
theorem ggX6_back_X6_isImage : GoodIn wsX6_back wsX6_isImage := goodIn_r _ [8] (by decide +kernel) (by decide +kernel)
set_option maxRecDepth 20000 in
theorem gX6_back_X6_isImage : GoodIn wsX6_back (va_wsS RX6 256 yX6_isImage wsX6_isImage) := goodIn_app (goodIn_of _ (by decide +kernel)) ggX6_back_X6_isImage
set_option maxRecDepth 20000 in
theorem ggX6_back_X5_copyOf : GoodIn wsX6_back wsX5_copyOf := goodIn_r _ [13, 14, 15, 16, 17, 18, 19, 20, 21, 22, 23, 24, 25, 26, 27, 28, 29, 30, 31, 32, 44, 45, 46, 47, 48, 49, 50, 51, 52, 53, 54, 55, 56, 57, 58, 59] (by decide +kernel) (by decide +kernel)
set_option maxRecDepth 20000 in
theorem gX6_back_X5_copyOf : GoodIn wsX6_back (wsV RX6 84 RX5 yX5_copyOf wsX5_copyOf) := goodIn_app (goodIn_of _ (by decide +kernel)) ggX6_back_X5_copyOf
theorem dX6_back_0 : decode cX6_back 0 = .ok (.iload_n 1, 1) := by decide +kernel
theorem dX6_back_1 : decode cX6_back 1 = .ok (.invokestatic 256, 3) := by decide +kernel
theorem dX6_back_4 : decode cX6_back 4 = .ok (.ifCond .ne 5, 3) := by decide +kernel
theorem dX6_back_7 : decode cX6_back 7 = .ok (.iconst (-1), 1) := by decide +kernel
theorem dX6_back_8 : decode cX6_back 8 = .ok (.ireturn, 1) := by decide +kernel
theorem dX6_back_9 : decode cX6_back 9 = .ok (.aload_n 0, 1) := by decide +kernel
theorem dX6_back_10 : decode cX6_back 10 = .ok (.getfield 23, 3) := by decide +kernel
theorem dX6_back_13 : decode cX6_back 13 = .ok (.iload_n 1, 1) := by decide +kernel
theorem dX6_back_14 : decode cX6_back 14 = .ok (.baload, 1) := by decide +kernel
theorem dX6_back_15 : decode cX6_back 15 = .ok (.ifCond .ne 6, 3) := by decide +kernel
theorem dX6_back_18 : decode cX6_back 18 = .ok (.bipush (-2), 2) := by decide +kernel
theorem dX6_back_20 : decode cX6_back 20 = .ok (.ireturn, 1) := by decide +kernel
theorem dX6_back_21 : decode cX6_back 21 = .ok (.aload_n 0, 1) := by decide +kernel
theorem dX6_back_22 : decode cX6_back 22 = .ok (.getfield 12, 3) := by decide +kernel
theorem dX6_back_25 : decode cX6_back 25 = .ok (.aload_n 0, 1) := by decide +kernel
theorem dX6_back_26 : decode cX6_back 26 = .ok (.getfield 19, 3) := by decide +kernel
theorem dX6_back_29 : decode cX6_back 29 = .ok (.iload_n 1, 1) := by decide +kernel
theorem dX6_back_30 : decode cX6_back 30 = .ok (.aaload, 1) := by decide +kernel
theorem dX6_back_31 : decode cX6_back 31 = .ok (.invokevirtual 84, 3) := by decide +kernel
theorem dX6_back_34 : decode cX6_back 34 = .ok (.aload_n 0, 1) := by decide +kernel
theorem dX6_back_35 : decode cX6_back 35 = .ok (.getfield 12, 3) := by decide +kernel
theorem dX6_back_38 : decode cX6_back 38 = .ok (.getfield 100, 3) := by decide +kernel
theorem dX6_back_41 : decode cX6_back 41 = .ok (.ireturn, 1) := by decide +kernel
set_option maxRecDepth 20000 in
theorem ggX6_sheet_X1_isSheet : GoodIn wsX6_sheet wsX1_isSheet := goodIn_r _ [6] (by decide +kernel) (by decide +kernel)
set_option maxRecDepth 20000 in
theorem gX6_sheet_X1_isSheet : GoodIn wsX6_sheet (wsV RX6 259 RX1 yX1_isSheet wsX1_isSheet) := goodIn_app (goodIn_of _ (by decide +kernel)) ggX6_sheet_X1_isSheet
set_option maxRecDepth 20000 in
theorem ggX6_sheet_X1_isLane : GoodIn wsX6_sheet wsX1_isLane := goodIn_r _ [10] (by decide +kernel) (by decide +kernel)
set_option maxRecDepth 20000 in
theorem gX6_sheet_X1_isLane : GoodIn wsX6_sheet (wsV RX6 262 RX1 yX1_isLane wsX1_isLane) := goodIn_app (goodIn_of _ (by decide +kernel)) ggX6_sheet_X1_isLane
set_option maxRecDepth 20000 in
theorem ggX6_sheet_X1_renew : GoodIn wsX6_sheet wsX1_renew := goodIn_r _ [14, 15, 16, 17, 29, 30, 31] (by decide +kernel) (by decide +kernel)
set_option maxRecDepth 20000 in
theorem gX6_sheet_X1_renew : GoodIn wsX6_sheet (wsV RX6 265 RX1 yX1_renew wsX1_renew) := goodIn_app (goodIn_of _ (by decide +kernel)) ggX6_sheet_X1_renew
theorem dX6_sheet_0 : decode cX6_sheet 0 = .ok (.aload_n 0, 1) := by decide +kernel
theorem dX6_sheet_1 : decode cX6_sheet 1 = .ok (.getfield 56, 3) := by decide +kernel
theorem dX6_sheet_4 : decode cX6_sheet 4 = .ok (.iload_n 1, 1) := by decide +kernel
theorem dX6_sheet_5 : decode cX6_sheet 5 = .ok (.invokevirtual 259, 3) := by decide +kernel
theorem dX6_sheet_8 : decode cX6_sheet 8 = .ok (.ifCond .eq 20, 3) := by decide +kernel
theorem dX6_sheet_11 : decode cX6_sheet 11 = .ok (.aload_n 0, 1) := by decide +kernel
theorem dX6_sheet_12 : decode cX6_sheet 12 = .ok (.getfield 56, 3) := by decide +kernel
theorem dX6_sheet_15 : decode cX6_sheet 15 = .ok (.iload_n 2, 1) := by decide +kernel
theorem dX6_sheet_16 : decode cX6_sheet 16 = .ok (.invokevirtual 262, 3) := by decide +kernel
theorem dX6_sheet_19 : decode cX6_sheet 19 = .ok (.ifCond .eq 9, 3) := by decide +kernel
theorem dX6_sheet_22 : decode cX6_sheet 22 = .ok (.iload_n 3, 1) := by decide +kernel
theorem dX6_sheet_23 : decode cX6_sheet 23 = .ok (.bipush 40, 2) := by decide +kernel
theorem dX6_sheet_25 : decode cX6_sheet 25 = .ok (.if_icmp .le 5, 3) := by decide +kernel
theorem dX6_sheet_28 : decode cX6_sheet 28 = .ok (.iconst (-1), 1) := by decide +kernel
theorem dX6_sheet_29 : decode cX6_sheet 29 = .ok (.ireturn, 1) := by decide +kernel
theorem dX6_sheet_30 : decode cX6_sheet 30 = .ok (.iload_n 3, 1) := by decide +kernel
theorem dX6_sheet_31 : decode cX6_sheet 31 = .ok (.ifCond .ge 6, 3) := by decide +kernel
theorem dX6_sheet_34 : decode cX6_sheet 34 = .ok (.bipush (-14), 2) := by decide +kernel
theorem dX6_sheet_36 : decode cX6_sheet 36 = .ok (.ireturn, 1) := by decide +kernel
theorem dX6_sheet_37 : decode cX6_sheet 37 = .ok (.aload_n 0, 1) := by decide +kernel
theorem dX6_sheet_38 : decode cX6_sheet 38 = .ok (.getfield 56, 3) := by decide +kernel
theorem dX6_sheet_41 : decode cX6_sheet 41 = .ok (.iload_n 1, 1) := by decide +kernel
theorem dX6_sheet_42 : decode cX6_sheet 42 = .ok (.iload_n 2, 1) := by decide +kernel
theorem dX6_sheet_43 : decode cX6_sheet 43 = .ok (.iload_n 3, 1) := by decide +kernel
theorem dX6_sheet_44 : decode cX6_sheet 44 = .ok (.invokevirtual 265, 3) := by decide +kernel
theorem dX6_sheet_47 : decode cX6_sheet 47 = .ok (.iconst 1, 1) := by decide +kernel
theorem dX6_sheet_48 : decode cX6_sheet 48 = .ok (.ireturn, 1) := by decide +kernel
set_option maxRecDepth 20000 in
theorem ggX6_lay_X1_isSheet : GoodIn wsX6_lay wsX1_isSheet := goodIn_r _ [7] (by decide +kernel) (by decide +kernel)
set_option maxRecDepth 20000 in
theorem gX6_lay_X1_isSheet : GoodIn wsX6_lay (wsV RX6 259 RX1 yX1_isSheet wsX1_isSheet) := goodIn_app (goodIn_of _ (by decide +kernel)) ggX6_lay_X1_isSheet
set_option maxRecDepth 20000 in
theorem ggX6_lay_X1_faultAt : GoodIn wsX6_lay wsX1_faultAt := goodIn_r _ [11, 12, 13, 30, 31, 32] (by decide +kernel) (by decide +kernel)
set_option maxRecDepth 20000 in
theorem gX6_lay_X1_faultAt : GoodIn wsX6_lay (wsV RX6 271 RX1 yX1_faultAt wsX1_faultAt) := goodIn_app (goodIn_of _ (by decide +kernel)) ggX6_lay_X1_faultAt
set_option maxRecDepth 20000 in
theorem ggX6_lay_X1_put : GoodIn wsX6_lay wsX1_put := goodIn_r _ [17, 13, 18, 30, 31, 32] (by decide +kernel) (by decide +kernel)
set_option maxRecDepth 20000 in
theorem gX6_lay_X1_put : GoodIn wsX6_lay (wsV RX6 274 RX1 yX1_put wsX1_put) := goodIn_app (goodIn_of _ (by decide +kernel)) ggX6_lay_X1_put
theorem dX6_lay_0 : decode cX6_lay 0 = .ok (.aload_n 0, 1) := by decide +kernel
theorem dX6_lay_1 : decode cX6_lay 1 = .ok (.getfield 56, 3) := by decide +kernel
theorem dX6_lay_4 : decode cX6_lay 4 = .ok (.iload_n 1, 1) := by decide +kernel
theorem dX6_lay_5 : decode cX6_lay 5 = .ok (.invokevirtual 259, 3) := by decide +kernel
theorem dX6_lay_8 : decode cX6_lay 8 = .ok (.ifCond .ne 5, 3) := by decide +kernel
theorem dX6_lay_11 : decode cX6_lay 11 = .ok (.iconst (-1), 1) := by decide +kernel
theorem dX6_lay_12 : decode cX6_lay 12 = .ok (.ireturn, 1) := by decide +kernel
theorem dX6_lay_13 : decode cX6_lay 13 = .ok (.aload_n 0, 1) := by decide +kernel
theorem dX6_lay_14 : decode cX6_lay 14 = .ok (.getfield 56, 3) := by decide +kernel
theorem dX6_lay_17 : decode cX6_lay 17 = .ok (.iload_n 1, 1) := by decide +kernel
theorem dX6_lay_18 : decode cX6_lay 18 = .ok (.aload_n 0, 1) := by decide +kernel
theorem dX6_lay_19 : decode cX6_lay 19 = .ok (.getfield 56, 3) := by decide +kernel
theorem dX6_lay_22 : decode cX6_lay 22 = .ok (.getfield 268, 3) := by decide +kernel
theorem dX6_lay_25 : decode cX6_lay 25 = .ok (.iload_n 1, 1) := by decide +kernel
theorem dX6_lay_26 : decode cX6_lay 26 = .ok (.iaload, 1) := by decide +kernel
theorem dX6_lay_27 : decode cX6_lay 27 = .ok (.iload_n 2, 1) := by decide +kernel
theorem dX6_lay_28 : decode cX6_lay 28 = .ok (.invokevirtual 271, 3) := by decide +kernel
theorem dX6_lay_31 : decode cX6_lay 31 = .ok (.istore 4, 2) := by decide +kernel
theorem dX6_lay_33 : decode cX6_lay 33 = .ok (.iload 4, 2) := by decide +kernel
theorem dX6_lay_35 : decode cX6_lay 35 = .ok (.ifCond .eq 9, 3) := by decide +kernel
theorem dX6_lay_38 : decode cX6_lay 38 = .ok (.bipush (-10), 2) := by decide +kernel
theorem dX6_lay_40 : decode cX6_lay 40 = .ok (.iload 4, 2) := by decide +kernel
theorem dX6_lay_42 : decode cX6_lay 42 = .ok (.isub, 1) := by decide +kernel
theorem dX6_lay_43 : decode cX6_lay 43 = .ok (.ireturn, 1) := by decide +kernel
theorem dX6_lay_44 : decode cX6_lay 44 = .ok (.aload_n 0, 1) := by decide +kernel
theorem dX6_lay_45 : decode cX6_lay 45 = .ok (.getfield 56, 3) := by decide +kernel
theorem dX6_lay_48 : decode cX6_lay 48 = .ok (.iload_n 1, 1) := by decide +kernel
theorem dX6_lay_49 : decode cX6_lay 49 = .ok (.iload_n 2, 1) := by decide +kernel
theorem dX6_lay_50 : decode cX6_lay 50 = .ok (.iload_n 3, 1) := by decide +kernel
theorem dX6_lay_51 : decode cX6_lay 51 = .ok (.invokevirtual 274, 3) := by decide +kernel
theorem dX6_lay_54 : decode cX6_lay 54 = .ok (.iconst 1, 1) := by decide +kernel
theorem dX6_lay_55 : decode cX6_lay 55 = .ok (.ireturn, 1) := by decide +kernel
set_option maxRecDepth 20000 in
theorem ggX6_read_X1_isSheet : GoodIn wsX6_read wsX1_isSheet := goodIn_r _ [10] (by decide +kernel) (by decide +kernel)
set_option maxRecDepth 20000 in
theorem gX6_read_X1_isSheet : GoodIn wsX6_read (wsV RX6 259 RX1 yX1_isSheet wsX1_isSheet) := goodIn_app (goodIn_of _ (by decide +kernel)) ggX6_read_X1_isSheet
set_option maxRecDepth 20000 in
theorem ggX6_read_X1_isLane : GoodIn wsX6_read wsX1_isLane := goodIn_r _ [14] (by decide +kernel) (by decide +kernel)
set_option maxRecDepth 20000 in
theorem gX6_read_X1_isLane : GoodIn wsX6_read (wsV RX6 262 RX1 yX1_isLane wsX1_isLane) := goodIn_app (goodIn_of _ (by decide +kernel)) ggX6_read_X1_isLane
set_option maxRecDepth 20000 in
theorem ggX6_read_X1_faultOfThree : GoodIn wsX6_read wsX1_faultOfThree := goodIn_r _ [18, 19, 20, 21, 9, 22, 23, 24, 83, 84, 85] (by decide +kernel) (by decide +kernel)
set_option maxRecDepth 20000 in
theorem gX6_read_X1_faultOfThree : GoodIn wsX6_read (wsV RX6 277 RX1 yX1_faultOfThree wsX1_faultOfThree) := goodIn_app (goodIn_of _ (by decide +kernel)) ggX6_read_X1_faultOfThree
set_option maxRecDepth 20000 in
theorem ggX6_read_X5_addMove : GoodIn wsX6_read wsX5_addMove := goodIn_r _ [29, 30, 31, 32, 33, 34, 35, 36, 37, 28, 38, 39, 40, 41, 42, 43, 44, 45, 46, 47, 48, 49, 50, 51, 52, 53, 54, 55, 67, 68, 69, 70, 71, 72, 73, 74, 75, 76, 77, 78, 79, 80, 81, 82] (by decide +kernel) (by decide +kernel)
set_option maxRecDepth 20000 in
theorem gX6_read_X5_addMove : GoodIn wsX6_read (wsV RX6 162 RX5 yX5_addMove wsX5_addMove) := goodIn_app (goodIn_of _ (by decide +kernel)) ggX6_read_X5_addMove
theorem dX6_read_0 : decode cX6_read 0 = .ok (.aload_n 0, 1) := by decide +kernel
theorem dX6_read_1 : decode cX6_read 1 = .ok (.getfield 56, 3) := by decide +kernel
theorem dX6_read_4 : decode cX6_read 4 = .ok (.iload_n 1, 1) := by decide +kernel
theorem dX6_read_5 : decode cX6_read 5 = .ok (.invokevirtual 259, 3) := by decide +kernel
theorem dX6_read_8 : decode cX6_read 8 = .ok (.ifCond .eq 26, 3) := by decide +kernel
theorem dX6_read_11 : decode cX6_read 11 = .ok (.aload_n 0, 1) := by decide +kernel
theorem dX6_read_12 : decode cX6_read 12 = .ok (.getfield 56, 3) := by decide +kernel
theorem dX6_read_15 : decode cX6_read 15 = .ok (.iload_n 2, 1) := by decide +kernel
theorem dX6_read_16 : decode cX6_read 16 = .ok (.invokevirtual 262, 3) := by decide +kernel
theorem dX6_read_19 : decode cX6_read 19 = .ok (.ifCond .eq 15, 3) := by decide +kernel
theorem dX6_read_22 : decode cX6_read 22 = .ok (.iload 4, 2) := by decide +kernel
theorem dX6_read_24 : decode cX6_read 24 = .ok (.ifCond .lt 10, 3) := by decide +kernel
theorem dX6_read_27 : decode cX6_read 27 = .ok (.iload 4, 2) := by decide +kernel
theorem dX6_read_29 : decode cX6_read 29 = .ok (.bipush 13, 2) := by decide +kernel
theorem dX6_read_31 : decode cX6_read 31 = .ok (.if_icmp .le 5, 3) := by decide +kernel
theorem dX6_read_34 : decode cX6_read 34 = .ok (.iconst (-1), 1) := by decide +kernel
theorem dX6_read_35 : decode cX6_read 35 = .ok (.ireturn, 1) := by decide +kernel
theorem dX6_read_36 : decode cX6_read 36 = .ok (.aload_n 0, 1) := by decide +kernel
theorem dX6_read_37 : decode cX6_read 37 = .ok (.getfield 12, 3) := by decide +kernel
theorem dX6_read_40 : decode cX6_read 40 = .ok (.getfield 103, 3) := by decide +kernel
theorem dX6_read_43 : decode cX6_read 43 = .ok (.istore 5, 2) := by decide +kernel
theorem dX6_read_45 : decode cX6_read 45 = .ok (.iconst 0, 1) := by decide +kernel
theorem dX6_read_46 : decode cX6_read 46 = .ok (.istore 6, 2) := by decide +kernel
theorem dX6_read_48 : decode cX6_read 48 = .ok (.iconst 0, 1) := by decide +kernel
theorem dX6_read_49 : decode cX6_read 49 = .ok (.istore 7, 2) := by decide +kernel
theorem dX6_read_51 : decode cX6_read 51 = .ok (.iload 7, 2) := by decide +kernel
theorem dX6_read_53 : decode cX6_read 53 = .ok (.iload 4, 2) := by decide +kernel
theorem dX6_read_55 : decode cX6_read 55 = .ok (.if_icmp .ge 95, 3) := by decide +kernel
theorem dX6_read_58 : decode cX6_read 58 = .ok (.iload 6, 2) := by decide +kernel
theorem dX6_read_60 : decode cX6_read 60 = .ok (.ifCond .ne 90, 3) := by decide +kernel
theorem dX6_read_63 : decode cX6_read 63 = .ok (.iload_n 3, 1) := by decide +kernel
theorem dX6_read_64 : decode cX6_read 64 = .ok (.iconst 3, 1) := by decide +kernel
theorem dX6_read_65 : decode cX6_read 65 = .ok (.iload 7, 2) := by decide +kernel
theorem dX6_read_67 : decode cX6_read 67 = .ok (.imul, 1) := by decide +kernel
theorem dX6_read_68 : decode cX6_read 68 = .ok (.iadd, 1) := by decide +kernel
theorem dX6_read_69 : decode cX6_read 69 = .ok (.istore 8, 2) := by decide +kernel
theorem dX6_read_71 : decode cX6_read 71 = .ok (.aload_n 0, 1) := by decide +kernel
theorem dX6_read_72 : decode cX6_read 72 = .ok (.getfield 56, 3) := by decide +kernel
theorem dX6_read_75 : decode cX6_read 75 = .ok (.iload_n 1, 1) := by decide +kernel
theorem dX6_read_76 : decode cX6_read 76 = .ok (.iload_n 2, 1) := by decide +kernel
theorem dX6_read_77 : decode cX6_read 77 = .ok (.iload 8, 2) := by decide +kernel
theorem dX6_read_79 : decode cX6_read 79 = .ok (.invokevirtual 277, 3) := by decide +kernel
theorem dX6_read_82 : decode cX6_read 82 = .ok (.istore 6, 2) := by decide +kernel
theorem dX6_read_84 : decode cX6_read 84 = .ok (.iload 6, 2) := by decide +kernel
theorem dX6_read_86 : decode cX6_read 86 = .ok (.ifCond .ne 61, 3) := by decide +kernel
theorem dX6_read_89 : decode cX6_read 89 = .ok (.aload_n 0, 1) := by decide +kernel
theorem dX6_read_90 : decode cX6_read 90 = .ok (.getfield 56, 3) := by decide +kernel
theorem dX6_read_93 : decode cX6_read 93 = .ok (.getfield 280, 3) := by decide +kernel
theorem dX6_read_96 : decode cX6_read 96 = .ok (.iload_n 1, 1) := by decide +kernel
theorem dX6_read_97 : decode cX6_read 97 = .ok (.aaload, 1) := by decide +kernel
theorem dX6_read_98 : decode cX6_read 98 = .ok (.astore 9, 2) := by decide +kernel
theorem dX6_read_100 : decode cX6_read 100 = .ok (.aload_n 0, 1) := by decide +kernel
theorem dX6_read_101 : decode cX6_read 101 = .ok (.getfield 12, 3) := by decide +kernel
theorem dX6_read_104 : decode cX6_read 104 = .ok (.aload 9, 2) := by decide +kernel
theorem dX6_read_106 : decode cX6_read 106 = .ok (.iload 8, 2) := by decide +kernel
theorem dX6_read_108 : decode cX6_read 108 = .ok (.iaload, 1) := by decide +kernel
theorem dX6_read_109 : decode cX6_read 109 = .ok (.aload 9, 2) := by decide +kernel
theorem dX6_read_111 : decode cX6_read 111 = .ok (.iload 8, 2) := by decide +kernel
theorem dX6_read_113 : decode cX6_read 113 = .ok (.iconst 1, 1) := by decide +kernel
theorem dX6_read_114 : decode cX6_read 114 = .ok (.iadd, 1) := by decide +kernel
theorem dX6_read_115 : decode cX6_read 115 = .ok (.iaload, 1) := by decide +kernel
theorem dX6_read_116 : decode cX6_read 116 = .ok (.aload 9, 2) := by decide +kernel
theorem dX6_read_118 : decode cX6_read 118 = .ok (.iload 8, 2) := by decide +kernel
theorem dX6_read_120 : decode cX6_read 120 = .ok (.iconst 2, 1) := by decide +kernel
theorem dX6_read_121 : decode cX6_read 121 = .ok (.iadd, 1) := by decide +kernel
theorem dX6_read_122 : decode cX6_read 122 = .ok (.iaload, 1) := by decide +kernel
theorem dX6_read_123 : decode cX6_read 123 = .ok (.invokevirtual 162, 3) := by decide +kernel
theorem dX6_read_126 : decode cX6_read 126 = .ok (.ifCond .ge 18, 3) := by decide +kernel
theorem dX6_read_129 : decode cX6_read 129 = .ok (.aload_n 0, 1) := by decide +kernel
theorem dX6_read_130 : decode cX6_read 130 = .ok (.getfield 12, 3) := by decide +kernel
theorem dX6_read_133 : decode cX6_read 133 = .ok (.iload 5, 2) := by decide +kernel
theorem dX6_read_135 : decode cX6_read 135 = .ok (.putfield 103, 3) := by decide +kernel
theorem dX6_read_138 : decode cX6_read 138 = .ok (.bipush (-20), 2) := by decide +kernel
theorem dX6_read_140 : decode cX6_read 140 = .ok (.iload 7, 2) := by decide +kernel
theorem dX6_read_142 : decode cX6_read 142 = .ok (.isub, 1) := by decide +kernel
theorem dX6_read_143 : decode cX6_read 143 = .ok (.ireturn, 1) := by decide +kernel
theorem dX6_read_144 : decode cX6_read 144 = .ok (.iinc 7 1, 3) := by decide +kernel
theorem dX6_read_147 : decode cX6_read 147 = .ok (.goto (-96), 3) := by decide +kernel
theorem dX6_read_150 : decode cX6_read 150 = .ok (.aload_n 0, 1) := by decide +kernel
theorem dX6_read_151 : decode cX6_read 151 = .ok (.iload 6, 2) := by decide +kernel
theorem dX6_read_153 : decode cX6_read 153 = .ok (.putfield 64, 3) := by decide +kernel
theorem dX6_read_156 : decode cX6_read 156 = .ok (.iload 7, 2) := by decide +kernel
theorem dX6_read_158 : decode cX6_read 158 = .ok (.ireturn, 1) := by decide +kernel
theorem dX6_torn_0 : decode cX6_torn 0 = .ok (.aload_n 0, 1) := by decide +kernel
theorem dX6_torn_1 : decode cX6_torn 1 = .ok (.getfield 64, 3) := by decide +kernel
theorem dX6_torn_4 : decode cX6_torn 4 = .ok (.ireturn, 1) := by decide +kernel
theorem dX6_count_0 : decode cX6_count 0 = .ok (.iload_n 1, 1) := by decide +kernel
theorem dX6_count_1 : decode cX6_count 1 = .ok (.tableswitch 116 0 4 #[35, 43, 51, 81, 89], 35) := by decide +kernel
theorem dX6_count_36 : decode cX6_count 36 = .ok (.aload_n 0, 1) := by decide +kernel
theorem dX6_count_37 : decode cX6_count 37 = .ok (.getfield 43, 3) := by decide +kernel
theorem dX6_count_40 : decode cX6_count 40 = .ok (.getfield 88, 3) := by decide +kernel
theorem dX6_count_43 : decode cX6_count 43 = .ok (.ireturn, 1) := by decide +kernel
theorem dX6_count_44 : decode cX6_count 44 = .ok (.aload_n 0, 1) := by decide +kernel
theorem dX6_count_45 : decode cX6_count 45 = .ok (.getfield 39, 3) := by decide +kernel
theorem dX6_count_48 : decode cX6_count 48 = .ok (.getfield 88, 3) := by decide +kernel
theorem dX6_count_51 : decode cX6_count 51 = .ok (.ireturn, 1) := by decide +kernel
theorem dX6_count_52 : decode cX6_count 52 = .ok (.aload_n 0, 1) := by decide +kernel
theorem dX6_count_53 : decode cX6_count 53 = .ok (.getfield 23, 3) := by decide +kernel
theorem dX6_count_56 : decode cX6_count 56 = .ok (.iconst 0, 1) := by decide +kernel
theorem dX6_count_57 : decode cX6_count 57 = .ok (.baload, 1) := by decide +kernel
theorem dX6_count_58 : decode cX6_count 58 = .ok (.ifCond .eq 7, 3) := by decide +kernel
theorem dX6_count_61 : decode cX6_count 61 = .ok (.iconst 1, 1) := by decide +kernel
theorem dX6_count_62 : decode cX6_count 62 = .ok (.goto 4, 3) := by decide +kernel
theorem dX6_count_65 : decode cX6_count 65 = .ok (.iconst 0, 1) := by decide +kernel
theorem dX6_count_66 : decode cX6_count 66 = .ok (.aload_n 0, 1) := by decide +kernel
theorem dX6_count_67 : decode cX6_count 67 = .ok (.getfield 23, 3) := by decide +kernel
theorem dX6_count_70 : decode cX6_count 70 = .ok (.iconst 1, 1) := by decide +kernel
theorem dX6_count_71 : decode cX6_count 71 = .ok (.baload, 1) := by decide +kernel
theorem dX6_count_72 : decode cX6_count 72 = .ok (.ifCond .eq 7, 3) := by decide +kernel
theorem dX6_count_75 : decode cX6_count 75 = .ok (.iconst 1, 1) := by decide +kernel
theorem dX6_count_76 : decode cX6_count 76 = .ok (.goto 4, 3) := by decide +kernel
theorem dX6_count_79 : decode cX6_count 79 = .ok (.iconst 0, 1) := by decide +kernel
theorem dX6_count_80 : decode cX6_count 80 = .ok (.iadd, 1) := by decide +kernel
theorem dX6_count_81 : decode cX6_count 81 = .ok (.ireturn, 1) := by decide +kernel
theorem dX6_count_82 : decode cX6_count 82 = .ok (.aload_n 0, 1) := by decide +kernel
theorem dX6_count_83 : decode cX6_count 83 = .ok (.getfield 30, 3) := by decide +kernel
theorem dX6_count_86 : decode cX6_count 86 = .ok (.getfield 71, 3) := by decide +kernel
theorem dX6_count_89 : decode cX6_count 89 = .ok (.ireturn, 1) := by decide +kernel
theorem dX6_count_90 : decode cX6_count 90 = .ok (.aload_n 0, 1) := by decide +kernel
theorem dX6_count_91 : decode cX6_count 91 = .ok (.getfield 56, 3) := by decide +kernel
theorem dX6_count_94 : decode cX6_count 94 = .ok (.getfield 284, 3) := by decide +kernel
theorem dX6_count_97 : decode cX6_count 97 = .ok (.iconst 0, 1) := by decide +kernel
theorem dX6_count_98 : decode cX6_count 98 = .ok (.iaload, 1) := by decide +kernel
theorem dX6_count_99 : decode cX6_count 99 = .ok (.ifCond .ge 8, 3) := by decide +kernel
theorem dX6_count_102 : decode cX6_count 102 = .ok (.bipush (-4), 2) := by decide +kernel
theorem dX6_count_104 : decode cX6_count 104 = .ok (.goto 12, 3) := by decide +kernel
theorem dX6_count_107 : decode cX6_count 107 = .ok (.aload_n 0, 1) := by decide +kernel
theorem dX6_count_108 : decode cX6_count 108 = .ok (.getfield 56, 3) := by decide +kernel
theorem dX6_count_111 : decode cX6_count 111 = .ok (.getfield 284, 3) := by decide +kernel
theorem dX6_count_114 : decode cX6_count 114 = .ok (.iconst 0, 1) := by decide +kernel
theorem dX6_count_115 : decode cX6_count 115 = .ok (.iaload, 1) := by decide +kernel
theorem dX6_count_116 : decode cX6_count 116 = .ok (.ireturn, 1) := by decide +kernel
theorem dX6_count_117 : decode cX6_count 117 = .ok (.iconst (-1), 1) := by decide +kernel
theorem dX6_count_118 : decode cX6_count 118 = .ok (.ireturn, 1) := by decide +kernel
theorem dX6_isDay_0 : decode cX6_isDay 0 = .ok (.iload_n 0, 1) := by decide +kernel
theorem dX6_isDay_1 : decode cX6_isDay 1 = .ok (.ifCond .lt 13, 3) := by decide +kernel
theorem dX6_isDay_4 : decode cX6_isDay 4 = .ok (.iload_n 0, 1) := by decide +kernel
theorem dX6_isDay_5 : decode cX6_isDay 5 = .ok (.ldc 154, 2) := by decide +kernel
theorem dX6_isDay_7 : decode cX6_isDay 7 = .ok (.if_icmp .ge 7, 3) := by decide +kernel
theorem dX6_isDay_10 : decode cX6_isDay 10 = .ok (.iconst 1, 1) := by decide +kernel
theorem dX6_isDay_11 : decode cX6_isDay 11 = .ok (.goto 4, 3) := by decide +kernel
theorem dX6_isDay_14 : decode cX6_isDay 14 = .ok (.iconst 0, 1) := by decide +kernel
theorem dX6_isDay_15 : decode cX6_isDay 15 = .ok (.ireturn, 1) := by decide +kernel
theorem dX6_isLaw_0 : decode cX6_isLaw 0 = .ok (.iload_n 0, 1) := by decide +kernel
theorem dX6_isLaw_1 : decode cX6_isLaw 1 = .ok (.ifCond .lt 12, 3) := by decide +kernel
theorem dX6_isLaw_4 : decode cX6_isLaw 4 = .ok (.iload_n 0, 1) := by decide +kernel
theorem dX6_isLaw_5 : decode cX6_isLaw 5 = .ok (.iconst 4, 1) := by decide +kernel
theorem dX6_isLaw_6 : decode cX6_isLaw 6 = .ok (.if_icmp .ge 7, 3) := by decide +kernel
theorem dX6_isLaw_9 : decode cX6_isLaw 9 = .ok (.iconst 1, 1) := by decide +kernel
theorem dX6_isLaw_10 : decode cX6_isLaw 10 = .ok (.goto 4, 3) := by decide +kernel
theorem dX6_isLaw_13 : decode cX6_isLaw 13 = .ok (.iconst 0, 1) := by decide +kernel
theorem dX6_isLaw_14 : decode cX6_isLaw 14 = .ok (.ireturn, 1) := by decide +kernel
theorem dX6_isNumber_0 : decode cX6_isNumber 0 = .ok (.iload_n 0, 1) := by decide +kernel
theorem dX6_isNumber_1 : decode cX6_isNumber 1 = .ok (.ifCond .lt 14, 3) := by decide +kernel
theorem dX6_isNumber_4 : decode cX6_isNumber 4 = .ok (.iload_n 0, 1) := by decide +kernel
theorem dX6_isNumber_5 : decode cX6_isNumber 5 = .ok (.sipush 999, 3) := by decide +kernel
theorem dX6_isNumber_8 : decode cX6_isNumber 8 = .ok (.if_icmp .gt 7, 3) := by decide +kernel
theorem dX6_isNumber_11 : decode cX6_isNumber 11 = .ok (.iconst 1, 1) := by decide +kernel
theorem dX6_isNumber_12 : decode cX6_isNumber 12 = .ok (.goto 4, 3) := by decide +kernel
theorem dX6_isNumber_15 : decode cX6_isNumber 15 = .ok (.iconst 0, 1) := by decide +kernel
theorem dX6_isNumber_16 : decode cX6_isNumber 16 = .ok (.ireturn, 1) := by decide +kernel
theorem dX6_isImage_0 : decode cX6_isImage 0 = .ok (.iload_n 0, 1) := by decide +kernel
theorem dX6_isImage_1 : decode cX6_isImage 1 = .ok (.ifCond .lt 12, 3) := by decide +kernel
theorem dX6_isImage_4 : decode cX6_isImage 4 = .ok (.iload_n 0, 1) := by decide +kernel
theorem dX6_isImage_5 : decode cX6_isImage 5 = .ok (.iconst 2, 1) := by decide +kernel
theorem dX6_isImage_6 : decode cX6_isImage 6 = .ok (.if_icmp .ge 7, 3) := by decide +kernel
theorem dX6_isImage_9 : decode cX6_isImage 9 = .ok (.iconst 1, 1) := by decide +kernel
theorem dX6_isImage_10 : decode cX6_isImage 10 = .ok (.goto 4, 3) := by decide +kernel
theorem dX6_isImage_13 : decode cX6_isImage 13 = .ok (.iconst 0, 1) := by decide +kernel
theorem dX6_isImage_14 : decode cX6_isImage 14 = .ok (.ireturn, 1) := by decide +kernel
theorem dX6_lastDayOf_0 : decode cX6_lastDayOf 0 = .ok (.iload_n 0, 1) := by decide +kernel
theorem dX6_lastDayOf_1 : decode cX6_lastDayOf 1 = .ok (.sipush 360, 3) := by decide +kernel
theorem dX6_lastDayOf_4 : decode cX6_lastDayOf 4 = .ok (.imul, 1) := by decide +kernel
theorem dX6_lastDayOf_5 : decode cX6_lastDayOf 5 = .ok (.sipush 360, 3) := by decide +kernel
theorem dX6_lastDayOf_8 : decode cX6_lastDayOf 8 = .ok (.iadd, 1) := by decide +kernel
theorem dX6_lastDayOf_9 : decode cX6_lastDayOf 9 = .ok (.iconst 1, 1) := by decide +kernel
theorem dX6_lastDayOf_10 : decode cX6_lastDayOf 10 = .ok (.isub, 1) := by decide +kernel
theorem dX6_lastDayOf_11 : decode cX6_lastDayOf 11 = .ok (.ireturn, 1) := by decide +kernel
