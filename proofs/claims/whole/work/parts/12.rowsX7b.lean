theorem dX7_readLine_25 : decode cX7_readLine 25 = .ok (.if_icmp .ne 10, 3) := by decide +kernel
theorem dX7_readLine_28 : decode cX7_readLine 28 = .ok (.aload_n 0, 1) := by decide +kernel
theorem dX7_readLine_29 : decode cX7_readLine 29 = .ok (.invokevirtual 143, 3) := by decide +kernel
theorem dX7_readLine_32 : decode cX7_readLine 32 = .ok (.goto 32, 3) := by decide +kernel
theorem dX7_readLine_35 : decode cX7_readLine 35 = .ok (.iload_n 1, 1) := by decide +kernel
theorem dX7_readLine_36 : decode cX7_readLine 36 = .ok (.iconst 3, 1) := by decide +kernel
theorem dX7_readLine_37 : decode cX7_readLine 37 = .ok (.if_icmp .ne 10, 3) := by decide +kernel
theorem dX7_readLine_40 : decode cX7_readLine 40 = .ok (.aload_n 0, 1) := by decide +kernel
theorem dX7_readLine_41 : decode cX7_readLine 41 = .ok (.invokevirtual 146, 3) := by decide +kernel
theorem dX7_readLine_44 : decode cX7_readLine 44 = .ok (.goto 20, 3) := by decide +kernel
theorem dX7_readLine_47 : decode cX7_readLine 47 = .ok (.iload_n 1, 1) := by decide +kernel
theorem dX7_readLine_48 : decode cX7_readLine 48 = .ok (.iconst 4, 1) := by decide +kernel
theorem dX7_readLine_49 : decode cX7_readLine 49 = .ok (.if_icmp .ne 10, 3) := by decide +kernel
theorem dX7_readLine_52 : decode cX7_readLine 52 = .ok (.aload_n 0, 1) := by decide +kernel
theorem dX7_readLine_53 : decode cX7_readLine 53 = .ok (.invokevirtual 149, 3) := by decide +kernel
theorem dX7_readLine_56 : decode cX7_readLine 56 = .ok (.goto 8, 3) := by decide +kernel
theorem dX7_readLine_59 : decode cX7_readLine 59 = .ok (.aload_n 0, 1) := by decide +kernel
theorem dX7_readLine_60 : decode cX7_readLine 60 = .ok (.iload_n 1, 1) := by decide +kernel
theorem dX7_readLine_61 : decode cX7_readLine 61 = .ok (.invokevirtual 152, 3) := by decide +kernel
theorem dX7_readLine_64 : decode cX7_readLine 64 = .ok (.aload_n 0, 1) := by decide +kernel
theorem dX7_readLine_65 : decode cX7_readLine 65 = .ok (.getfield 70, 3) := by decide +kernel
theorem dX7_readLine_68 : decode cX7_readLine 68 = .ok (.ifCond .ne 16, 3) := by decide +kernel
theorem dX7_readLine_71 : decode cX7_readLine 71 = .ok (.aload_n 0, 1) := by decide +kernel
theorem dX7_readLine_72 : decode cX7_readLine 72 = .ok (.getfield 79, 3) := by decide +kernel
theorem dX7_readLine_75 : decode cX7_readLine 75 = .ok (.iconst 3, 1) := by decide +kernel
theorem dX7_readLine_76 : decode cX7_readLine 76 = .ok (.if_icmp .eq 8, 3) := by decide +kernel
theorem dX7_readLine_79 : decode cX7_readLine 79 = .ok (.aload_n 0, 1) := by decide +kernel
theorem dX7_readLine_80 : decode cX7_readLine 80 = .ok (.iconst 2, 1) := by decide +kernel
theorem dX7_readLine_81 : decode cX7_readLine 81 = .ok (.invokevirtual 100, 3) := by decide +kernel
theorem dX7_readLine_84 : decode cX7_readLine 84 = .ok (.aload_n 0, 1) := by decide +kernel
theorem dX7_readLine_85 : decode cX7_readLine 85 = .ok (.invokevirtual 104, 3) := by decide +kernel
theorem dX7_readLine_88 : decode cX7_readLine 88 = .ok (.return_, 1) := by decide +kernel
set_option maxRecDepth 20000 in
theorem ggX7_street_X7_step : GoodIn wsX7_street wsX7_step := goodIn_r _ [22, 1, 2, 23, 24, 9, 25, 26, 27, 28, 29, 30, 31, 21, 32, 10, 33, 34, 35, 36, 37, 38, 39, 40, 12, 82, 83, 84, 85, 86, 87, 88, 89, 90, 91, 92, 93, 94, 95, 96, 97, 98, 99, 100, 101, 102, 103, 104, 105, 106, 107, 108, 109, 110, 111, 112, 113, 114, 115, 116, 117, 118, 119] (by decide +kernel) (by decide +kernel)
set_option maxRecDepth 20000 in
theorem gX7_street_X7_step : GoodIn wsX7_street (wsV RX7 104 RX7 yX7_step wsX7_step) := goodIn_app (goodIn_of _ (by decide +kernel)) ggX7_street_X7_step
set_option maxRecDepth 20000 in
theorem ggX7_street_X7_readLine : GoodIn wsX7_street wsX7_readLine := goodIn_r _ [44, 45, 1, 9, 46, 47, 48, 21, 49, 2, 23, 50, 51, 29, 30, 31, 32, 10, 33, 34, 35, 36, 37, 38, 39, 40, 12, 52, 53, 54, 55, 8, 18, 19, 20, 22, 24, 25, 26, 27, 28, 56, 57, 58, 59, 60, 61, 62, 63, 64, 65, 66, 67, 68, 6, 69, 70, 71, 72, 7, 73, 74, 75, 76, 77, 78, 79, 80, 4, 3, 5, 81, 82, 83, 84, 85, 86, 87, 88, 89, 90, 91, 92, 93, 94, 95, 96, 97, 98, 99, 100, 101, 102, 103, 104, 105, 106, 107, 108, 109, 110, 111, 112, 113, 114, 115, 116, 117, 118, 119] (by decide +kernel) (by decide +kernel)
set_option maxRecDepth 20000 in
theorem gX7_street_X7_readLine : GoodIn wsX7_street (wsV RX7 155 RX7 yX7_readLine wsX7_readLine) := goodIn_app (goodIn_of _ (by decide +kernel)) ggX7_street_X7_readLine
set_option maxRecDepth 20000 in
theorem ggX7_street_X7_fails : GoodIn wsX7_street wsX7_fails := goodIn_r _ [40, 1, 23, 12, 82, 83, 84, 85, 86, 87, 88, 89, 90, 91, 92, 93, 94, 95, 96, 97, 98, 99, 100, 101, 102, 103, 104, 105, 106, 107, 108, 109, 110, 111, 112, 113, 114, 115, 116, 117, 118, 119] (by decide +kernel) (by decide +kernel)
set_option maxRecDepth 20000 in
theorem gX7_street_X7_fails : GoodIn wsX7_street (wsV RX7 100 RX7 yX7_fails wsX7_fails) := goodIn_app (goodIn_of _ (by decide +kernel)) ggX7_street_X7_fails
theorem dX7_street_0 : decode cX7_street 0 = .ok (.aload_n 0, 1) := by decide +kernel
theorem dX7_street_1 : decode cX7_street 1 = .ok (.iconst 0, 1) := by decide +kernel
theorem dX7_street_2 : decode cX7_street 2 = .ok (.putfield 70, 3) := by decide +kernel
theorem dX7_street_5 : decode cX7_street 5 = .ok (.aload_n 0, 1) := by decide +kernel
theorem dX7_street_6 : decode cX7_street 6 = .ok (.iconst 0, 1) := by decide +kernel
theorem dX7_street_7 : decode cX7_street 7 = .ok (.putfield 82, 3) := by decide +kernel
theorem dX7_street_10 : decode cX7_street 10 = .ok (.aload_n 0, 1) := by decide +kernel
theorem dX7_street_11 : decode cX7_street 11 = .ok (.iconst 4, 1) := by decide +kernel
theorem dX7_street_12 : decode cX7_street 12 = .ok (.putfield 133, 3) := by decide +kernel
theorem dX7_street_15 : decode cX7_street 15 = .ok (.aload_n 0, 1) := by decide +kernel
theorem dX7_street_16 : decode cX7_street 16 = .ok (.iconst 0, 1) := by decide +kernel
theorem dX7_street_17 : decode cX7_street 17 = .ok (.putfield 129, 3) := by decide +kernel
theorem dX7_street_20 : decode cX7_street 20 = .ok (.aload_n 0, 1) := by decide +kernel
theorem dX7_street_21 : decode cX7_street 21 = .ok (.iconst 0, 1) := by decide +kernel
theorem dX7_street_22 : decode cX7_street 22 = .ok (.putfield 136, 3) := by decide +kernel
theorem dX7_street_25 : decode cX7_street 25 = .ok (.aload_n 0, 1) := by decide +kernel
theorem dX7_street_26 : decode cX7_street 26 = .ok (.iconst (-1), 1) := by decide +kernel
theorem dX7_street_27 : decode cX7_street 27 = .ok (.putfield 113, 3) := by decide +kernel
theorem dX7_street_30 : decode cX7_street 30 = .ok (.aload_n 0, 1) := by decide +kernel
theorem dX7_street_31 : decode cX7_street 31 = .ok (.iconst (-1), 1) := by decide +kernel
theorem dX7_street_32 : decode cX7_street 32 = .ok (.putfield 126, 3) := by decide +kernel
theorem dX7_street_35 : decode cX7_street 35 = .ok (.iconst 0, 1) := by decide +kernel
theorem dX7_street_36 : decode cX7_street 36 = .ok (.istore_n 1, 1) := by decide +kernel
theorem dX7_street_37 : decode cX7_street 37 = .ok (.iconst 0, 1) := by decide +kernel
theorem dX7_street_38 : decode cX7_street 38 = .ok (.istore_n 2, 1) := by decide +kernel
theorem dX7_street_39 : decode cX7_street 39 = .ok (.iload_n 2, 1) := by decide +kernel
theorem dX7_street_40 : decode cX7_street 40 = .ok (.bipush 92, 2) := by decide +kernel
theorem dX7_street_42 : decode cX7_street 42 = .ok (.if_icmp .ge 16, 3) := by decide +kernel
theorem dX7_street_45 : decode cX7_street 45 = .ok (.aload_n 0, 1) := by decide +kernel
theorem dX7_street_46 : decode cX7_street 46 = .ok (.getfield 17, 3) := by decide +kernel
theorem dX7_street_49 : decode cX7_street 49 = .ok (.iload_n 2, 1) := by decide +kernel
theorem dX7_street_50 : decode cX7_street 50 = .ok (.iconst 0, 1) := by decide +kernel
theorem dX7_street_51 : decode cX7_street 51 = .ok (.iastore, 1) := by decide +kernel
theorem dX7_street_52 : decode cX7_street 52 = .ok (.iinc 2 1, 3) := by decide +kernel
theorem dX7_street_55 : decode cX7_street 55 = .ok (.goto (-16), 3) := by decide +kernel
theorem dX7_street_58 : decode cX7_street 58 = .ok (.aload_n 0, 1) := by decide +kernel
theorem dX7_street_59 : decode cX7_street 59 = .ok (.invokevirtual 104, 3) := by decide +kernel
theorem dX7_street_62 : decode cX7_street 62 = .ok (.aload_n 0, 1) := by decide +kernel
theorem dX7_street_63 : decode cX7_street 63 = .ok (.getfield 70, 3) := by decide +kernel
theorem dX7_street_66 : decode cX7_street 66 = .ok (.ifCond .ne 20, 3) := by decide +kernel
theorem dX7_street_69 : decode cX7_street 69 = .ok (.aload_n 0, 1) := by decide +kernel
theorem dX7_street_70 : decode cX7_street 70 = .ok (.getfield 79, 3) := by decide +kernel
theorem dX7_street_73 : decode cX7_street 73 = .ok (.ifCond .eq 13, 3) := by decide +kernel
theorem dX7_street_76 : decode cX7_street 76 = .ok (.aload_n 0, 1) := by decide +kernel
theorem dX7_street_77 : decode cX7_street 77 = .ok (.invokevirtual 155, 3) := by decide +kernel
theorem dX7_street_80 : decode cX7_street 80 = .ok (.iinc 1 1, 3) := by decide +kernel
theorem dX7_street_83 : decode cX7_street 83 = .ok (.goto (-21), 3) := by decide +kernel
theorem dX7_street_86 : decode cX7_street 86 = .ok (.aload_n 0, 1) := by decide +kernel
theorem dX7_street_87 : decode cX7_street 87 = .ok (.getfield 70, 3) := by decide +kernel
theorem dX7_street_90 : decode cX7_street 90 = .ok (.ifCond .ne 34, 3) := by decide +kernel
theorem dX7_street_93 : decode cX7_street 93 = .ok (.aload_n 0, 1) := by decide +kernel
theorem dX7_street_94 : decode cX7_street 94 = .ok (.getfield 113, 3) := by decide +kernel
theorem dX7_street_97 : decode cX7_street 97 = .ok (.aload_n 0, 1) := by decide +kernel
theorem dX7_street_98 : decode cX7_street 98 = .ok (.getfield 133, 3) := by decide +kernel
theorem dX7_street_101 : decode cX7_street 101 = .ok (.if_icmp .ge 17, 3) := by decide +kernel
theorem dX7_street_104 : decode cX7_street 104 = .ok (.aload_n 0, 1) := by decide +kernel
theorem dX7_street_105 : decode cX7_street 105 = .ok (.getfield 126, 3) := by decide +kernel
theorem dX7_street_108 : decode cX7_street 108 = .ok (.aload_n 0, 1) := by decide +kernel
theorem dX7_street_109 : decode cX7_street 109 = .ok (.getfield 17, 3) := by decide +kernel
theorem dX7_street_112 : decode cX7_street 112 = .ok (.bipush 88, 2) := by decide +kernel
theorem dX7_street_114 : decode cX7_street 114 = .ok (.iaload, 1) := by decide +kernel
theorem dX7_street_115 : decode cX7_street 115 = .ok (.if_icmp .lt 9, 3) := by decide +kernel
theorem dX7_street_118 : decode cX7_street 118 = .ok (.aload_n 0, 1) := by decide +kernel
theorem dX7_street_119 : decode cX7_street 119 = .ok (.bipush 6, 2) := by decide +kernel
theorem dX7_street_121 : decode cX7_street 121 = .ok (.invokevirtual 100, 3) := by decide +kernel
theorem dX7_street_124 : decode cX7_street 124 = .ok (.aload_n 0, 1) := by decide +kernel
theorem dX7_street_125 : decode cX7_street 125 = .ok (.iconst 0, 1) := by decide +kernel
theorem dX7_street_126 : decode cX7_street 126 = .ok (.putfield 63, 3) := by decide +kernel
theorem dX7_street_129 : decode cX7_street 129 = .ok (.aload_n 0, 1) := by decide +kernel
theorem dX7_street_130 : decode cX7_street 130 = .ok (.aload_n 0, 1) := by decide +kernel
theorem dX7_street_131 : decode cX7_street 131 = .ok (.getfield 70, 3) := by decide +kernel
theorem dX7_street_134 : decode cX7_street 134 = .ok (.putfield 158, 3) := by decide +kernel
theorem dX7_street_137 : decode cX7_street 137 = .ok (.aload_n 0, 1) := by decide +kernel
theorem dX7_street_138 : decode cX7_street 138 = .ok (.getfield 70, 3) := by decide +kernel
theorem dX7_street_141 : decode cX7_street 141 = .ok (.ifCond .le 11, 3) := by decide +kernel
theorem dX7_street_144 : decode cX7_street 144 = .ok (.bipush (-10), 2) := by decide +kernel
theorem dX7_street_146 : decode cX7_street 146 = .ok (.aload_n 0, 1) := by decide +kernel
theorem dX7_street_147 : decode cX7_street 147 = .ok (.getfield 76, 3) := by decide +kernel
theorem dX7_street_150 : decode cX7_street 150 = .ok (.isub, 1) := by decide +kernel
theorem dX7_street_151 : decode cX7_street 151 = .ok (.ireturn, 1) := by decide +kernel
theorem dX7_street_152 : decode cX7_street 152 = .ok (.iconst 0, 1) := by decide +kernel
theorem dX7_street_153 : decode cX7_street 153 = .ok (.istore_n 2, 1) := by decide +kernel
theorem dX7_street_154 : decode cX7_street 154 = .ok (.iload_n 2, 1) := by decide +kernel
theorem dX7_street_155 : decode cX7_street 155 = .ok (.bipush 92, 2) := by decide +kernel
theorem dX7_street_157 : decode cX7_street 157 = .ok (.if_icmp .ge 21, 3) := by decide +kernel
theorem dX7_street_160 : decode cX7_street 160 = .ok (.aload_n 0, 1) := by decide +kernel
theorem dX7_street_161 : decode cX7_street 161 = .ok (.getfield 7, 3) := by decide +kernel
theorem dX7_street_164 : decode cX7_street 164 = .ok (.iload_n 2, 1) := by decide +kernel
theorem dX7_street_165 : decode cX7_street 165 = .ok (.aload_n 0, 1) := by decide +kernel
theorem dX7_street_166 : decode cX7_street 166 = .ok (.getfield 17, 3) := by decide +kernel
theorem dX7_street_169 : decode cX7_street 169 = .ok (.iload_n 2, 1) := by decide +kernel
theorem dX7_street_170 : decode cX7_street 170 = .ok (.iaload, 1) := by decide +kernel
theorem dX7_street_171 : decode cX7_street 171 = .ok (.iastore, 1) := by decide +kernel
theorem dX7_street_172 : decode cX7_street 172 = .ok (.iinc 2 1, 3) := by decide +kernel
theorem dX7_street_175 : decode cX7_street 175 = .ok (.goto (-21), 3) := by decide +kernel
theorem dX7_street_178 : decode cX7_street 178 = .ok (.aload_n 0, 1) := by decide +kernel
theorem dX7_street_179 : decode cX7_street 179 = .ok (.aload_n 0, 1) := by decide +kernel
theorem dX7_street_180 : decode cX7_street 180 = .ok (.getfield 133, 3) := by decide +kernel
theorem dX7_street_183 : decode cX7_street 183 = .ok (.putfield 13, 3) := by decide +kernel
theorem dX7_street_186 : decode cX7_street 186 = .ok (.aload_n 0, 1) := by decide +kernel
theorem dX7_street_187 : decode cX7_street 187 = .ok (.iconst 0, 1) := by decide +kernel
theorem dX7_street_188 : decode cX7_street 188 = .ok (.putfield 161, 3) := by decide +kernel
theorem dX7_street_191 : decode cX7_street 191 = .ok (.aload_n 0, 1) := by decide +kernel
theorem dX7_street_192 : decode cX7_street 192 = .ok (.iconst 0, 1) := by decide +kernel
theorem dX7_street_193 : decode cX7_street 193 = .ok (.putfield 164, 3) := by decide +kernel
theorem dX7_street_196 : decode cX7_street 196 = .ok (.aload_n 0, 1) := by decide +kernel
theorem dX7_street_197 : decode cX7_street 197 = .ok (.getfield 50, 3) := by decide +kernel
theorem dX7_street_200 : decode cX7_street 200 = .ok (.iconst 0, 1) := by decide +kernel
theorem dX7_street_201 : decode cX7_street 201 = .ok (.iconst 0, 1) := by decide +kernel
theorem dX7_street_202 : decode cX7_street 202 = .ok (.bastore, 1) := by decide +kernel
theorem dX7_street_203 : decode cX7_street 203 = .ok (.aload_n 0, 1) := by decide +kernel
theorem dX7_street_204 : decode cX7_street 204 = .ok (.getfield 50, 3) := by decide +kernel
theorem dX7_street_207 : decode cX7_street 207 = .ok (.iconst 1, 1) := by decide +kernel
theorem dX7_street_208 : decode cX7_street 208 = .ok (.iconst 0, 1) := by decide +kernel
theorem dX7_street_209 : decode cX7_street 209 = .ok (.bastore, 1) := by decide +kernel
theorem dX7_street_210 : decode cX7_street 210 = .ok (.iload_n 1, 1) := by decide +kernel
theorem dX7_street_211 : decode cX7_street 211 = .ok (.ireturn, 1) := by decide +kernel
theorem dX7_fault_0 : decode cX7_fault 0 = .ok (.aload_n 0, 1) := by decide +kernel
theorem dX7_fault_1 : decode cX7_fault 1 = .ok (.getfield 158, 3) := by decide +kernel
theorem dX7_fault_4 : decode cX7_fault 4 = .ok (.ireturn, 1) := by decide +kernel
set_option maxRecDepth 20000 in
theorem ggX7_isDay_X7_in : GoodIn wsX7_isDay wsX7_in := goodIn_r _ [5] (by decide +kernel) (by decide +kernel)
set_option maxRecDepth 20000 in
theorem gX7_isDay_X7_in : GoodIn wsX7_isDay (va_wsS RX7 66 yX7_in wsX7_in) := goodIn_app (goodIn_of _ (by decide +kernel)) ggX7_isDay_X7_in
theorem dX7_isDay_0 : decode cX7_isDay 0 = .ok (.iload_n 0, 1) := by decide +kernel
theorem dX7_isDay_1 : decode cX7_isDay 1 = .ok (.i2l, 1) := by decide +kernel
theorem dX7_isDay_2 : decode cX7_isDay 2 = .ok (.lconst 0, 1) := by decide +kernel
theorem dX7_isDay_3 : decode cX7_isDay 3 = .ok (.ldc2_w 167, 3) := by decide +kernel
theorem dX7_isDay_6 : decode cX7_isDay 6 = .ok (.invokestatic 66, 3) := by decide +kernel
theorem dX7_isDay_9 : decode cX7_isDay 9 = .ok (.ireturn, 1) := by decide +kernel
set_option maxRecDepth 20000 in
theorem ggX7_isHouse_X7_in : GoodIn wsX7_isHouse wsX7_in := goodIn_r _ [5] (by decide +kernel) (by decide +kernel)
set_option maxRecDepth 20000 in
theorem gX7_isHouse_X7_in : GoodIn wsX7_isHouse (va_wsS RX7 66 yX7_in wsX7_in) := goodIn_app (goodIn_of _ (by decide +kernel)) ggX7_isHouse_X7_in
theorem dX7_isHouse_0 : decode cX7_isHouse 0 = .ok (.iload_n 1, 1) := by decide +kernel
theorem dX7_isHouse_1 : decode cX7_isHouse 1 = .ok (.i2l, 1) := by decide +kernel
theorem dX7_isHouse_2 : decode cX7_isHouse 2 = .ok (.lconst 0, 1) := by decide +kernel
theorem dX7_isHouse_3 : decode cX7_isHouse 3 = .ok (.aload_n 0, 1) := by decide +kernel
theorem dX7_isHouse_4 : decode cX7_isHouse 4 = .ok (.getfield 13, 3) := by decide +kernel
theorem dX7_isHouse_7 : decode cX7_isHouse 7 = .ok (.iconst 1, 1) := by decide +kernel
theorem dX7_isHouse_8 : decode cX7_isHouse 8 = .ok (.isub, 1) := by decide +kernel
theorem dX7_isHouse_9 : decode cX7_isHouse 9 = .ok (.i2l, 1) := by decide +kernel
theorem dX7_isHouse_10 : decode cX7_isHouse 10 = .ok (.invokestatic 66, 3) := by decide +kernel
theorem dX7_isHouse_13 : decode cX7_isHouse 13 = .ok (.ireturn, 1) := by decide +kernel
theorem dX7_people_0 : decode cX7_people 0 = .ok (.aload_n 0, 1) := by decide +kernel
theorem dX7_people_1 : decode cX7_people 1 = .ok (.getfield 7, 3) := by decide +kernel
theorem dX7_people_4 : decode cX7_people 4 = .ok (.bipush 88, 2) := by decide +kernel
theorem dX7_people_6 : decode cX7_people 6 = .ok (.iaload, 1) := by decide +kernel
theorem dX7_people_7 : decode cX7_people 7 = .ok (.ireturn, 1) := by decide +kernel
set_option maxRecDepth 20000 in
theorem ggX7_isOne_X7_people : GoodIn wsX7_isOne wsX7_people := goodIn_r _ [5, 6, 10, 11, 12, 13, 14, 15, 16, 17, 18, 19, 20, 21, 22, 23, 24, 25, 26, 27, 28, 29, 30, 31, 32, 33, 34, 35, 36, 37, 38, 39, 40, 41, 42, 43, 44, 45, 46, 47] (by decide +kernel) (by decide +kernel)
set_option maxRecDepth 20000 in
theorem gX7_isOne_X7_people : GoodIn wsX7_isOne (wsV RX7 169 RX7 yX7_people wsX7_people) := goodIn_app (goodIn_of _ (by decide +kernel)) ggX7_isOne_X7_people
set_option maxRecDepth 20000 in
theorem ggX7_isOne_X7_in : GoodIn wsX7_isOne wsX7_in := goodIn_r _ [9] (by decide +kernel) (by decide +kernel)
set_option maxRecDepth 20000 in
theorem gX7_isOne_X7_in : GoodIn wsX7_isOne (va_wsS RX7 66 yX7_in wsX7_in) := goodIn_app (goodIn_of _ (by decide +kernel)) ggX7_isOne_X7_in
theorem dX7_isOne_0 : decode cX7_isOne 0 = .ok (.iload_n 1, 1) := by decide +kernel
theorem dX7_isOne_1 : decode cX7_isOne 1 = .ok (.i2l, 1) := by decide +kernel
theorem dX7_isOne_2 : decode cX7_isOne 2 = .ok (.lconst 0, 1) := by decide +kernel
theorem dX7_isOne_3 : decode cX7_isOne 3 = .ok (.aload_n 0, 1) := by decide +kernel
theorem dX7_isOne_4 : decode cX7_isOne 4 = .ok (.invokevirtual 169, 3) := by decide +kernel
theorem dX7_isOne_7 : decode cX7_isOne 7 = .ok (.iconst 1, 1) := by decide +kernel
theorem dX7_isOne_8 : decode cX7_isOne 8 = .ok (.isub, 1) := by decide +kernel
theorem dX7_isOne_9 : decode cX7_isOne 9 = .ok (.i2l, 1) := by decide +kernel
theorem dX7_isOne_10 : decode cX7_isOne 10 = .ok (.invokestatic 66, 3) := by decide +kernel
theorem dX7_isOne_13 : decode cX7_isOne 13 = .ok (.ireturn, 1) := by decide +kernel
set_option maxRecDepth 20000 in
theorem ggX7_rule_X7_in : GoodIn wsX7_rule wsX7_in := goodIn_r _ [8] (by decide +kernel) (by decide +kernel)
set_option maxRecDepth 20000 in
theorem gX7_rule_X7_in : GoodIn wsX7_rule (va_wsS RX7 66 yX7_in wsX7_in) := goodIn_app (goodIn_of _ (by decide +kernel)) ggX7_rule_X7_in
theorem dX7_rule_0 : decode cX7_rule 0 = .ok (.iload_n 1, 1) := by decide +kernel
theorem dX7_rule_1 : decode cX7_rule 1 = .ok (.ifCond .ne 10, 3) := by decide +kernel
theorem dX7_rule_4 : decode cX7_rule 4 = .ok (.aload_n 0, 1) := by decide +kernel
theorem dX7_rule_5 : decode cX7_rule 5 = .ok (.getfield 13, 3) := by decide +kernel
theorem dX7_rule_8 : decode cX7_rule 8 = .ok (.goto 47, 3) := by decide +kernel
theorem dX7_rule_11 : decode cX7_rule 11 = .ok (.iload_n 1, 1) := by decide +kernel
theorem dX7_rule_12 : decode cX7_rule 12 = .ok (.iconst 1, 1) := by decide +kernel
theorem dX7_rule_13 : decode cX7_rule 13 = .ok (.if_icmp .ne 13, 3) := by decide +kernel
theorem dX7_rule_16 : decode cX7_rule 16 = .ok (.aload_n 0, 1) := by decide +kernel
theorem dX7_rule_17 : decode cX7_rule 17 = .ok (.getfield 7, 3) := by decide +kernel
theorem dX7_rule_20 : decode cX7_rule 20 = .ok (.bipush 91, 2) := by decide +kernel
theorem dX7_rule_22 : decode cX7_rule 22 = .ok (.iaload, 1) := by decide +kernel
theorem dX7_rule_23 : decode cX7_rule 23 = .ok (.goto 32, 3) := by decide +kernel
theorem dX7_rule_26 : decode cX7_rule 26 = .ok (.iload_n 1, 1) := by decide +kernel
theorem dX7_rule_27 : decode cX7_rule 27 = .ok (.i2l, 1) := by decide +kernel
theorem dX7_rule_28 : decode cX7_rule 28 = .ok (.ldc2_w 172, 3) := by decide +kernel
theorem dX7_rule_31 : decode cX7_rule 31 = .ok (.ldc2_w 141, 3) := by decide +kernel
theorem dX7_rule_34 : decode cX7_rule 34 = .ok (.invokestatic 66, 3) := by decide +kernel
theorem dX7_rule_37 : decode cX7_rule 37 = .ok (.ifCond .eq 17, 3) := by decide +kernel
theorem dX7_rule_40 : decode cX7_rule 40 = .ok (.aload_n 0, 1) := by decide +kernel
theorem dX7_rule_41 : decode cX7_rule 41 = .ok (.getfield 7, 3) := by decide +kernel
theorem dX7_rule_44 : decode cX7_rule 44 = .ok (.bipush 88, 2) := by decide +kernel
theorem dX7_rule_46 : decode cX7_rule 46 = .ok (.iload_n 1, 1) := by decide +kernel
theorem dX7_rule_47 : decode cX7_rule 47 = .ok (.iadd, 1) := by decide +kernel
theorem dX7_rule_48 : decode cX7_rule 48 = .ok (.iconst 2, 1) := by decide +kernel
theorem dX7_rule_49 : decode cX7_rule 49 = .ok (.isub, 1) := by decide +kernel
theorem dX7_rule_50 : decode cX7_rule 50 = .ok (.iaload, 1) := by decide +kernel
theorem dX7_rule_51 : decode cX7_rule 51 = .ok (.goto 4, 3) := by decide +kernel
theorem dX7_rule_54 : decode cX7_rule 54 = .ok (.iconst (-1), 1) := by decide +kernel
theorem dX7_rule_55 : decode cX7_rule 55 = .ok (.ireturn, 1) := by decide +kernel
set_option maxRecDepth 20000 in
theorem ggX7_one_X7_isOne : GoodIn wsX7_one wsX7_isOne := goodIn_r _ [7, 8, 9, 10, 6, 11, 2, 12, 13, 14, 15, 16, 17, 18, 19, 20, 21, 22, 23, 24, 25, 26, 27, 28, 29, 30, 31, 32, 33, 34, 35, 36, 37, 38, 39, 40, 41, 42, 43, 44, 45, 46, 47, 48, 49, 50, 51, 52] (by decide +kernel) (by decide +kernel)
set_option maxRecDepth 20000 in
theorem gX7_one_X7_isOne : GoodIn wsX7_one (wsV RX7 174 RX7 yX7_isOne wsX7_isOne) := goodIn_app (goodIn_of _ (by decide +kernel)) ggX7_one_X7_isOne
set_option maxRecDepth 20000 in
theorem ggX7_one_X7_in : GoodIn wsX7_one wsX7_in := goodIn_r _ [14] (by decide +kernel) (by decide +kernel)
set_option maxRecDepth 20000 in
theorem gX7_one_X7_in : GoodIn wsX7_one (va_wsS RX7 66 yX7_in wsX7_in) := goodIn_app (goodIn_of _ (by decide +kernel)) ggX7_one_X7_in
theorem dX7_one_0 : decode cX7_one 0 = .ok (.aload_n 0, 1) := by decide +kernel
theorem dX7_one_1 : decode cX7_one 1 = .ok (.iload_n 1, 1) := by decide +kernel
theorem dX7_one_2 : decode cX7_one 2 = .ok (.invokevirtual 174, 3) := by decide +kernel
theorem dX7_one_5 : decode cX7_one 5 = .ok (.ifCond .eq 28, 3) := by decide +kernel
theorem dX7_one_8 : decode cX7_one 8 = .ok (.iload_n 2, 1) := by decide +kernel
theorem dX7_one_9 : decode cX7_one 9 = .ok (.i2l, 1) := by decide +kernel
theorem dX7_one_10 : decode cX7_one 10 = .ok (.lconst 0, 1) := by decide +kernel
theorem dX7_one_11 : decode cX7_one 11 = .ok (.ldc2_w 139, 3) := by decide +kernel
theorem dX7_one_14 : decode cX7_one 14 = .ok (.invokestatic 66, 3) := by decide +kernel
theorem dX7_one_17 : decode cX7_one 17 = .ok (.ifCond .eq 16, 3) := by decide +kernel
theorem dX7_one_20 : decode cX7_one 20 = .ok (.aload_n 0, 1) := by decide +kernel
theorem dX7_one_21 : decode cX7_one 21 = .ok (.getfield 7, 3) := by decide +kernel
theorem dX7_one_24 : decode cX7_one 24 = .ok (.iconst 4, 1) := by decide +kernel
theorem dX7_one_25 : decode cX7_one 25 = .ok (.iload_n 1, 1) := by decide +kernel
theorem dX7_one_26 : decode cX7_one 26 = .ok (.imul, 1) := by decide +kernel
theorem dX7_one_27 : decode cX7_one 27 = .ok (.iload_n 2, 1) := by decide +kernel
theorem dX7_one_28 : decode cX7_one 28 = .ok (.iadd, 1) := by decide +kernel
theorem dX7_one_29 : decode cX7_one 29 = .ok (.iaload, 1) := by decide +kernel
theorem dX7_one_30 : decode cX7_one 30 = .ok (.goto 4, 3) := by decide +kernel
theorem dX7_one_33 : decode cX7_one 33 = .ok (.iconst (-1), 1) := by decide +kernel
theorem dX7_one_34 : decode cX7_one 34 = .ok (.ireturn, 1) := by decide +kernel
set_option maxRecDepth 20000 in
theorem ggX7_moved_X7_in : GoodIn wsX7_moved wsX7_in := goodIn_r _ [6] (by decide +kernel) (by decide +kernel)
set_option maxRecDepth 20000 in
theorem gX7_moved_X7_in : GoodIn wsX7_moved (va_wsS RX7 66 yX7_in wsX7_in) := goodIn_app (goodIn_of _ (by decide +kernel)) ggX7_moved_X7_in
theorem dX7_moved_0 : decode cX7_moved 0 = .ok (.iload_n 1, 1) := by decide +kernel
theorem dX7_moved_1 : decode cX7_moved 1 = .ok (.i2l, 1) := by decide +kernel
theorem dX7_moved_2 : decode cX7_moved 2 = .ok (.lconst 0, 1) := by decide +kernel
theorem dX7_moved_3 : decode cX7_moved 3 = .ok (.aload_n 0, 1) := by decide +kernel
theorem dX7_moved_4 : decode cX7_moved 4 = .ok (.getfield 7, 3) := by decide +kernel
theorem dX7_moved_7 : decode cX7_moved 7 = .ok (.bipush 89, 2) := by decide +kernel
theorem dX7_moved_9 : decode cX7_moved 9 = .ok (.iaload, 1) := by decide +kernel
theorem dX7_moved_10 : decode cX7_moved 10 = .ok (.iconst 1, 1) := by decide +kernel
theorem dX7_moved_11 : decode cX7_moved 11 = .ok (.isub, 1) := by decide +kernel
theorem dX7_moved_12 : decode cX7_moved 12 = .ok (.i2l, 1) := by decide +kernel
theorem dX7_moved_13 : decode cX7_moved 13 = .ok (.invokestatic 66, 3) := by decide +kernel
theorem dX7_moved_16 : decode cX7_moved 16 = .ok (.ifCond .eq 31, 3) := by decide +kernel
theorem dX7_moved_19 : decode cX7_moved 19 = .ok (.iload_n 2, 1) := by decide +kernel
theorem dX7_moved_20 : decode cX7_moved 20 = .ok (.i2l, 1) := by decide +kernel
theorem dX7_moved_21 : decode cX7_moved 21 = .ok (.lconst 0, 1) := by decide +kernel
theorem dX7_moved_22 : decode cX7_moved 22 = .ok (.ldc2_w 172, 3) := by decide +kernel
theorem dX7_moved_25 : decode cX7_moved 25 = .ok (.invokestatic 66, 3) := by decide +kernel
theorem dX7_moved_28 : decode cX7_moved 28 = .ok (.ifCond .eq 19, 3) := by decide +kernel
theorem dX7_moved_31 : decode cX7_moved 31 = .ok (.aload_n 0, 1) := by decide +kernel
theorem dX7_moved_32 : decode cX7_moved 32 = .ok (.getfield 7, 3) := by decide +kernel
theorem dX7_moved_35 : decode cX7_moved 35 = .ok (.bipush 40, 2) := by decide +kernel
theorem dX7_moved_37 : decode cX7_moved 37 = .ok (.iconst 3, 1) := by decide +kernel
theorem dX7_moved_38 : decode cX7_moved 38 = .ok (.iload_n 1, 1) := by decide +kernel
theorem dX7_moved_39 : decode cX7_moved 39 = .ok (.imul, 1) := by decide +kernel
theorem dX7_moved_40 : decode cX7_moved 40 = .ok (.iadd, 1) := by decide +kernel
theorem dX7_moved_41 : decode cX7_moved 41 = .ok (.iload_n 2, 1) := by decide +kernel
theorem dX7_moved_42 : decode cX7_moved 42 = .ok (.iadd, 1) := by decide +kernel
theorem dX7_moved_43 : decode cX7_moved 43 = .ok (.iaload, 1) := by decide +kernel
theorem dX7_moved_44 : decode cX7_moved 44 = .ok (.goto 4, 3) := by decide +kernel
theorem dX7_moved_47 : decode cX7_moved 47 = .ok (.iconst (-1), 1) := by decide +kernel
theorem dX7_moved_48 : decode cX7_moved 48 = .ok (.ireturn, 1) := by decide +kernel
set_option maxRecDepth 20000 in
theorem ggX7_expected_X7_in : GoodIn wsX7_expected wsX7_in := goodIn_r _ [6] (by decide +kernel) (by decide +kernel)
set_option maxRecDepth 20000 in
theorem gX7_expected_X7_in : GoodIn wsX7_expected (va_wsS RX7 66 yX7_in wsX7_in) := goodIn_app (goodIn_of _ (by decide +kernel)) ggX7_expected_X7_in
theorem dX7_expected_0 : decode cX7_expected 0 = .ok (.iload_n 1, 1) := by decide +kernel
theorem dX7_expected_1 : decode cX7_expected 1 = .ok (.i2l, 1) := by decide +kernel
theorem dX7_expected_2 : decode cX7_expected 2 = .ok (.lconst 0, 1) := by decide +kernel
theorem dX7_expected_3 : decode cX7_expected 3 = .ok (.aload_n 0, 1) := by decide +kernel
theorem dX7_expected_4 : decode cX7_expected 4 = .ok (.getfield 7, 3) := by decide +kernel
theorem dX7_expected_7 : decode cX7_expected 7 = .ok (.bipush 90, 2) := by decide +kernel
theorem dX7_expected_9 : decode cX7_expected 9 = .ok (.iaload, 1) := by decide +kernel
theorem dX7_expected_10 : decode cX7_expected 10 = .ok (.iconst 1, 1) := by decide +kernel
theorem dX7_expected_11 : decode cX7_expected 11 = .ok (.isub, 1) := by decide +kernel
theorem dX7_expected_12 : decode cX7_expected 12 = .ok (.i2l, 1) := by decide +kernel
theorem dX7_expected_13 : decode cX7_expected 13 = .ok (.invokestatic 66, 3) := by decide +kernel
theorem dX7_expected_16 : decode cX7_expected 16 = .ok (.ifCond .eq 31, 3) := by decide +kernel
theorem dX7_expected_19 : decode cX7_expected 19 = .ok (.iload_n 2, 1) := by decide +kernel
theorem dX7_expected_20 : decode cX7_expected 20 = .ok (.i2l, 1) := by decide +kernel
theorem dX7_expected_21 : decode cX7_expected 21 = .ok (.lconst 0, 1) := by decide +kernel
theorem dX7_expected_22 : decode cX7_expected 22 = .ok (.ldc2_w 172, 3) := by decide +kernel
theorem dX7_expected_25 : decode cX7_expected 25 = .ok (.invokestatic 66, 3) := by decide +kernel
theorem dX7_expected_28 : decode cX7_expected 28 = .ok (.ifCond .eq 19, 3) := by decide +kernel
theorem dX7_expected_31 : decode cX7_expected 31 = .ok (.aload_n 0, 1) := by decide +kernel
theorem dX7_expected_32 : decode cX7_expected 32 = .ok (.getfield 7, 3) := by decide +kernel
theorem dX7_expected_35 : decode cX7_expected 35 = .ok (.bipush 76, 2) := by decide +kernel
theorem dX7_expected_37 : decode cX7_expected 37 = .ok (.iconst 3, 1) := by decide +kernel
theorem dX7_expected_38 : decode cX7_expected 38 = .ok (.iload_n 1, 1) := by decide +kernel
theorem dX7_expected_39 : decode cX7_expected 39 = .ok (.imul, 1) := by decide +kernel
theorem dX7_expected_40 : decode cX7_expected 40 = .ok (.iadd, 1) := by decide +kernel
theorem dX7_expected_41 : decode cX7_expected 41 = .ok (.iload_n 2, 1) := by decide +kernel
theorem dX7_expected_42 : decode cX7_expected 42 = .ok (.iadd, 1) := by decide +kernel
theorem dX7_expected_43 : decode cX7_expected 43 = .ok (.iaload, 1) := by decide +kernel
theorem dX7_expected_44 : decode cX7_expected 44 = .ok (.goto 4, 3) := by decide +kernel
theorem dX7_expected_47 : decode cX7_expected 47 = .ok (.iconst (-1), 1) := by decide +kernel
theorem dX7_expected_48 : decode cX7_expected 48 = .ok (.ireturn, 1) := by decide +kernel
set_option maxRecDepth 20000 in
theorem ggX7_law_X7_in : GoodIn wsX7_law wsX7_in := goodIn_r _ [6] (by decide +kernel) (by decide +kernel)
set_option maxRecDepth 20000 in
theorem gX7_law_X7_in : GoodIn wsX7_law (va_wsS RX7 66 yX7_in wsX7_in) := goodIn_app (goodIn_of _ (by decide +kernel)) ggX7_law_X7_in
theorem dX7_law_0 : decode cX7_law 0 = .ok (.iload_n 1, 1) := by decide +kernel
theorem dX7_law_1 : decode cX7_law 1 = .ok (.i2l, 1) := by decide +kernel
theorem dX7_law_2 : decode cX7_law 2 = .ok (.lconst 0, 1) := by decide +kernel
theorem dX7_law_3 : decode cX7_law 3 = .ok (.ldc2_w 139, 3) := by decide +kernel
theorem dX7_law_6 : decode cX7_law 6 = .ok (.invokestatic 66, 3) := by decide +kernel
theorem dX7_law_9 : decode cX7_law 9 = .ok (.ifCond .ne 5, 3) := by decide +kernel
theorem dX7_law_12 : decode cX7_law 12 = .ok (.iconst (-1), 1) := by decide +kernel
theorem dX7_law_13 : decode cX7_law 13 = .ok (.ireturn, 1) := by decide +kernel
theorem dX7_law_14 : decode cX7_law 14 = .ok (.aload_n 0, 1) := by decide +kernel
theorem dX7_law_15 : decode cX7_law 15 = .ok (.getfield 7, 3) := by decide +kernel
theorem dX7_law_18 : decode cX7_law 18 = .ok (.bipush 91, 2) := by decide +kernel
theorem dX7_law_20 : decode cX7_law 20 = .ok (.iaload, 1) := by decide +kernel
theorem dX7_law_21 : decode cX7_law 21 = .ok (.istore_n 2, 1) := by decide +kernel
theorem dX7_law_22 : decode cX7_law 22 = .ok (.aload_n 0, 1) := by decide +kernel
theorem dX7_law_23 : decode cX7_law 23 = .ok (.getfield 7, 3) := by decide +kernel
theorem dX7_law_26 : decode cX7_law 26 = .ok (.bipush 91, 2) := by decide +kernel
theorem dX7_law_28 : decode cX7_law 28 = .ok (.iload_n 1, 1) := by decide +kernel
theorem dX7_law_29 : decode cX7_law 29 = .ok (.iastore, 1) := by decide +kernel
theorem dX7_law_30 : decode cX7_law 30 = .ok (.iload_n 2, 1) := by decide +kernel
theorem dX7_law_31 : decode cX7_law 31 = .ok (.ireturn, 1) := by decide +kernel
set_option maxRecDepth 20000 in
theorem ggX7_bear_X7_in : GoodIn wsX7_bear wsX7_in := goodIn_r _ [6] (by decide +kernel) (by decide +kernel)
set_option maxRecDepth 20000 in
theorem gX7_bear_X7_in : GoodIn wsX7_bear (va_wsS RX7 66 yX7_in wsX7_in) := goodIn_app (goodIn_of _ (by decide +kernel)) ggX7_bear_X7_in
set_option maxRecDepth 20000 in
theorem ggX7_bear_X7_isDay : GoodIn wsX7_bear wsX7_isDay := goodIn_r _ [9, 10, 3, 4, 5, 6] (by decide +kernel) (by decide +kernel)
set_option maxRecDepth 20000 in
theorem gX7_bear_X7_isDay : GoodIn wsX7_bear (va_wsS RX7 178 yX7_isDay wsX7_isDay) := goodIn_app (goodIn_of _ (by decide +kernel)) ggX7_bear_X7_isDay
set_option maxRecDepth 20000 in
theorem ggX7_bear_X7_isHouse : GoodIn wsX7_bear wsX7_isHouse := goodIn_r _ [14, 15, 3, 4, 5, 6, 20, 21, 22, 23, 24, 25, 26, 27, 28, 29, 30, 31, 32, 33, 34, 35, 36, 37, 38, 39, 40, 41, 42, 43, 44, 45, 46, 47, 48, 49, 50, 51, 52, 53, 54, 55, 56, 57] (by decide +kernel) (by decide +kernel)
set_option maxRecDepth 20000 in
theorem gX7_bear_X7_isHouse : GoodIn wsX7_bear (wsV RX7 181 RX7 yX7_isHouse wsX7_isHouse) := goodIn_app (goodIn_of _ (by decide +kernel)) ggX7_bear_X7_isHouse
set_option maxRecDepth 20000 in
theorem ggX7_bear_X7_people : GoodIn wsX7_bear wsX7_people := goodIn_r _ [19, 2, 20, 21, 22, 23, 24, 25, 26, 27, 28, 29, 30, 31, 32, 33, 34, 35, 36, 37, 38, 39, 40, 41, 42, 43, 44, 45, 46, 47, 48, 49, 50, 51, 52, 53, 54, 55, 56, 57] (by decide +kernel) (by decide +kernel)
set_option maxRecDepth 20000 in
theorem gX7_bear_X7_people : GoodIn wsX7_bear (wsV RX7 169 RX7 yX7_people wsX7_people) := goodIn_app (goodIn_of _ (by decide +kernel)) ggX7_bear_X7_people
theorem dX7_bear_0 : decode cX7_bear 0 = .ok (.iload_n 1, 1) := by decide +kernel
theorem dX7_bear_1 : decode cX7_bear 1 = .ok (.i2l, 1) := by decide +kernel
theorem dX7_bear_2 : decode cX7_bear 2 = .ok (.lconst 0, 1) := by decide +kernel
theorem dX7_bear_3 : decode cX7_bear 3 = .ok (.ldc2_w 141, 3) := by decide +kernel
theorem dX7_bear_6 : decode cX7_bear 6 = .ok (.invokestatic 66, 3) := by decide +kernel
theorem dX7_bear_9 : decode cX7_bear 9 = .ok (.ifCond .eq 18, 3) := by decide +kernel
theorem dX7_bear_12 : decode cX7_bear 12 = .ok (.iload_n 2, 1) := by decide +kernel
theorem dX7_bear_13 : decode cX7_bear 13 = .ok (.invokestatic 178, 3) := by decide +kernel
theorem dX7_bear_16 : decode cX7_bear 16 = .ok (.ifCond .eq 11, 3) := by decide +kernel
theorem dX7_bear_19 : decode cX7_bear 19 = .ok (.aload_n 0, 1) := by decide +kernel
theorem dX7_bear_20 : decode cX7_bear 20 = .ok (.iload_n 3, 1) := by decide +kernel
theorem dX7_bear_21 : decode cX7_bear 21 = .ok (.invokevirtual 181, 3) := by decide +kernel
theorem dX7_bear_24 : decode cX7_bear 24 = .ok (.ifCond .ne 5, 3) := by decide +kernel
theorem dX7_bear_27 : decode cX7_bear 27 = .ok (.iconst (-1), 1) := by decide +kernel
theorem dX7_bear_28 : decode cX7_bear 28 = .ok (.ireturn, 1) := by decide +kernel
theorem dX7_bear_29 : decode cX7_bear 29 = .ok (.aload_n 0, 1) := by decide +kernel
theorem dX7_bear_30 : decode cX7_bear 30 = .ok (.invokevirtual 169, 3) := by decide +kernel
theorem dX7_bear_33 : decode cX7_bear 33 = .ok (.istore 4, 2) := by decide +kernel
theorem dX7_bear_35 : decode cX7_bear 35 = .ok (.iload 4, 2) := by decide +kernel
theorem dX7_bear_37 : decode cX7_bear 37 = .ok (.bipush 10, 2) := by decide +kernel
theorem dX7_bear_39 : decode cX7_bear 39 = .ok (.if_icmp .ne 6, 3) := by decide +kernel
theorem dX7_bear_42 : decode cX7_bear 42 = .ok (.bipush (-3), 2) := by decide +kernel
theorem dX7_bear_44 : decode cX7_bear 44 = .ok (.ireturn, 1) := by decide +kernel
theorem dX7_bear_45 : decode cX7_bear 45 = .ok (.aload_n 0, 1) := by decide +kernel
theorem dX7_bear_46 : decode cX7_bear 46 = .ok (.getfield 7, 3) := by decide +kernel
theorem dX7_bear_49 : decode cX7_bear 49 = .ok (.iconst 4, 1) := by decide +kernel
theorem dX7_bear_50 : decode cX7_bear 50 = .ok (.iload 4, 2) := by decide +kernel
theorem dX7_bear_52 : decode cX7_bear 52 = .ok (.imul, 1) := by decide +kernel
theorem dX7_bear_53 : decode cX7_bear 53 = .ok (.iload_n 1, 1) := by decide +kernel
theorem dX7_bear_54 : decode cX7_bear 54 = .ok (.iastore, 1) := by decide +kernel
theorem dX7_bear_55 : decode cX7_bear 55 = .ok (.aload_n 0, 1) := by decide +kernel
theorem dX7_bear_56 : decode cX7_bear 56 = .ok (.getfield 7, 3) := by decide +kernel
theorem dX7_bear_59 : decode cX7_bear 59 = .ok (.iconst 4, 1) := by decide +kernel
theorem dX7_bear_60 : decode cX7_bear 60 = .ok (.iload 4, 2) := by decide +kernel
theorem dX7_bear_62 : decode cX7_bear 62 = .ok (.imul, 1) := by decide +kernel
theorem dX7_bear_63 : decode cX7_bear 63 = .ok (.iconst 1, 1) := by decide +kernel
theorem dX7_bear_64 : decode cX7_bear 64 = .ok (.iadd, 1) := by decide +kernel
theorem dX7_bear_65 : decode cX7_bear 65 = .ok (.iload_n 2, 1) := by decide +kernel
theorem dX7_bear_66 : decode cX7_bear 66 = .ok (.iastore, 1) := by decide +kernel
theorem dX7_bear_67 : decode cX7_bear 67 = .ok (.aload_n 0, 1) := by decide +kernel
theorem dX7_bear_68 : decode cX7_bear 68 = .ok (.getfield 7, 3) := by decide +kernel
theorem dX7_bear_71 : decode cX7_bear 71 = .ok (.iconst 4, 1) := by decide +kernel
theorem dX7_bear_72 : decode cX7_bear 72 = .ok (.iload 4, 2) := by decide +kernel
theorem dX7_bear_74 : decode cX7_bear 74 = .ok (.imul, 1) := by decide +kernel
theorem dX7_bear_75 : decode cX7_bear 75 = .ok (.iconst 2, 1) := by decide +kernel
theorem dX7_bear_76 : decode cX7_bear 76 = .ok (.iadd, 1) := by decide +kernel
theorem dX7_bear_77 : decode cX7_bear 77 = .ok (.iload_n 3, 1) := by decide +kernel
theorem dX7_bear_78 : decode cX7_bear 78 = .ok (.iastore, 1) := by decide +kernel
theorem dX7_bear_79 : decode cX7_bear 79 = .ok (.aload_n 0, 1) := by decide +kernel
theorem dX7_bear_80 : decode cX7_bear 80 = .ok (.getfield 7, 3) := by decide +kernel
theorem dX7_bear_83 : decode cX7_bear 83 = .ok (.iconst 4, 1) := by decide +kernel
theorem dX7_bear_84 : decode cX7_bear 84 = .ok (.iload 4, 2) := by decide +kernel
theorem dX7_bear_86 : decode cX7_bear 86 = .ok (.imul, 1) := by decide +kernel
theorem dX7_bear_87 : decode cX7_bear 87 = .ok (.iconst 3, 1) := by decide +kernel
theorem dX7_bear_88 : decode cX7_bear 88 = .ok (.iadd, 1) := by decide +kernel
theorem dX7_bear_89 : decode cX7_bear 89 = .ok (.bipush (-4), 2) := by decide +kernel
theorem dX7_bear_91 : decode cX7_bear 91 = .ok (.iastore, 1) := by decide +kernel
theorem dX7_bear_92 : decode cX7_bear 92 = .ok (.aload_n 0, 1) := by decide +kernel
theorem dX7_bear_93 : decode cX7_bear 93 = .ok (.getfield 7, 3) := by decide +kernel
theorem dX7_bear_96 : decode cX7_bear 96 = .ok (.bipush 88, 2) := by decide +kernel
theorem dX7_bear_98 : decode cX7_bear 98 = .ok (.dup2, 1) := by decide +kernel
theorem dX7_bear_99 : decode cX7_bear 99 = .ok (.iaload, 1) := by decide +kernel
theorem dX7_bear_100 : decode cX7_bear 100 = .ok (.iconst 1, 1) := by decide +kernel
theorem dX7_bear_101 : decode cX7_bear 101 = .ok (.iadd, 1) := by decide +kernel
theorem dX7_bear_102 : decode cX7_bear 102 = .ok (.iastore, 1) := by decide +kernel
theorem dX7_bear_103 : decode cX7_bear 103 = .ok (.iload 4, 2) := by decide +kernel
theorem dX7_bear_105 : decode cX7_bear 105 = .ok (.ireturn, 1) := by decide +kernel
set_option maxRecDepth 20000 in
theorem ggX7_die_X7_isOne : GoodIn wsX7_die wsX7_isOne := goodIn_r _ [6, 7, 8, 9, 5, 10, 1, 11, 12, 13, 18, 19, 20, 21, 22, 23, 24, 25, 26, 27, 28, 29, 30, 31, 32, 33, 34, 35, 36, 37, 38, 39, 40, 41, 42, 43, 44, 45, 46, 47, 48, 49, 50, 51, 52, 53, 54, 55] (by decide +kernel) (by decide +kernel)
set_option maxRecDepth 20000 in
theorem gX7_die_X7_isOne : GoodIn wsX7_die (wsV RX7 174 RX7 yX7_isOne wsX7_isOne) := goodIn_app (goodIn_of _ (by decide +kernel)) ggX7_die_X7_isOne
set_option maxRecDepth 20000 in
theorem ggX7_die_X7_isDay : GoodIn wsX7_die wsX7_isDay := goodIn_r _ [16, 17, 11, 12, 5, 13] (by decide +kernel) (by decide +kernel)
set_option maxRecDepth 20000 in
theorem gX7_die_X7_isDay : GoodIn wsX7_die (va_wsS RX7 178 yX7_isDay wsX7_isDay) := goodIn_app (goodIn_of _ (by decide +kernel)) ggX7_die_X7_isDay
theorem dX7_die_0 : decode cX7_die 0 = .ok (.aload_n 0, 1) := by decide +kernel
theorem dX7_die_1 : decode cX7_die 1 = .ok (.iload_n 1, 1) := by decide +kernel
theorem dX7_die_2 : decode cX7_die 2 = .ok (.invokevirtual 174, 3) := by decide +kernel
theorem dX7_die_5 : decode cX7_die 5 = .ok (.ifCond .eq 24, 3) := by decide +kernel
theorem dX7_die_8 : decode cX7_die 8 = .ok (.iload_n 2, 1) := by decide +kernel
theorem dX7_die_9 : decode cX7_die 9 = .ok (.invokestatic 178, 3) := by decide +kernel
theorem dX7_die_12 : decode cX7_die 12 = .ok (.ifCond .eq 17, 3) := by decide +kernel
theorem dX7_die_15 : decode cX7_die 15 = .ok (.iload_n 2, 1) := by decide +kernel
theorem dX7_die_16 : decode cX7_die 16 = .ok (.aload_n 0, 1) := by decide +kernel
theorem dX7_die_17 : decode cX7_die 17 = .ok (.getfield 7, 3) := by decide +kernel
theorem dX7_die_20 : decode cX7_die 20 = .ok (.iconst 4, 1) := by decide +kernel
theorem dX7_die_21 : decode cX7_die 21 = .ok (.iload_n 1, 1) := by decide +kernel
theorem dX7_die_22 : decode cX7_die 22 = .ok (.imul, 1) := by decide +kernel
theorem dX7_die_23 : decode cX7_die 23 = .ok (.iconst 1, 1) := by decide +kernel
theorem dX7_die_24 : decode cX7_die 24 = .ok (.iadd, 1) := by decide +kernel
theorem dX7_die_25 : decode cX7_die 25 = .ok (.iaload, 1) := by decide +kernel
theorem dX7_die_26 : decode cX7_die 26 = .ok (.if_icmp .gt 5, 3) := by decide +kernel
theorem dX7_die_29 : decode cX7_die 29 = .ok (.iconst (-1), 1) := by decide +kernel
theorem dX7_die_30 : decode cX7_die 30 = .ok (.ireturn, 1) := by decide +kernel
theorem dX7_die_31 : decode cX7_die 31 = .ok (.aload_n 0, 1) := by decide +kernel
theorem dX7_die_32 : decode cX7_die 32 = .ok (.getfield 7, 3) := by decide +kernel
theorem dX7_die_35 : decode cX7_die 35 = .ok (.iconst 4, 1) := by decide +kernel
theorem dX7_die_36 : decode cX7_die 36 = .ok (.iload_n 1, 1) := by decide +kernel
theorem dX7_die_37 : decode cX7_die 37 = .ok (.imul, 1) := by decide +kernel
theorem dX7_die_38 : decode cX7_die 38 = .ok (.iconst 3, 1) := by decide +kernel
theorem dX7_die_39 : decode cX7_die 39 = .ok (.iadd, 1) := by decide +kernel
theorem dX7_die_40 : decode cX7_die 40 = .ok (.iaload, 1) := by decide +kernel
theorem dX7_die_41 : decode cX7_die 41 = .ok (.istore_n 3, 1) := by decide +kernel
theorem dX7_die_42 : decode cX7_die 42 = .ok (.aload_n 0, 1) := by decide +kernel
theorem dX7_die_43 : decode cX7_die 43 = .ok (.getfield 7, 3) := by decide +kernel
theorem dX7_die_46 : decode cX7_die 46 = .ok (.iconst 4, 1) := by decide +kernel
theorem dX7_die_47 : decode cX7_die 47 = .ok (.iload_n 1, 1) := by decide +kernel
theorem dX7_die_48 : decode cX7_die 48 = .ok (.imul, 1) := by decide +kernel
theorem dX7_die_49 : decode cX7_die 49 = .ok (.iconst 3, 1) := by decide +kernel
theorem dX7_die_50 : decode cX7_die 50 = .ok (.iadd, 1) := by decide +kernel
theorem dX7_die_51 : decode cX7_die 51 = .ok (.iload_n 2, 1) := by decide +kernel
theorem dX7_die_52 : decode cX7_die 52 = .ok (.iastore, 1) := by decide +kernel
theorem dX7_die_53 : decode cX7_die 53 = .ok (.iload_n 3, 1) := by decide +kernel
theorem dX7_die_54 : decode cX7_die 54 = .ok (.ireturn, 1) := by decide +kernel
set_option maxRecDepth 20000 in
theorem ggX7_moves_X7_isDay : GoodIn wsX7_moves wsX7_isDay := goodIn_r _ [5, 6, 7, 8, 4, 9] (by decide +kernel) (by decide +kernel)
set_option maxRecDepth 20000 in
theorem gX7_moves_X7_isDay : GoodIn wsX7_moves (va_wsS RX7 178 yX7_isDay wsX7_isDay) := goodIn_app (goodIn_of _ (by decide +kernel)) ggX7_moves_X7_isDay
set_option maxRecDepth 20000 in
theorem ggX7_moves_X7_isOne : GoodIn wsX7_moves wsX7_isOne := goodIn_r _ [13, 14, 15, 16, 4, 17, 1, 7, 8, 9, 23, 24, 25, 26, 27, 28, 29, 30, 31, 32, 33, 34, 35, 36, 37, 38, 39, 40, 41, 42, 43, 44, 45, 46, 47, 48, 49, 50, 51, 52, 53, 54, 55, 56, 57, 58, 59, 60] (by decide +kernel) (by decide +kernel)
set_option maxRecDepth 20000 in
theorem gX7_moves_X7_isOne : GoodIn wsX7_moves (wsV RX7 174 RX7 yX7_isOne wsX7_isOne) := goodIn_app (goodIn_of _ (by decide +kernel)) ggX7_moves_X7_isOne
set_option maxRecDepth 20000 in
theorem ggX7_moves_X7_isHouse : GoodIn wsX7_moves wsX7_isHouse := goodIn_r _ [21, 22, 7, 8, 4, 9, 23, 24, 25, 26, 27, 28, 29, 30, 31, 32, 33, 34, 35, 36, 37, 38, 39, 40, 41, 42, 43, 44, 45, 46, 47, 48, 49, 50, 51, 52, 53, 54, 55, 56, 57, 58, 59, 60] (by decide +kernel) (by decide +kernel)
set_option maxRecDepth 20000 in
theorem gX7_moves_X7_isHouse : GoodIn wsX7_moves (wsV RX7 181 RX7 yX7_isHouse wsX7_isHouse) := goodIn_app (goodIn_of _ (by decide +kernel)) ggX7_moves_X7_isHouse
theorem dX7_moves_0 : decode cX7_moves 0 = .ok (.aload_n 0, 1) := by decide +kernel
theorem dX7_moves_1 : decode cX7_moves 1 = .ok (.getfield 7, 3) := by decide +kernel
theorem dX7_moves_4 : decode cX7_moves 4 = .ok (.bipush 89, 2) := by decide +kernel
theorem dX7_moves_6 : decode cX7_moves 6 = .ok (.iaload, 1) := by decide +kernel
theorem dX7_moves_7 : decode cX7_moves 7 = .ok (.istore 4, 2) := by decide +kernel
theorem dX7_moves_9 : decode cX7_moves 9 = .ok (.iload_n 1, 1) := by decide +kernel
theorem dX7_moves_10 : decode cX7_moves 10 = .ok (.invokestatic 178, 3) := by decide +kernel
theorem dX7_moves_13 : decode cX7_moves 13 = .ok (.ifCond .eq 42, 3) := by decide +kernel
theorem dX7_moves_16 : decode cX7_moves 16 = .ok (.aload_n 0, 1) := by decide +kernel
theorem dX7_moves_17 : decode cX7_moves 17 = .ok (.iload_n 2, 1) := by decide +kernel
theorem dX7_moves_18 : decode cX7_moves 18 = .ok (.invokevirtual 174, 3) := by decide +kernel
theorem dX7_moves_21 : decode cX7_moves 21 = .ok (.ifCond .eq 34, 3) := by decide +kernel
theorem dX7_moves_24 : decode cX7_moves 24 = .ok (.aload_n 0, 1) := by decide +kernel
theorem dX7_moves_25 : decode cX7_moves 25 = .ok (.iload_n 3, 1) := by decide +kernel
theorem dX7_moves_26 : decode cX7_moves 26 = .ok (.invokevirtual 181, 3) := by decide +kernel
theorem dX7_moves_29 : decode cX7_moves 29 = .ok (.ifCond .eq 26, 3) := by decide +kernel
theorem dX7_moves_32 : decode cX7_moves 32 = .ok (.iload 4, 2) := by decide +kernel
theorem dX7_moves_34 : decode cX7_moves 34 = .ok (.ifCond .le 23, 3) := by decide +kernel
theorem dX7_moves_37 : decode cX7_moves 37 = .ok (.iload_n 1, 1) := by decide +kernel
theorem dX7_moves_38 : decode cX7_moves 38 = .ok (.aload_n 0, 1) := by decide +kernel
theorem dX7_moves_39 : decode cX7_moves 39 = .ok (.getfield 7, 3) := by decide +kernel
theorem dX7_moves_42 : decode cX7_moves 42 = .ok (.bipush 40, 2) := by decide +kernel
theorem dX7_moves_44 : decode cX7_moves 44 = .ok (.iconst 3, 1) := by decide +kernel
theorem dX7_moves_45 : decode cX7_moves 45 = .ok (.iload 4, 2) := by decide +kernel
theorem dX7_moves_47 : decode cX7_moves 47 = .ok (.imul, 1) := by decide +kernel
theorem dX7_moves_48 : decode cX7_moves 48 = .ok (.iadd, 1) := by decide +kernel
theorem dX7_moves_49 : decode cX7_moves 49 = .ok (.iconst 3, 1) := by decide +kernel
theorem dX7_moves_50 : decode cX7_moves 50 = .ok (.isub, 1) := by decide +kernel
theorem dX7_moves_51 : decode cX7_moves 51 = .ok (.iaload, 1) := by decide +kernel
theorem dX7_moves_52 : decode cX7_moves 52 = .ok (.if_icmp .ge 5, 3) := by decide +kernel
theorem dX7_moves_55 : decode cX7_moves 55 = .ok (.iconst (-1), 1) := by decide +kernel
theorem dX7_moves_56 : decode cX7_moves 56 = .ok (.ireturn, 1) := by decide +kernel
theorem dX7_moves_57 : decode cX7_moves 57 = .ok (.iload 4, 2) := by decide +kernel
theorem dX7_moves_59 : decode cX7_moves 59 = .ok (.bipush 12, 2) := by decide +kernel
theorem dX7_moves_61 : decode cX7_moves 61 = .ok (.if_icmp .ne 6, 3) := by decide +kernel
theorem dX7_moves_64 : decode cX7_moves 64 = .ok (.bipush (-3), 2) := by decide +kernel
theorem dX7_moves_66 : decode cX7_moves 66 = .ok (.ireturn, 1) := by decide +kernel
theorem dX7_moves_67 : decode cX7_moves 67 = .ok (.aload_n 0, 1) := by decide +kernel
theorem dX7_moves_68 : decode cX7_moves 68 = .ok (.getfield 7, 3) := by decide +kernel
theorem dX7_moves_71 : decode cX7_moves 71 = .ok (.bipush 40, 2) := by decide +kernel
theorem dX7_moves_73 : decode cX7_moves 73 = .ok (.iconst 3, 1) := by decide +kernel
theorem dX7_moves_74 : decode cX7_moves 74 = .ok (.iload 4, 2) := by decide +kernel
theorem dX7_moves_76 : decode cX7_moves 76 = .ok (.imul, 1) := by decide +kernel
theorem dX7_moves_77 : decode cX7_moves 77 = .ok (.iadd, 1) := by decide +kernel
theorem dX7_moves_78 : decode cX7_moves 78 = .ok (.iload_n 1, 1) := by decide +kernel
theorem dX7_moves_79 : decode cX7_moves 79 = .ok (.iastore, 1) := by decide +kernel
theorem dX7_moves_80 : decode cX7_moves 80 = .ok (.aload_n 0, 1) := by decide +kernel
theorem dX7_moves_81 : decode cX7_moves 81 = .ok (.getfield 7, 3) := by decide +kernel
theorem dX7_moves_84 : decode cX7_moves 84 = .ok (.bipush 40, 2) := by decide +kernel
theorem dX7_moves_86 : decode cX7_moves 86 = .ok (.iconst 3, 1) := by decide +kernel
theorem dX7_moves_87 : decode cX7_moves 87 = .ok (.iload 4, 2) := by decide +kernel
theorem dX7_moves_89 : decode cX7_moves 89 = .ok (.imul, 1) := by decide +kernel
theorem dX7_moves_90 : decode cX7_moves 90 = .ok (.iadd, 1) := by decide +kernel
theorem dX7_moves_91 : decode cX7_moves 91 = .ok (.iconst 1, 1) := by decide +kernel
theorem dX7_moves_92 : decode cX7_moves 92 = .ok (.iadd, 1) := by decide +kernel
theorem dX7_moves_93 : decode cX7_moves 93 = .ok (.iload_n 2, 1) := by decide +kernel
theorem dX7_moves_94 : decode cX7_moves 94 = .ok (.iastore, 1) := by decide +kernel
theorem dX7_moves_95 : decode cX7_moves 95 = .ok (.aload_n 0, 1) := by decide +kernel
theorem dX7_moves_96 : decode cX7_moves 96 = .ok (.getfield 7, 3) := by decide +kernel
theorem dX7_moves_99 : decode cX7_moves 99 = .ok (.bipush 40, 2) := by decide +kernel
theorem dX7_moves_101 : decode cX7_moves 101 = .ok (.iconst 3, 1) := by decide +kernel
theorem dX7_moves_102 : decode cX7_moves 102 = .ok (.iload 4, 2) := by decide +kernel
theorem dX7_moves_104 : decode cX7_moves 104 = .ok (.imul, 1) := by decide +kernel
theorem dX7_moves_105 : decode cX7_moves 105 = .ok (.iadd, 1) := by decide +kernel
theorem dX7_moves_106 : decode cX7_moves 106 = .ok (.iconst 2, 1) := by decide +kernel
theorem dX7_moves_107 : decode cX7_moves 107 = .ok (.iadd, 1) := by decide +kernel
theorem dX7_moves_108 : decode cX7_moves 108 = .ok (.iload_n 3, 1) := by decide +kernel
theorem dX7_moves_109 : decode cX7_moves 109 = .ok (.iastore, 1) := by decide +kernel
theorem dX7_moves_110 : decode cX7_moves 110 = .ok (.aload_n 0, 1) := by decide +kernel
theorem dX7_moves_111 : decode cX7_moves 111 = .ok (.getfield 7, 3) := by decide +kernel
theorem dX7_moves_114 : decode cX7_moves 114 = .ok (.bipush 89, 2) := by decide +kernel
theorem dX7_moves_116 : decode cX7_moves 116 = .ok (.dup2, 1) := by decide +kernel
theorem dX7_moves_117 : decode cX7_moves 117 = .ok (.iaload, 1) := by decide +kernel
theorem dX7_moves_118 : decode cX7_moves 118 = .ok (.iconst 1, 1) := by decide +kernel
theorem dX7_moves_119 : decode cX7_moves 119 = .ok (.iadd, 1) := by decide +kernel
theorem dX7_moves_120 : decode cX7_moves 120 = .ok (.iastore, 1) := by decide +kernel
theorem dX7_moves_121 : decode cX7_moves 121 = .ok (.iload 4, 2) := by decide +kernel
theorem dX7_moves_123 : decode cX7_moves 123 = .ok (.iconst 1, 1) := by decide +kernel
theorem dX7_moves_124 : decode cX7_moves 124 = .ok (.iadd, 1) := by decide +kernel
theorem dX7_moves_125 : decode cX7_moves 125 = .ok (.ireturn, 1) := by decide +kernel
set_option maxRecDepth 20000 in
theorem ggX7_move_X7_moves : GoodIn wsX7_move wsX7_moves := goodIn_r _ [5, 6, 7, 8, 4, 9, 10, 11, 12, 13, 14, 15, 16, 17, 18, 19, 20, 21, 22, 23, 24, 25, 26, 27, 28, 29, 30, 31, 32, 33, 34, 35, 36, 37, 38, 39, 40, 41, 42, 43, 44, 45, 46, 47, 48, 49, 50, 51, 52, 53, 54, 55, 56, 57, 58, 59, 60, 61, 62, 63, 64] (by decide +kernel) (by decide +kernel)
set_option maxRecDepth 20000 in
theorem gX7_move_X7_moves : GoodIn wsX7_move (wsV RX7 184 RX7 yX7_moves wsX7_moves) := goodIn_app (goodIn_of _ (by decide +kernel)) ggX7_move_X7_moves
theorem dX7_move_0 : decode cX7_move 0 = .ok (.aload_n 0, 1) := by decide +kernel
theorem dX7_move_1 : decode cX7_move 1 = .ok (.iload_n 1, 1) := by decide +kernel
theorem dX7_move_2 : decode cX7_move 2 = .ok (.iload_n 2, 1) := by decide +kernel
theorem dX7_move_3 : decode cX7_move 3 = .ok (.iload_n 3, 1) := by decide +kernel
theorem dX7_move_4 : decode cX7_move 4 = .ok (.invokevirtual 184, 3) := by decide +kernel
theorem dX7_move_7 : decode cX7_move 7 = .ok (.ireturn, 1) := by decide +kernel
set_option maxRecDepth 20000 in
theorem ggX7_undo_X7_in : GoodIn wsX7_undo wsX7_in := goodIn_r _ [5] (by decide +kernel) (by decide +kernel)
set_option maxRecDepth 20000 in
theorem gX7_undo_X7_in : GoodIn wsX7_undo (va_wsS RX7 66 yX7_in wsX7_in) := goodIn_app (goodIn_of _ (by decide +kernel)) ggX7_undo_X7_in
theorem dX7_undo_0 : decode cX7_undo 0 = .ok (.iload_n 1, 1) := by decide +kernel
theorem dX7_undo_1 : decode cX7_undo 1 = .ok (.i2l, 1) := by decide +kernel
theorem dX7_undo_2 : decode cX7_undo 2 = .ok (.lconst 0, 1) := by decide +kernel
theorem dX7_undo_3 : decode cX7_undo 3 = .ok (.aload_n 0, 1) := by decide +kernel
theorem dX7_undo_4 : decode cX7_undo 4 = .ok (.getfield 7, 3) := by decide +kernel
theorem dX7_undo_7 : decode cX7_undo 7 = .ok (.bipush 89, 2) := by decide +kernel
theorem dX7_undo_9 : decode cX7_undo 9 = .ok (.iaload, 1) := by decide +kernel
theorem dX7_undo_10 : decode cX7_undo 10 = .ok (.i2l, 1) := by decide +kernel
theorem dX7_undo_11 : decode cX7_undo 11 = .ok (.invokestatic 66, 3) := by decide +kernel
theorem dX7_undo_14 : decode cX7_undo 14 = .ok (.ifCond .ne 5, 3) := by decide +kernel
theorem dX7_undo_17 : decode cX7_undo 17 = .ok (.iconst (-1), 1) := by decide +kernel
theorem dX7_undo_18 : decode cX7_undo 18 = .ok (.ireturn, 1) := by decide +kernel
theorem dX7_undo_19 : decode cX7_undo 19 = .ok (.aload_n 0, 1) := by decide +kernel
theorem dX7_undo_20 : decode cX7_undo 20 = .ok (.getfield 7, 3) := by decide +kernel
theorem dX7_undo_23 : decode cX7_undo 23 = .ok (.bipush 89, 2) := by decide +kernel
theorem dX7_undo_25 : decode cX7_undo 25 = .ok (.iaload, 1) := by decide +kernel
theorem dX7_undo_26 : decode cX7_undo 26 = .ok (.istore_n 2, 1) := by decide +kernel
theorem dX7_undo_27 : decode cX7_undo 27 = .ok (.aload_n 0, 1) := by decide +kernel
theorem dX7_undo_28 : decode cX7_undo 28 = .ok (.getfield 7, 3) := by decide +kernel
theorem dX7_undo_31 : decode cX7_undo 31 = .ok (.bipush 89, 2) := by decide +kernel
theorem dX7_undo_33 : decode cX7_undo 33 = .ok (.iload_n 1, 1) := by decide +kernel
theorem dX7_undo_34 : decode cX7_undo 34 = .ok (.iastore, 1) := by decide +kernel
theorem dX7_undo_35 : decode cX7_undo 35 = .ok (.iload_n 2, 1) := by decide +kernel
theorem dX7_undo_36 : decode cX7_undo 36 = .ok (.ireturn, 1) := by decide +kernel
theorem dX7_isAlive_0 : decode cX7_isAlive 0 = .ok (.aload_n 0, 1) := by decide +kernel
theorem dX7_isAlive_1 : decode cX7_isAlive 1 = .ok (.getfield 7, 3) := by decide +kernel
theorem dX7_isAlive_4 : decode cX7_isAlive 4 = .ok (.iload_n 1, 1) := by decide +kernel
theorem dX7_isAlive_5 : decode cX7_isAlive 5 = .ok (.iconst 4, 1) := by decide +kernel
theorem dX7_isAlive_6 : decode cX7_isAlive 6 = .ok (.iload_n 2, 1) := by decide +kernel
theorem dX7_isAlive_7 : decode cX7_isAlive 7 = .ok (.imul, 1) := by decide +kernel
theorem dX7_isAlive_8 : decode cX7_isAlive 8 = .ok (.iadd, 1) := by decide +kernel
theorem dX7_isAlive_9 : decode cX7_isAlive 9 = .ok (.iconst 3, 1) := by decide +kernel
theorem dX7_isAlive_10 : decode cX7_isAlive 10 = .ok (.iadd, 1) := by decide +kernel
theorem dX7_isAlive_11 : decode cX7_isAlive 11 = .ok (.iaload, 1) := by decide +kernel
theorem dX7_isAlive_12 : decode cX7_isAlive 12 = .ok (.istore 4, 2) := by decide +kernel
theorem dX7_isAlive_14 : decode cX7_isAlive 14 = .ok (.aload_n 0, 1) := by decide +kernel
theorem dX7_isAlive_15 : decode cX7_isAlive 15 = .ok (.getfield 7, 3) := by decide +kernel
theorem dX7_isAlive_18 : decode cX7_isAlive 18 = .ok (.iload_n 1, 1) := by decide +kernel
theorem dX7_isAlive_19 : decode cX7_isAlive 19 = .ok (.iconst 4, 1) := by decide +kernel
theorem dX7_isAlive_20 : decode cX7_isAlive 20 = .ok (.iload_n 2, 1) := by decide +kernel
theorem dX7_isAlive_21 : decode cX7_isAlive 21 = .ok (.imul, 1) := by decide +kernel
theorem dX7_isAlive_22 : decode cX7_isAlive 22 = .ok (.iadd, 1) := by decide +kernel
theorem dX7_isAlive_23 : decode cX7_isAlive 23 = .ok (.iconst 1, 1) := by decide +kernel
theorem dX7_isAlive_24 : decode cX7_isAlive 24 = .ok (.iadd, 1) := by decide +kernel
theorem dX7_isAlive_25 : decode cX7_isAlive 25 = .ok (.iaload, 1) := by decide +kernel
theorem dX7_isAlive_26 : decode cX7_isAlive 26 = .ok (.iload_n 3, 1) := by decide +kernel
theorem dX7_isAlive_27 : decode cX7_isAlive 27 = .ok (.if_icmp .gt 20, 3) := by decide +kernel
theorem dX7_isAlive_30 : decode cX7_isAlive 30 = .ok (.iload 4, 2) := by decide +kernel
theorem dX7_isAlive_32 : decode cX7_isAlive 32 = .ok (.bipush (-4), 2) := by decide +kernel
theorem dX7_isAlive_34 : decode cX7_isAlive 34 = .ok (.if_icmp .eq 9, 3) := by decide +kernel
theorem dX7_isAlive_37 : decode cX7_isAlive 37 = .ok (.iload_n 3, 1) := by decide +kernel
theorem dX7_isAlive_38 : decode cX7_isAlive 38 = .ok (.iload 4, 2) := by decide +kernel
theorem dX7_isAlive_40 : decode cX7_isAlive 40 = .ok (.if_icmp .ge 7, 3) := by decide +kernel
theorem dX7_isAlive_43 : decode cX7_isAlive 43 = .ok (.iconst 1, 1) := by decide +kernel
theorem dX7_isAlive_44 : decode cX7_isAlive 44 = .ok (.goto 4, 3) := by decide +kernel
theorem dX7_isAlive_47 : decode cX7_isAlive 47 = .ok (.iconst 0, 1) := by decide +kernel
theorem dX7_isAlive_48 : decode cX7_isAlive 48 = .ok (.ireturn, 1) := by decide +kernel
theorem dX7_homeOf_0 : decode cX7_homeOf 0 = .ok (.aload_n 0, 1) := by decide +kernel
theorem dX7_homeOf_1 : decode cX7_homeOf 1 = .ok (.getfield 7, 3) := by decide +kernel
theorem dX7_homeOf_4 : decode cX7_homeOf 4 = .ok (.iload_n 1, 1) := by decide +kernel
theorem dX7_homeOf_5 : decode cX7_homeOf 5 = .ok (.iconst 4, 1) := by decide +kernel
theorem dX7_homeOf_6 : decode cX7_homeOf 6 = .ok (.iload_n 2, 1) := by decide +kernel
theorem dX7_homeOf_7 : decode cX7_homeOf 7 = .ok (.imul, 1) := by decide +kernel
theorem dX7_homeOf_8 : decode cX7_homeOf 8 = .ok (.iadd, 1) := by decide +kernel
theorem dX7_homeOf_9 : decode cX7_homeOf 9 = .ok (.iconst 2, 1) := by decide +kernel
theorem dX7_homeOf_10 : decode cX7_homeOf 10 = .ok (.iadd, 1) := by decide +kernel
theorem dX7_homeOf_11 : decode cX7_homeOf 11 = .ok (.iaload, 1) := by decide +kernel
theorem dX7_homeOf_12 : decode cX7_homeOf 12 = .ok (.istore 4, 2) := by decide +kernel
theorem dX7_homeOf_14 : decode cX7_homeOf 14 = .ok (.iconst 0, 1) := by decide +kernel
theorem dX7_homeOf_15 : decode cX7_homeOf 15 = .ok (.istore 5, 2) := by decide +kernel
theorem dX7_homeOf_17 : decode cX7_homeOf 17 = .ok (.iload 5, 2) := by decide +kernel
theorem dX7_homeOf_19 : decode cX7_homeOf 19 = .ok (.aload_n 0, 1) := by decide +kernel
theorem dX7_homeOf_20 : decode cX7_homeOf 20 = .ok (.getfield 7, 3) := by decide +kernel
theorem dX7_homeOf_23 : decode cX7_homeOf 23 = .ok (.iload_n 1, 1) := by decide +kernel
theorem dX7_homeOf_24 : decode cX7_homeOf 24 = .ok (.bipush 89, 2) := by decide +kernel
theorem dX7_homeOf_26 : decode cX7_homeOf 26 = .ok (.iadd, 1) := by decide +kernel
theorem dX7_homeOf_27 : decode cX7_homeOf 27 = .ok (.iaload, 1) := by decide +kernel
theorem dX7_homeOf_28 : decode cX7_homeOf 28 = .ok (.if_icmp .ge 60, 3) := by decide +kernel
theorem dX7_homeOf_31 : decode cX7_homeOf 31 = .ok (.iload_n 1, 1) := by decide +kernel
theorem dX7_homeOf_32 : decode cX7_homeOf 32 = .ok (.bipush 40, 2) := by decide +kernel
theorem dX7_homeOf_34 : decode cX7_homeOf 34 = .ok (.iadd, 1) := by decide +kernel
theorem dX7_homeOf_35 : decode cX7_homeOf 35 = .ok (.iconst 3, 1) := by decide +kernel
theorem dX7_homeOf_36 : decode cX7_homeOf 36 = .ok (.iload 5, 2) := by decide +kernel
theorem dX7_homeOf_38 : decode cX7_homeOf 38 = .ok (.imul, 1) := by decide +kernel
theorem dX7_homeOf_39 : decode cX7_homeOf 39 = .ok (.iadd, 1) := by decide +kernel
theorem dX7_homeOf_40 : decode cX7_homeOf 40 = .ok (.istore 6, 2) := by decide +kernel
theorem dX7_homeOf_42 : decode cX7_homeOf 42 = .ok (.aload_n 0, 1) := by decide +kernel
theorem dX7_homeOf_43 : decode cX7_homeOf 43 = .ok (.getfield 7, 3) := by decide +kernel
theorem dX7_homeOf_46 : decode cX7_homeOf 46 = .ok (.iload 6, 2) := by decide +kernel
theorem dX7_homeOf_48 : decode cX7_homeOf 48 = .ok (.iconst 1, 1) := by decide +kernel
theorem dX7_homeOf_49 : decode cX7_homeOf 49 = .ok (.iadd, 1) := by decide +kernel
theorem dX7_homeOf_50 : decode cX7_homeOf 50 = .ok (.iaload, 1) := by decide +kernel
theorem dX7_homeOf_51 : decode cX7_homeOf 51 = .ok (.iload_n 2, 1) := by decide +kernel
theorem dX7_homeOf_52 : decode cX7_homeOf 52 = .ok (.if_icmp .ne 26, 3) := by decide +kernel
theorem dX7_homeOf_55 : decode cX7_homeOf 55 = .ok (.aload_n 0, 1) := by decide +kernel
theorem dX7_homeOf_56 : decode cX7_homeOf 56 = .ok (.getfield 7, 3) := by decide +kernel
theorem dX7_homeOf_59 : decode cX7_homeOf 59 = .ok (.iload 6, 2) := by decide +kernel
theorem dX7_homeOf_61 : decode cX7_homeOf 61 = .ok (.iaload, 1) := by decide +kernel
theorem dX7_homeOf_62 : decode cX7_homeOf 62 = .ok (.iload_n 3, 1) := by decide +kernel
theorem dX7_homeOf_63 : decode cX7_homeOf 63 = .ok (.if_icmp .gt 15, 3) := by decide +kernel
theorem dX7_homeOf_66 : decode cX7_homeOf 66 = .ok (.aload_n 0, 1) := by decide +kernel
theorem dX7_homeOf_67 : decode cX7_homeOf 67 = .ok (.getfield 7, 3) := by decide +kernel
theorem dX7_homeOf_70 : decode cX7_homeOf 70 = .ok (.iload 6, 2) := by decide +kernel
theorem dX7_homeOf_72 : decode cX7_homeOf 72 = .ok (.iconst 2, 1) := by decide +kernel
theorem dX7_homeOf_73 : decode cX7_homeOf 73 = .ok (.iadd, 1) := by decide +kernel
theorem dX7_homeOf_74 : decode cX7_homeOf 74 = .ok (.iaload, 1) := by decide +kernel
theorem dX7_homeOf_75 : decode cX7_homeOf 75 = .ok (.goto 5, 3) := by decide +kernel
theorem dX7_homeOf_78 : decode cX7_homeOf 78 = .ok (.iload 4, 2) := by decide +kernel
theorem dX7_homeOf_80 : decode cX7_homeOf 80 = .ok (.istore 4, 2) := by decide +kernel
theorem dX7_homeOf_82 : decode cX7_homeOf 82 = .ok (.iinc 5 1, 3) := by decide +kernel
theorem dX7_homeOf_85 : decode cX7_homeOf 85 = .ok (.goto (-68), 3) := by decide +kernel
theorem dX7_homeOf_88 : decode cX7_homeOf 88 = .ok (.iload 4, 2) := by decide +kernel
theorem dX7_homeOf_90 : decode cX7_homeOf 90 = .ok (.ireturn, 1) := by decide +kernel
set_option maxRecDepth 20000 in
theorem ggX7_years_X7_isOne : GoodIn wsX7_years wsX7_isOne := goodIn_r _ [6, 7, 8, 9, 5, 10, 1, 11, 12, 13, 22, 23, 24, 25, 26, 27, 28, 29, 30, 31, 32, 33, 34, 35, 36, 37, 38, 39, 40, 41, 42, 43, 44, 45, 46, 47, 48, 49, 50, 51, 52, 53, 54, 55, 56, 57, 58, 59] (by decide +kernel) (by decide +kernel)
set_option maxRecDepth 20000 in
theorem gX7_years_X7_isOne : GoodIn wsX7_years (wsV RX7 174 RX7 yX7_isOne wsX7_isOne) := goodIn_app (goodIn_of _ (by decide +kernel)) ggX7_years_X7_isOne
set_option maxRecDepth 20000 in
theorem ggX7_years_X7_isDay : GoodIn wsX7_years wsX7_isDay := goodIn_r _ [16, 17, 11, 12, 5, 13] (by decide +kernel) (by decide +kernel)
set_option maxRecDepth 20000 in
theorem gX7_years_X7_isDay : GoodIn wsX7_years (va_wsS RX7 178 yX7_isDay wsX7_isDay) := goodIn_app (goodIn_of _ (by decide +kernel)) ggX7_years_X7_isDay
set_option maxRecDepth 20000 in
theorem ggX7_years_X7_isAlive : GoodIn wsX7_years wsX7_isAlive := goodIn_r _ [21, 1, 22, 23, 24, 25, 26, 27, 28, 29, 30, 31, 32, 33, 34, 35, 36, 37, 38, 39, 40, 41, 42, 43, 44, 45, 46, 47, 48, 49, 50, 51, 52, 53, 54, 55, 56, 57, 58, 59] (by decide +kernel) (by decide +kernel)
set_option maxRecDepth 20000 in
theorem gX7_years_X7_isAlive : GoodIn wsX7_years (wsV RX7 188 RX7 yX7_isAlive wsX7_isAlive) := goodIn_app (goodIn_of _ (by decide +kernel)) ggX7_years_X7_isAlive
theorem dX7_years_0 : decode cX7_years 0 = .ok (.aload_n 0, 1) := by decide +kernel
theorem dX7_years_1 : decode cX7_years 1 = .ok (.iload_n 1, 1) := by decide +kernel
theorem dX7_years_2 : decode cX7_years 2 = .ok (.invokevirtual 174, 3) := by decide +kernel
theorem dX7_years_5 : decode cX7_years 5 = .ok (.ifCond .eq 10, 3) := by decide +kernel
theorem dX7_years_8 : decode cX7_years 8 = .ok (.iload_n 2, 1) := by decide +kernel
theorem dX7_years_9 : decode cX7_years 9 = .ok (.invokestatic 178, 3) := by decide +kernel
theorem dX7_years_12 : decode cX7_years 12 = .ok (.ifCond .ne 5, 3) := by decide +kernel
theorem dX7_years_15 : decode cX7_years 15 = .ok (.iconst (-1), 1) := by decide +kernel
theorem dX7_years_16 : decode cX7_years 16 = .ok (.ireturn, 1) := by decide +kernel
theorem dX7_years_17 : decode cX7_years 17 = .ok (.aload_n 0, 1) := by decide +kernel
theorem dX7_years_18 : decode cX7_years 18 = .ok (.iconst 0, 1) := by decide +kernel
theorem dX7_years_19 : decode cX7_years 19 = .ok (.iload_n 1, 1) := by decide +kernel
theorem dX7_years_20 : decode cX7_years 20 = .ok (.iload_n 2, 1) := by decide +kernel
theorem dX7_years_21 : decode cX7_years 21 = .ok (.invokevirtual 188, 3) := by decide +kernel
theorem dX7_years_24 : decode cX7_years 24 = .ok (.ifCond .eq 22, 3) := by decide +kernel
theorem dX7_years_27 : decode cX7_years 27 = .ok (.iload_n 2, 1) := by decide +kernel
theorem dX7_years_28 : decode cX7_years 28 = .ok (.aload_n 0, 1) := by decide +kernel
theorem dX7_years_29 : decode cX7_years 29 = .ok (.getfield 7, 3) := by decide +kernel
theorem dX7_years_32 : decode cX7_years 32 = .ok (.iconst 4, 1) := by decide +kernel
theorem dX7_years_33 : decode cX7_years 33 = .ok (.iload_n 1, 1) := by decide +kernel
theorem dX7_years_34 : decode cX7_years 34 = .ok (.imul, 1) := by decide +kernel
theorem dX7_years_35 : decode cX7_years 35 = .ok (.iconst 1, 1) := by decide +kernel
theorem dX7_years_36 : decode cX7_years 36 = .ok (.iadd, 1) := by decide +kernel
theorem dX7_years_37 : decode cX7_years 37 = .ok (.iaload, 1) := by decide +kernel
theorem dX7_years_38 : decode cX7_years 38 = .ok (.isub, 1) := by decide +kernel
theorem dX7_years_39 : decode cX7_years 39 = .ok (.sipush 360, 3) := by decide +kernel
theorem dX7_years_42 : decode cX7_years 42 = .ok (.idiv, 1) := by decide +kernel
theorem dX7_years_43 : decode cX7_years 43 = .ok (.goto 5, 3) := by decide +kernel
theorem dX7_years_46 : decode cX7_years 46 = .ok (.bipush (-4), 2) := by decide +kernel
theorem dX7_years_48 : decode cX7_years 48 = .ok (.ireturn, 1) := by decide +kernel
set_option maxRecDepth 20000 in
theorem ggX7_lives_X7_isOne : GoodIn wsX7_lives wsX7_isOne := goodIn_r _ [5, 6, 7, 8, 4, 9, 10, 11, 12, 13, 26, 27, 28, 29, 30, 31, 32, 33, 34, 35, 36, 37, 38, 39, 40, 41, 42, 43, 44, 45, 46, 47, 48, 49, 50, 51, 52, 53, 54, 55, 56, 57, 58, 59, 60, 61, 62, 63] (by decide +kernel) (by decide +kernel)
set_option maxRecDepth 20000 in
theorem gX7_lives_X7_isOne : GoodIn wsX7_lives (wsV RX7 174 RX7 yX7_isOne wsX7_isOne) := goodIn_app (goodIn_of _ (by decide +kernel)) ggX7_lives_X7_isOne
set_option maxRecDepth 20000 in
theorem ggX7_lives_X7_isDay : GoodIn wsX7_lives wsX7_isDay := goodIn_r _ [16, 17, 11, 12, 4, 13] (by decide +kernel) (by decide +kernel)
set_option maxRecDepth 20000 in
theorem gX7_lives_X7_isDay : GoodIn wsX7_lives (va_wsS RX7 178 yX7_isDay wsX7_isDay) := goodIn_app (goodIn_of _ (by decide +kernel)) ggX7_lives_X7_isDay
set_option maxRecDepth 20000 in
theorem ggX7_lives_X7_isAlive : GoodIn wsX7_lives wsX7_isAlive := goodIn_r _ [21, 10, 26, 27, 28, 29, 30, 31, 32, 33, 34, 35, 36, 37, 38, 39, 40, 41, 42, 43, 44, 45, 46, 47, 48, 49, 50, 51, 52, 53, 54, 55, 56, 57, 58, 59, 60, 61, 62, 63] (by decide +kernel) (by decide +kernel)
set_option maxRecDepth 20000 in
theorem gX7_lives_X7_isAlive : GoodIn wsX7_lives (wsV RX7 188 RX7 yX7_isAlive wsX7_isAlive) := goodIn_app (goodIn_of _ (by decide +kernel)) ggX7_lives_X7_isAlive
set_option maxRecDepth 20000 in
theorem ggX7_lives_X7_homeOf : GoodIn wsX7_lives wsX7_homeOf := goodIn_r _ [25, 10, 26, 27, 28, 29, 30, 31, 32, 33, 34, 35, 36, 37, 38, 39, 40, 41, 42, 43, 44, 45, 46, 47, 48, 49, 50, 51, 52, 53, 54, 55, 56, 57, 58, 59, 60, 61, 62, 63] (by decide +kernel) (by decide +kernel)
set_option maxRecDepth 20000 in
theorem gX7_lives_X7_homeOf : GoodIn wsX7_lives (wsV RX7 192 RX7 yX7_homeOf wsX7_homeOf) := goodIn_app (goodIn_of _ (by decide +kernel)) ggX7_lives_X7_homeOf
theorem dX7_lives_0 : decode cX7_lives 0 = .ok (.aload_n 0, 1) := by decide +kernel
theorem dX7_lives_1 : decode cX7_lives 1 = .ok (.iload_n 1, 1) := by decide +kernel
theorem dX7_lives_2 : decode cX7_lives 2 = .ok (.invokevirtual 174, 3) := by decide +kernel
theorem dX7_lives_5 : decode cX7_lives 5 = .ok (.ifCond .eq 10, 3) := by decide +kernel
theorem dX7_lives_8 : decode cX7_lives 8 = .ok (.iload_n 2, 1) := by decide +kernel
theorem dX7_lives_9 : decode cX7_lives 9 = .ok (.invokestatic 178, 3) := by decide +kernel
theorem dX7_lives_12 : decode cX7_lives 12 = .ok (.ifCond .ne 5, 3) := by decide +kernel
theorem dX7_lives_15 : decode cX7_lives 15 = .ok (.iconst (-1), 1) := by decide +kernel
theorem dX7_lives_16 : decode cX7_lives 16 = .ok (.ireturn, 1) := by decide +kernel
theorem dX7_lives_17 : decode cX7_lives 17 = .ok (.aload_n 0, 1) := by decide +kernel
theorem dX7_lives_18 : decode cX7_lives 18 = .ok (.iconst 0, 1) := by decide +kernel
theorem dX7_lives_19 : decode cX7_lives 19 = .ok (.iload_n 1, 1) := by decide +kernel
theorem dX7_lives_20 : decode cX7_lives 20 = .ok (.iload_n 2, 1) := by decide +kernel
theorem dX7_lives_21 : decode cX7_lives 21 = .ok (.invokevirtual 188, 3) := by decide +kernel
theorem dX7_lives_24 : decode cX7_lives 24 = .ok (.ifCond .eq 13, 3) := by decide +kernel
theorem dX7_lives_27 : decode cX7_lives 27 = .ok (.aload_n 0, 1) := by decide +kernel
theorem dX7_lives_28 : decode cX7_lives 28 = .ok (.iconst 0, 1) := by decide +kernel
theorem dX7_lives_29 : decode cX7_lives 29 = .ok (.iload_n 1, 1) := by decide +kernel
theorem dX7_lives_30 : decode cX7_lives 30 = .ok (.iload_n 2, 1) := by decide +kernel
theorem dX7_lives_31 : decode cX7_lives 31 = .ok (.invokevirtual 192, 3) := by decide +kernel
theorem dX7_lives_34 : decode cX7_lives 34 = .ok (.goto 5, 3) := by decide +kernel
theorem dX7_lives_37 : decode cX7_lives 37 = .ok (.bipush (-4), 2) := by decide +kernel
theorem dX7_lives_39 : decode cX7_lives 39 = .ok (.ireturn, 1) := by decide +kernel
theorem dX7_empties_0 : decode cX7_empties 0 = .ok (.aload_n 0, 1) := by decide +kernel
theorem dX7_empties_1 : decode cX7_empties 1 = .ok (.iconst 0, 1) := by decide +kernel
theorem dX7_empties_2 : decode cX7_empties 2 = .ok (.putfield 195, 3) := by decide +kernel
theorem dX7_empties_5 : decode cX7_empties 5 = .ok (.aload_n 0, 1) := by decide +kernel
theorem dX7_empties_6 : decode cX7_empties 6 = .ok (.iconst 0, 1) := by decide +kernel
theorem dX7_empties_7 : decode cX7_empties 7 = .ok (.putfield 198, 3) := by decide +kernel
theorem dX7_empties_10 : decode cX7_empties 10 = .ok (.return_, 1) := by decide +kernel
theorem dX7_tells_0 : decode cX7_tells 0 = .ok (.aload_n 0, 1) := by decide +kernel
theorem dX7_tells_1 : decode cX7_tells 1 = .ok (.aload_n 0, 1) := by decide +kernel
theorem dX7_tells_2 : decode cX7_tells 2 = .ok (.getfield 195, 3) := by decide +kernel
theorem dX7_tells_5 : decode cX7_tells 5 = .ok (.ifCond .eq 11, 3) := by decide +kernel
theorem dX7_tells_8 : decode cX7_tells 8 = .ok (.iload_n 1, 1) := by decide +kernel
theorem dX7_tells_9 : decode cX7_tells 9 = .ok (.aload_n 0, 1) := by decide +kernel
theorem dX7_tells_10 : decode cX7_tells 10 = .ok (.getfield 201, 3) := by decide +kernel
theorem dX7_tells_13 : decode cX7_tells 13 = .ok (.if_icmp .le 7, 3) := by decide +kernel
theorem dX7_tells_16 : decode cX7_tells 16 = .ok (.iload_n 1, 1) := by decide +kernel
theorem dX7_tells_17 : decode cX7_tells 17 = .ok (.goto 7, 3) := by decide +kernel
theorem dX7_tells_20 : decode cX7_tells 20 = .ok (.aload_n 0, 1) := by decide +kernel
theorem dX7_tells_21 : decode cX7_tells 21 = .ok (.getfield 201, 3) := by decide +kernel
theorem dX7_tells_24 : decode cX7_tells 24 = .ok (.putfield 201, 3) := by decide +kernel
theorem dX7_tells_27 : decode cX7_tells 27 = .ok (.aload_n 0, 1) := by decide +kernel
theorem dX7_tells_28 : decode cX7_tells 28 = .ok (.aload_n 0, 1) := by decide +kernel
theorem dX7_tells_29 : decode cX7_tells 29 = .ok (.getfield 195, 3) := by decide +kernel
theorem dX7_tells_32 : decode cX7_tells 32 = .ok (.ifCond .eq 11, 3) := by decide +kernel
theorem dX7_tells_35 : decode cX7_tells 35 = .ok (.iload_n 1, 1) := by decide +kernel
theorem dX7_tells_36 : decode cX7_tells 36 = .ok (.aload_n 0, 1) := by decide +kernel
theorem dX7_tells_37 : decode cX7_tells 37 = .ok (.getfield 204, 3) := by decide +kernel
theorem dX7_tells_40 : decode cX7_tells 40 = .ok (.if_icmp .ge 7, 3) := by decide +kernel
theorem dX7_tells_43 : decode cX7_tells 43 = .ok (.iload_n 1, 1) := by decide +kernel
theorem dX7_tells_44 : decode cX7_tells 44 = .ok (.goto 7, 3) := by decide +kernel
theorem dX7_tells_47 : decode cX7_tells 47 = .ok (.aload_n 0, 1) := by decide +kernel
theorem dX7_tells_48 : decode cX7_tells 48 = .ok (.getfield 204, 3) := by decide +kernel
theorem dX7_tells_51 : decode cX7_tells 51 = .ok (.putfield 204, 3) := by decide +kernel
theorem dX7_tells_54 : decode cX7_tells 54 = .ok (.aload_n 0, 1) := by decide +kernel
theorem dX7_tells_55 : decode cX7_tells 55 = .ok (.dup, 1) := by decide +kernel
theorem dX7_tells_56 : decode cX7_tells 56 = .ok (.getfield 195, 3) := by decide +kernel
theorem dX7_tells_59 : decode cX7_tells 59 = .ok (.iload_n 2, 1) := by decide +kernel
theorem dX7_tells_60 : decode cX7_tells 60 = .ok (.iadd, 1) := by decide +kernel
theorem dX7_tells_61 : decode cX7_tells 61 = .ok (.putfield 195, 3) := by decide +kernel
theorem dX7_tells_64 : decode cX7_tells 64 = .ok (.aload_n 0, 1) := by decide +kernel
theorem dX7_tells_65 : decode cX7_tells 65 = .ok (.dup, 1) := by decide +kernel
theorem dX7_tells_66 : decode cX7_tells 66 = .ok (.getfield 198, 3) := by decide +kernel
theorem dX7_tells_69 : decode cX7_tells 69 = .ok (.iload_n 2, 1) := by decide +kernel
theorem dX7_tells_70 : decode cX7_tells 70 = .ok (.iload_n 1, 1) := by decide +kernel
theorem dX7_tells_71 : decode cX7_tells 71 = .ok (.imul, 1) := by decide +kernel
theorem dX7_tells_72 : decode cX7_tells 72 = .ok (.iadd, 1) := by decide +kernel
theorem dX7_tells_73 : decode cX7_tells 73 = .ok (.putfield 198, 3) := by decide +kernel
theorem dX7_tells_76 : decode cX7_tells 76 = .ok (.return_, 1) := by decide +kernel
set_option maxRecDepth 20000 in
theorem ggX7_tellsOf_X7_tells : GoodIn wsX7_tellsOf wsX7_tells := goodIn_r _ [6, 7, 8, 9, 10, 11, 12, 13, 14, 15, 16, 17, 18, 19, 20, 21, 22, 23, 24, 25, 26, 27, 28, 29, 30, 31, 32, 33, 34, 35, 36, 37, 38, 39, 40, 41, 42, 43, 44, 45, 46, 47, 48] (by decide +kernel) (by decide +kernel)
set_option maxRecDepth 20000 in
theorem gX7_tellsOf_X7_tells : GoodIn wsX7_tellsOf (wsV RX7 207 RX7 yX7_tells wsX7_tells) := goodIn_app (goodIn_of _ (by decide +kernel)) ggX7_tellsOf_X7_tells
theorem dX7_tellsOf_0 : decode cX7_tellsOf 0 = .ok (.aload_n 0, 1) := by decide +kernel
theorem dX7_tellsOf_1 : decode cX7_tellsOf 1 = .ok (.getfield 7, 3) := by decide +kernel
theorem dX7_tellsOf_4 : decode cX7_tellsOf 4 = .ok (.iload_n 1, 1) := by decide +kernel
theorem dX7_tellsOf_5 : decode cX7_tellsOf 5 = .ok (.iconst 4, 1) := by decide +kernel
theorem dX7_tellsOf_6 : decode cX7_tellsOf 6 = .ok (.iload_n 2, 1) := by decide +kernel
theorem dX7_tellsOf_7 : decode cX7_tellsOf 7 = .ok (.imul, 1) := by decide +kernel
theorem dX7_tellsOf_8 : decode cX7_tellsOf 8 = .ok (.iadd, 1) := by decide +kernel
theorem dX7_tellsOf_9 : decode cX7_tellsOf 9 = .ok (.iaload, 1) := by decide +kernel
theorem dX7_tellsOf_10 : decode cX7_tellsOf 10 = .ok (.istore 4, 2) := by decide +kernel
theorem dX7_tellsOf_12 : decode cX7_tellsOf 12 = .ok (.iload_n 3, 1) := by decide +kernel
theorem dX7_tellsOf_13 : decode cX7_tellsOf 13 = .ok (.aload_n 0, 1) := by decide +kernel
theorem dX7_tellsOf_14 : decode cX7_tellsOf 14 = .ok (.getfield 7, 3) := by decide +kernel
theorem dX7_tellsOf_17 : decode cX7_tellsOf 17 = .ok (.iload_n 1, 1) := by decide +kernel
theorem dX7_tellsOf_18 : decode cX7_tellsOf 18 = .ok (.iconst 4, 1) := by decide +kernel
theorem dX7_tellsOf_19 : decode cX7_tellsOf 19 = .ok (.iload_n 2, 1) := by decide +kernel
theorem dX7_tellsOf_20 : decode cX7_tellsOf 20 = .ok (.imul, 1) := by decide +kernel
theorem dX7_tellsOf_21 : decode cX7_tellsOf 21 = .ok (.iadd, 1) := by decide +kernel
theorem dX7_tellsOf_22 : decode cX7_tellsOf 22 = .ok (.iconst 1, 1) := by decide +kernel
theorem dX7_tellsOf_23 : decode cX7_tellsOf 23 = .ok (.iadd, 1) := by decide +kernel
theorem dX7_tellsOf_24 : decode cX7_tellsOf 24 = .ok (.iaload, 1) := by decide +kernel
theorem dX7_tellsOf_25 : decode cX7_tellsOf 25 = .ok (.isub, 1) := by decide +kernel
theorem dX7_tellsOf_26 : decode cX7_tellsOf 26 = .ok (.sipush 360, 3) := by decide +kernel
theorem dX7_tellsOf_29 : decode cX7_tellsOf 29 = .ok (.idiv, 1) := by decide +kernel
theorem dX7_tellsOf_30 : decode cX7_tellsOf 30 = .ok (.istore 5, 2) := by decide +kernel
theorem dX7_tellsOf_32 : decode cX7_tellsOf 32 = .ok (.iload 4, 2) := by decide +kernel
theorem dX7_tellsOf_34 : decode cX7_tellsOf 34 = .ok (.iconst 2, 1) := by decide +kernel
theorem dX7_tellsOf_35 : decode cX7_tellsOf 35 = .ok (.if_icmp .ne 20, 3) := by decide +kernel
theorem dX7_tellsOf_38 : decode cX7_tellsOf 38 = .ok (.iload 5, 2) := by decide +kernel
theorem dX7_tellsOf_40 : decode cX7_tellsOf 40 = .ok (.iconst 3, 1) := by decide +kernel
theorem dX7_tellsOf_41 : decode cX7_tellsOf 41 = .ok (.if_icmp .le 10, 3) := by decide +kernel
theorem dX7_tellsOf_44 : decode cX7_tellsOf 44 = .ok (.iload 5, 2) := by decide +kernel
theorem dX7_tellsOf_46 : decode cX7_tellsOf 46 = .ok (.iconst 3, 1) := by decide +kernel
theorem dX7_tellsOf_47 : decode cX7_tellsOf 47 = .ok (.isub, 1) := by decide +kernel
theorem dX7_tellsOf_48 : decode cX7_tellsOf 48 = .ok (.goto 9, 3) := by decide +kernel
theorem dX7_tellsOf_51 : decode cX7_tellsOf 51 = .ok (.iconst 0, 1) := by decide +kernel
theorem dX7_tellsOf_52 : decode cX7_tellsOf 52 = .ok (.goto 5, 3) := by decide +kernel
theorem dX7_tellsOf_55 : decode cX7_tellsOf 55 = .ok (.iload 5, 2) := by decide +kernel
theorem dX7_tellsOf_57 : decode cX7_tellsOf 57 = .ok (.istore 5, 2) := by decide +kernel
theorem dX7_tellsOf_59 : decode cX7_tellsOf 59 = .ok (.iload 4, 2) := by decide +kernel
theorem dX7_tellsOf_61 : decode cX7_tellsOf 61 = .ok (.iconst 4, 1) := by decide +kernel
theorem dX7_tellsOf_62 : decode cX7_tellsOf 62 = .ok (.if_icmp .eq 20, 3) := by decide +kernel
theorem dX7_tellsOf_65 : decode cX7_tellsOf 65 = .ok (.aload_n 0, 1) := by decide +kernel
theorem dX7_tellsOf_66 : decode cX7_tellsOf 66 = .ok (.iload 5, 2) := by decide +kernel
theorem dX7_tellsOf_68 : decode cX7_tellsOf 68 = .ok (.iload 4, 2) := by decide +kernel
theorem dX7_tellsOf_70 : decode cX7_tellsOf 70 = .ok (.iconst 3, 1) := by decide +kernel
theorem dX7_tellsOf_71 : decode cX7_tellsOf 71 = .ok (.if_icmp .ne 7, 3) := by decide +kernel
theorem dX7_tellsOf_74 : decode cX7_tellsOf 74 = .ok (.iconst 2, 1) := by decide +kernel
theorem dX7_tellsOf_75 : decode cX7_tellsOf 75 = .ok (.goto 4, 3) := by decide +kernel
theorem dX7_tellsOf_78 : decode cX7_tellsOf 78 = .ok (.iconst 1, 1) := by decide +kernel
theorem dX7_tellsOf_79 : decode cX7_tellsOf 79 = .ok (.invokevirtual 207, 3) := by decide +kernel
theorem dX7_tellsOf_82 : decode cX7_tellsOf 82 = .ok (.return_, 1) := by decide +kernel
theorem dX7_toldBy_0 : decode cX7_toldBy 0 = .ok (.aload_n 0, 1) := by decide +kernel
theorem dX7_toldBy_1 : decode cX7_toldBy 1 = .ok (.getfield 195, 3) := by decide +kernel
theorem dX7_toldBy_4 : decode cX7_toldBy 4 = .ok (.ifCond .ne 6, 3) := by decide +kernel
theorem dX7_toldBy_7 : decode cX7_toldBy 7 = .ok (.bipush (-4), 2) := by decide +kernel
theorem dX7_toldBy_9 : decode cX7_toldBy 9 = .ok (.ireturn, 1) := by decide +kernel
theorem dX7_toldBy_10 : decode cX7_toldBy 10 = .ok (.iload_n 1, 1) := by decide +kernel
theorem dX7_toldBy_11 : decode cX7_toldBy 11 = .ok (.ifCond .ne 10, 3) := by decide +kernel
theorem dX7_toldBy_14 : decode cX7_toldBy 14 = .ok (.aload_n 0, 1) := by decide +kernel
theorem dX7_toldBy_15 : decode cX7_toldBy 15 = .ok (.getfield 201, 3) := by decide +kernel
theorem dX7_toldBy_18 : decode cX7_toldBy 18 = .ok (.goto 36, 3) := by decide +kernel
theorem dX7_toldBy_21 : decode cX7_toldBy 21 = .ok (.iload_n 1, 1) := by decide +kernel
theorem dX7_toldBy_22 : decode cX7_toldBy 22 = .ok (.iconst 1, 1) := by decide +kernel
theorem dX7_toldBy_23 : decode cX7_toldBy 23 = .ok (.if_icmp .ne 10, 3) := by decide +kernel
theorem dX7_toldBy_26 : decode cX7_toldBy 26 = .ok (.aload_n 0, 1) := by decide +kernel
theorem dX7_toldBy_27 : decode cX7_toldBy 27 = .ok (.getfield 204, 3) := by decide +kernel
theorem dX7_toldBy_30 : decode cX7_toldBy 30 = .ok (.goto 24, 3) := by decide +kernel
theorem dX7_toldBy_33 : decode cX7_toldBy 33 = .ok (.iload_n 1, 1) := by decide +kernel
theorem dX7_toldBy_34 : decode cX7_toldBy 34 = .ok (.iconst 2, 1) := by decide +kernel
theorem dX7_toldBy_35 : decode cX7_toldBy 35 = .ok (.if_icmp .ne 10, 3) := by decide +kernel
theorem dX7_toldBy_38 : decode cX7_toldBy 38 = .ok (.aload_n 0, 1) := by decide +kernel
theorem dX7_toldBy_39 : decode cX7_toldBy 39 = .ok (.getfield 198, 3) := by decide +kernel
theorem dX7_toldBy_42 : decode cX7_toldBy 42 = .ok (.goto 12, 3) := by decide +kernel
theorem dX7_toldBy_45 : decode cX7_toldBy 45 = .ok (.aload_n 0, 1) := by decide +kernel
theorem dX7_toldBy_46 : decode cX7_toldBy 46 = .ok (.getfield 198, 3) := by decide +kernel
theorem dX7_toldBy_49 : decode cX7_toldBy 49 = .ok (.aload_n 0, 1) := by decide +kernel
theorem dX7_toldBy_50 : decode cX7_toldBy 50 = .ok (.getfield 195, 3) := by decide +kernel
theorem dX7_toldBy_53 : decode cX7_toldBy 53 = .ok (.idiv, 1) := by decide +kernel
theorem dX7_toldBy_54 : decode cX7_toldBy 54 = .ok (.ireturn, 1) := by decide +kernel
set_option maxRecDepth 20000 in
theorem ggX7_layHouse_X7_empties : GoodIn wsX7_layHouse wsX7_empties := goodIn_r _ [6, 7, 8, 27, 28, 29, 30, 31, 32, 33, 34, 35, 36, 37, 38, 39, 40, 41, 42, 43, 44, 45, 46, 47, 48, 49, 50, 51, 52, 53, 54, 55, 56, 57, 58, 59, 60, 61, 62, 63, 64] (by decide +kernel) (by decide +kernel)
set_option maxRecDepth 20000 in
theorem gX7_layHouse_X7_empties : GoodIn wsX7_layHouse (wsV RX7 211 RX7 yX7_empties wsX7_empties) := goodIn_app (goodIn_of _ (by decide +kernel)) ggX7_layHouse_X7_empties
set_option maxRecDepth 20000 in
theorem ggX7_layHouse_X7_isAlive : GoodIn wsX7_layHouse wsX7_isAlive := goodIn_r _ [12, 1, 27, 28, 29, 30, 31, 32, 33, 34, 35, 36, 37, 38, 39, 40, 41, 42, 43, 44, 45, 46, 47, 48, 49, 50, 51, 52, 53, 54, 55, 56, 57, 58, 59, 60, 61, 62, 63, 64] (by decide +kernel) (by decide +kernel)
set_option maxRecDepth 20000 in
theorem gX7_layHouse_X7_isAlive : GoodIn wsX7_layHouse (wsV RX7 188 RX7 yX7_isAlive wsX7_isAlive) := goodIn_app (goodIn_of _ (by decide +kernel)) ggX7_layHouse_X7_isAlive
set_option maxRecDepth 20000 in
theorem ggX7_layHouse_X7_homeOf : GoodIn wsX7_layHouse wsX7_homeOf := goodIn_r _ [16, 1, 27, 28, 29, 30, 31, 32, 33, 34, 35, 36, 37, 38, 39, 40, 41, 42, 43, 44, 45, 46, 47, 48, 49, 50, 51, 52, 53, 54, 55, 56, 57, 58, 59, 60, 61, 62, 63, 64] (by decide +kernel) (by decide +kernel)
set_option maxRecDepth 20000 in
theorem gX7_layHouse_X7_homeOf : GoodIn wsX7_layHouse (wsV RX7 192 RX7 yX7_homeOf wsX7_homeOf) := goodIn_app (goodIn_of _ (by decide +kernel)) ggX7_layHouse_X7_homeOf
set_option maxRecDepth 20000 in
theorem ggX7_layHouse_X7_tellsOf : GoodIn wsX7_layHouse wsX7_tellsOf := goodIn_r _ [20, 1, 21, 22, 23, 5, 24, 7, 25, 26, 8, 27, 28, 29, 30, 31, 32, 33, 34, 35, 36, 37, 38, 39, 40, 41, 42, 43, 44, 45, 46, 47, 48, 49, 50, 51, 52, 53, 54, 55, 56, 57, 58, 59, 60, 61, 62, 63, 64] (by decide +kernel) (by decide +kernel)
set_option maxRecDepth 20000 in
theorem gX7_layHouse_X7_tellsOf : GoodIn wsX7_layHouse (wsV RX7 214 RX7 yX7_tellsOf wsX7_tellsOf) := goodIn_app (goodIn_of _ (by decide +kernel)) ggX7_layHouse_X7_tellsOf
theorem dX7_layHouse_0 : decode cX7_layHouse 0 = .ok (.aload_n 0, 1) := by decide +kernel
theorem dX7_layHouse_1 : decode cX7_layHouse 1 = .ok (.invokevirtual 211, 3) := by decide +kernel
theorem dX7_layHouse_4 : decode cX7_layHouse 4 = .ok (.iconst 0, 1) := by decide +kernel
theorem dX7_layHouse_5 : decode cX7_layHouse 5 = .ok (.istore 4, 2) := by decide +kernel
theorem dX7_layHouse_7 : decode cX7_layHouse 7 = .ok (.iload 4, 2) := by decide +kernel
theorem dX7_layHouse_9 : decode cX7_layHouse 9 = .ok (.aload_n 0, 1) := by decide +kernel
theorem dX7_layHouse_10 : decode cX7_layHouse 10 = .ok (.getfield 7, 3) := by decide +kernel
theorem dX7_layHouse_13 : decode cX7_layHouse 13 = .ok (.iload_n 1, 1) := by decide +kernel
theorem dX7_layHouse_14 : decode cX7_layHouse 14 = .ok (.bipush 88, 2) := by decide +kernel
theorem dX7_layHouse_16 : decode cX7_layHouse 16 = .ok (.iadd, 1) := by decide +kernel
theorem dX7_layHouse_17 : decode cX7_layHouse 17 = .ok (.iaload, 1) := by decide +kernel
theorem dX7_layHouse_18 : decode cX7_layHouse 18 = .ok (.if_icmp .ge 40, 3) := by decide +kernel
theorem dX7_layHouse_21 : decode cX7_layHouse 21 = .ok (.aload_n 0, 1) := by decide +kernel
theorem dX7_layHouse_22 : decode cX7_layHouse 22 = .ok (.iload_n 1, 1) := by decide +kernel
theorem dX7_layHouse_23 : decode cX7_layHouse 23 = .ok (.iload 4, 2) := by decide +kernel
theorem dX7_layHouse_25 : decode cX7_layHouse 25 = .ok (.iload_n 3, 1) := by decide +kernel
theorem dX7_layHouse_26 : decode cX7_layHouse 26 = .ok (.invokevirtual 188, 3) := by decide +kernel
theorem dX7_layHouse_29 : decode cX7_layHouse 29 = .ok (.ifCond .eq 23, 3) := by decide +kernel
theorem dX7_layHouse_32 : decode cX7_layHouse 32 = .ok (.aload_n 0, 1) := by decide +kernel
theorem dX7_layHouse_33 : decode cX7_layHouse 33 = .ok (.iload_n 1, 1) := by decide +kernel
theorem dX7_layHouse_34 : decode cX7_layHouse 34 = .ok (.iload 4, 2) := by decide +kernel
theorem dX7_layHouse_36 : decode cX7_layHouse 36 = .ok (.iload_n 3, 1) := by decide +kernel
theorem dX7_layHouse_37 : decode cX7_layHouse 37 = .ok (.invokevirtual 192, 3) := by decide +kernel
theorem dX7_layHouse_40 : decode cX7_layHouse 40 = .ok (.iload_n 2, 1) := by decide +kernel
theorem dX7_layHouse_41 : decode cX7_layHouse 41 = .ok (.if_icmp .ne 11, 3) := by decide +kernel
theorem dX7_layHouse_44 : decode cX7_layHouse 44 = .ok (.aload_n 0, 1) := by decide +kernel
theorem dX7_layHouse_45 : decode cX7_layHouse 45 = .ok (.iload_n 1, 1) := by decide +kernel
theorem dX7_layHouse_46 : decode cX7_layHouse 46 = .ok (.iload 4, 2) := by decide +kernel
theorem dX7_layHouse_48 : decode cX7_layHouse 48 = .ok (.iload_n 3, 1) := by decide +kernel
theorem dX7_layHouse_49 : decode cX7_layHouse 49 = .ok (.invokevirtual 214, 3) := by decide +kernel
theorem dX7_layHouse_52 : decode cX7_layHouse 52 = .ok (.iinc 4 1, 3) := by decide +kernel
theorem dX7_layHouse_55 : decode cX7_layHouse 55 = .ok (.goto (-48), 3) := by decide +kernel
theorem dX7_layHouse_58 : decode cX7_layHouse 58 = .ok (.return_, 1) := by decide +kernel
set_option maxRecDepth 20000 in
theorem ggX7_numberOf_X7_layHouse : GoodIn wsX7_numberOf wsX7_layHouse := goodIn_r _ [5, 6, 7, 8, 9, 4, 10, 11, 12, 13, 14, 15, 16, 17, 18, 19, 20, 21, 22, 23, 24, 25, 26, 27, 28, 29, 30, 35, 36, 37, 38, 39, 40, 41, 42, 43, 44, 45, 46, 47, 48, 49, 50, 51, 52, 53, 54, 55, 56, 57, 58, 59, 60, 61, 62, 63, 64, 65, 66, 67, 68, 69, 70, 71, 72] (by decide +kernel) (by decide +kernel)
set_option maxRecDepth 20000 in
theorem gX7_numberOf_X7_layHouse : GoodIn wsX7_numberOf (wsV RX7 218 RX7 yX7_layHouse wsX7_layHouse) := goodIn_app (goodIn_of _ (by decide +kernel)) ggX7_numberOf_X7_layHouse
set_option maxRecDepth 20000 in
theorem ggX7_numberOf_X7_toldBy : GoodIn wsX7_numberOf wsX7_toldBy := goodIn_r _ [34, 11, 29, 30, 12, 35, 36, 37, 38, 39, 40, 41, 42, 43, 44, 45, 46, 47, 48, 49, 50, 51, 52, 53, 54, 55, 56, 57, 58, 59, 60, 61, 62, 63, 64, 65, 66, 67, 68, 69, 70, 71, 72] (by decide +kernel) (by decide +kernel)
set_option maxRecDepth 20000 in
theorem gX7_numberOf_X7_toldBy : GoodIn wsX7_numberOf (wsV RX7 221 RX7 yX7_toldBy wsX7_toldBy) := goodIn_app (goodIn_of _ (by decide +kernel)) ggX7_numberOf_X7_toldBy
theorem dX7_numberOf_0 : decode cX7_numberOf 0 = .ok (.aload_n 0, 1) := by decide +kernel
theorem dX7_numberOf_1 : decode cX7_numberOf 1 = .ok (.iload_n 1, 1) := by decide +kernel
theorem dX7_numberOf_2 : decode cX7_numberOf 2 = .ok (.iload_n 2, 1) := by decide +kernel
theorem dX7_numberOf_3 : decode cX7_numberOf 3 = .ok (.iload_n 3, 1) := by decide +kernel
theorem dX7_numberOf_4 : decode cX7_numberOf 4 = .ok (.invokevirtual 218, 3) := by decide +kernel
theorem dX7_numberOf_7 : decode cX7_numberOf 7 = .ok (.aload_n 0, 1) := by decide +kernel
theorem dX7_numberOf_8 : decode cX7_numberOf 8 = .ok (.iload 4, 2) := by decide +kernel
theorem dX7_numberOf_10 : decode cX7_numberOf 10 = .ok (.invokevirtual 221, 3) := by decide +kernel
theorem dX7_numberOf_13 : decode cX7_numberOf 13 = .ok (.ireturn, 1) := by decide +kernel
set_option maxRecDepth 20000 in
theorem ggX7_numberNow_X7_numberOf : GoodIn wsX7_numberNow wsX7_numberOf := goodIn_r _ [6, 7, 8, 9, 5, 10, 1, 11, 12, 13, 14, 15, 16, 17, 18, 19, 20, 21, 22, 23, 24, 25, 26, 27, 28, 29, 30, 31, 32, 33, 34, 35, 36, 37, 38, 39, 40, 41, 42, 43, 44, 45, 46, 47, 48, 49, 50, 51, 52, 53, 54, 55, 56, 57, 58, 59, 60, 61, 62, 63, 64, 65, 66, 67, 68, 69, 70, 71, 72, 73, 74, 75, 76] (by decide +kernel) (by decide +kernel)
set_option maxRecDepth 20000 in
theorem gX7_numberNow_X7_numberOf : GoodIn wsX7_numberNow (wsV RX7 224 RX7 yX7_numberOf wsX7_numberOf) := goodIn_app (goodIn_of _ (by decide +kernel)) ggX7_numberNow_X7_numberOf
theorem dX7_numberNow_0 : decode cX7_numberNow 0 = .ok (.aload_n 0, 1) := by decide +kernel
theorem dX7_numberNow_1 : decode cX7_numberNow 1 = .ok (.iconst 0, 1) := by decide +kernel
theorem dX7_numberNow_2 : decode cX7_numberNow 2 = .ok (.iload_n 1, 1) := by decide +kernel
theorem dX7_numberNow_3 : decode cX7_numberNow 3 = .ok (.iload_n 2, 1) := by decide +kernel
theorem dX7_numberNow_4 : decode cX7_numberNow 4 = .ok (.aload_n 0, 1) := by decide +kernel
theorem dX7_numberNow_5 : decode cX7_numberNow 5 = .ok (.getfield 7, 3) := by decide +kernel
theorem dX7_numberNow_8 : decode cX7_numberNow 8 = .ok (.bipush 91, 2) := by decide +kernel
theorem dX7_numberNow_10 : decode cX7_numberNow 10 = .ok (.iaload, 1) := by decide +kernel
theorem dX7_numberNow_11 : decode cX7_numberNow 11 = .ok (.invokevirtual 224, 3) := by decide +kernel
theorem dX7_numberNow_14 : decode cX7_numberNow 14 = .ok (.ireturn, 1) := by decide +kernel
set_option maxRecDepth 20000 in
theorem ggX7_number_X7_isHouse : GoodIn wsX7_number wsX7_isHouse := goodIn_r _ [5, 6, 7, 8, 4, 9, 55, 56, 57, 58, 59, 60, 61, 62, 63, 64, 65, 66, 67, 68, 69, 70, 71, 72, 73, 74, 75, 76, 77, 78, 79, 80, 81, 82, 83, 84, 85, 86, 87, 88, 89, 90, 91, 92] (by decide +kernel) (by decide +kernel)
set_option maxRecDepth 20000 in
theorem gX7_number_X7_isHouse : GoodIn wsX7_number (wsV RX7 181 RX7 yX7_isHouse wsX7_isHouse) := goodIn_app (goodIn_of _ (by decide +kernel)) ggX7_number_X7_isHouse
set_option maxRecDepth 20000 in
theorem ggX7_number_X7_isDay : GoodIn wsX7_number wsX7_isDay := goodIn_r _ [12, 13, 7, 8, 4, 9] (by decide +kernel) (by decide +kernel)
set_option maxRecDepth 20000 in
theorem gX7_number_X7_isDay : GoodIn wsX7_number (va_wsS RX7 178 yX7_isDay wsX7_isDay) := goodIn_app (goodIn_of _ (by decide +kernel)) ggX7_number_X7_isDay
set_option maxRecDepth 20000 in
theorem ggX7_number_X7_numberNow : GoodIn wsX7_number wsX7_numberNow := goodIn_r _ [17, 18, 19, 20, 21, 4, 22, 23, 24, 25, 26, 27, 28, 29, 30, 31, 32, 33, 34, 35, 36, 37, 38, 39, 40, 41, 42, 43, 44, 45, 46, 47, 48, 49, 50, 51, 52, 53, 54, 55, 56, 57, 58, 59, 60, 61, 62, 63, 64, 65, 66, 67, 68, 69, 70, 71, 72, 73, 74, 75, 76, 77, 78, 79, 80, 81, 82, 83, 84, 85, 86, 87, 88, 89, 90, 91, 92] (by decide +kernel) (by decide +kernel)
set_option maxRecDepth 20000 in
theorem gX7_number_X7_numberNow : GoodIn wsX7_number (wsV RX7 228 RX7 yX7_numberNow wsX7_numberNow) := goodIn_app (goodIn_of _ (by decide +kernel)) ggX7_number_X7_numberNow
theorem dX7_number_0 : decode cX7_number 0 = .ok (.aload_n 0, 1) := by decide +kernel
theorem dX7_number_1 : decode cX7_number 1 = .ok (.iload_n 1, 1) := by decide +kernel
theorem dX7_number_2 : decode cX7_number 2 = .ok (.invokevirtual 181, 3) := by decide +kernel
theorem dX7_number_5 : decode cX7_number 5 = .ok (.ifCond .eq 19, 3) := by decide +kernel
theorem dX7_number_8 : decode cX7_number 8 = .ok (.iload_n 2, 1) := by decide +kernel
theorem dX7_number_9 : decode cX7_number 9 = .ok (.invokestatic 178, 3) := by decide +kernel
theorem dX7_number_12 : decode cX7_number 12 = .ok (.ifCond .eq 12, 3) := by decide +kernel
theorem dX7_number_15 : decode cX7_number 15 = .ok (.aload_n 0, 1) := by decide +kernel
theorem dX7_number_16 : decode cX7_number 16 = .ok (.iload_n 1, 1) := by decide +kernel
theorem dX7_number_17 : decode cX7_number 17 = .ok (.iload_n 2, 1) := by decide +kernel
theorem dX7_number_18 : decode cX7_number 18 = .ok (.invokevirtual 228, 3) := by decide +kernel
theorem dX7_number_21 : decode cX7_number 21 = .ok (.goto 4, 3) := by decide +kernel
theorem dX7_number_24 : decode cX7_number 24 = .ok (.iconst (-1), 1) := by decide +kernel
theorem dX7_number_25 : decode cX7_number 25 = .ok (.ireturn, 1) := by decide +kernel
set_option maxRecDepth 20000 in
theorem ggX7_with_X7_numberNow : GoodIn wsX7_with wsX7_numberNow := goodIn_r _ [6, 7, 8, 9, 10, 5, 11, 12, 13, 14, 15, 16, 17, 18, 19, 20, 21, 22, 23, 24, 25, 26, 27, 28, 29, 30, 31, 32, 33, 34, 35, 36, 37, 38, 39, 40, 41, 42, 43, 44, 45, 46, 47, 48, 49, 50, 51, 52, 53, 54, 55, 56, 57, 58, 59, 60, 61, 62, 63, 64, 65, 66, 67, 68, 69, 70, 71, 72, 73, 74, 75, 76, 77, 78, 79, 80, 81] (by decide +kernel) (by decide +kernel)
set_option maxRecDepth 20000 in
theorem gX7_with_X7_numberNow : GoodIn wsX7_with (wsV RX7 228 RX7 yX7_numberNow wsX7_numberNow) := goodIn_app (goodIn_of _ (by decide +kernel)) ggX7_with_X7_numberNow
theorem dX7_with_0 : decode cX7_with 0 = .ok (.iconst 0, 1) := by decide +kernel
theorem dX7_with_1 : decode cX7_with 1 = .ok (.istore_n 3, 1) := by decide +kernel
theorem dX7_with_2 : decode cX7_with 2 = .ok (.iconst 0, 1) := by decide +kernel
theorem dX7_with_3 : decode cX7_with 3 = .ok (.istore 4, 2) := by decide +kernel
theorem dX7_with_5 : decode cX7_with 5 = .ok (.iload 4, 2) := by decide +kernel
theorem dX7_with_7 : decode cX7_with 7 = .ok (.aload_n 0, 1) := by decide +kernel
theorem dX7_with_8 : decode cX7_with 8 = .ok (.getfield 13, 3) := by decide +kernel
theorem dX7_with_11 : decode cX7_with 11 = .ok (.if_icmp .ge 57, 3) := by decide +kernel
theorem dX7_with_14 : decode cX7_with 14 = .ok (.aload_n 0, 1) := by decide +kernel
theorem dX7_with_15 : decode cX7_with 15 = .ok (.iload 4, 2) := by decide +kernel
theorem dX7_with_17 : decode cX7_with 17 = .ok (.iload_n 2, 1) := by decide +kernel
theorem dX7_with_18 : decode cX7_with 18 = .ok (.invokevirtual 228, 3) := by decide +kernel
theorem dX7_with_21 : decode cX7_with 21 = .ok (.istore 5, 2) := by decide +kernel
theorem dX7_with_23 : decode cX7_with 23 = .ok (.iload_n 3, 1) := by decide +kernel
theorem dX7_with_24 : decode cX7_with 24 = .ok (.iload_n 1, 1) := by decide +kernel
theorem dX7_with_25 : decode cX7_with 25 = .ok (.ifCond .ge 21, 3) := by decide +kernel
theorem dX7_with_28 : decode cX7_with 28 = .ok (.iload 5, 2) := by decide +kernel
theorem dX7_with_30 : decode cX7_with 30 = .ok (.bipush (-4), 2) := by decide +kernel
theorem dX7_with_32 : decode cX7_with 32 = .ok (.if_icmp .ne 10, 3) := by decide +kernel
theorem dX7_with_35 : decode cX7_with 35 = .ok (.iconst 1, 1) := by decide +kernel
theorem dX7_with_36 : decode cX7_with 36 = .ok (.iload 4, 2) := by decide +kernel
theorem dX7_with_38 : decode cX7_with 38 = .ok (.ishl, 1) := by decide +kernel
theorem dX7_with_39 : decode cX7_with 39 = .ok (.goto 21, 3) := by decide +kernel
theorem dX7_with_42 : decode cX7_with 42 = .ok (.iconst 0, 1) := by decide +kernel
theorem dX7_with_43 : decode cX7_with 43 = .ok (.goto 17, 3) := by decide +kernel
theorem dX7_with_46 : decode cX7_with 46 = .ok (.iload 5, 2) := by decide +kernel
theorem dX7_with_48 : decode cX7_with 48 = .ok (.iload_n 1, 1) := by decide +kernel
theorem dX7_with_49 : decode cX7_with 49 = .ok (.if_icmp .ne 10, 3) := by decide +kernel
theorem dX7_with_52 : decode cX7_with 52 = .ok (.iconst 1, 1) := by decide +kernel
theorem dX7_with_53 : decode cX7_with 53 = .ok (.iload 4, 2) := by decide +kernel
theorem dX7_with_55 : decode cX7_with 55 = .ok (.ishl, 1) := by decide +kernel
theorem dX7_with_56 : decode cX7_with 56 = .ok (.goto 4, 3) := by decide +kernel
theorem dX7_with_59 : decode cX7_with 59 = .ok (.iconst 0, 1) := by decide +kernel
theorem dX7_with_60 : decode cX7_with 60 = .ok (.ior, 1) := by decide +kernel
theorem dX7_with_61 : decode cX7_with 61 = .ok (.istore_n 3, 1) := by decide +kernel
theorem dX7_with_62 : decode cX7_with 62 = .ok (.iinc 4 1, 3) := by decide +kernel
theorem dX7_with_65 : decode cX7_with 65 = .ok (.goto (-60), 3) := by decide +kernel
theorem dX7_with_68 : decode cX7_with 68 = .ok (.iload_n 3, 1) := by decide +kernel
theorem dX7_with_69 : decode cX7_with 69 = .ok (.ireturn, 1) := by decide +kernel
set_option maxRecDepth 20000 in
theorem ggX7_at_X7_isDay : GoodIn wsX7_at wsX7_isDay := goodIn_r _ [4, 5, 6, 7, 3, 8] (by decide +kernel) (by decide +kernel)
set_option maxRecDepth 20000 in
theorem gX7_at_X7_isDay : GoodIn wsX7_at (va_wsS RX7 178 yX7_isDay wsX7_isDay) := goodIn_app (goodIn_of _ (by decide +kernel)) ggX7_at_X7_isDay
set_option maxRecDepth 20000 in
theorem ggX7_at_X7_with : GoodIn wsX7_at wsX7_with := goodIn_r _ [12, 13, 14, 15, 16, 3, 17, 18, 19, 20, 21, 22, 23, 24, 25, 26, 27, 28, 29, 30, 31, 32, 33, 34, 35, 36, 37, 38, 39, 40, 41, 42, 43, 44, 45, 46, 47, 48, 49, 50, 51, 52, 53, 54, 55, 56, 57, 58, 59, 60, 61, 62, 63, 64, 65, 66, 67, 68, 69, 70, 71, 72, 73, 74, 75, 76, 77, 78, 79, 80, 81, 82, 83, 84, 85, 86, 87, 88, 89, 90, 91, 92] (by decide +kernel) (by decide +kernel)
set_option maxRecDepth 20000 in
theorem gX7_at_X7_with : GoodIn wsX7_at (wsV RX7 231 RX7 yX7_with wsX7_with) := goodIn_app (goodIn_of _ (by decide +kernel)) ggX7_at_X7_with
theorem dX7_at_0 : decode cX7_at 0 = .ok (.iload_n 2, 1) := by decide +kernel
theorem dX7_at_1 : decode cX7_at 1 = .ok (.invokestatic 178, 3) := by decide +kernel
theorem dX7_at_4 : decode cX7_at 4 = .ok (.ifCond .eq 12, 3) := by decide +kernel
theorem dX7_at_7 : decode cX7_at 7 = .ok (.aload_n 0, 1) := by decide +kernel
theorem dX7_at_8 : decode cX7_at 8 = .ok (.iload_n 1, 1) := by decide +kernel
theorem dX7_at_9 : decode cX7_at 9 = .ok (.iload_n 2, 1) := by decide +kernel
theorem dX7_at_10 : decode cX7_at 10 = .ok (.invokevirtual 231, 3) := by decide +kernel
theorem dX7_at_13 : decode cX7_at 13 = .ok (.goto 4, 3) := by decide +kernel
theorem dX7_at_16 : decode cX7_at 16 = .ok (.iconst (-1), 1) := by decide +kernel
theorem dX7_at_17 : decode cX7_at 17 = .ok (.ireturn, 1) := by decide +kernel
set_option maxRecDepth 20000 in
theorem ggX7_twins_X7_isDay : GoodIn wsX7_twins wsX7_isDay := goodIn_r _ [5, 6, 7, 8, 4, 9] (by decide +kernel) (by decide +kernel)
set_option maxRecDepth 20000 in
theorem gX7_twins_X7_isDay : GoodIn wsX7_twins (va_wsS RX7 178 yX7_isDay wsX7_isDay) := goodIn_app (goodIn_of _ (by decide +kernel)) ggX7_twins_X7_isDay
set_option maxRecDepth 20000 in
theorem ggX7_twins_X7_numberNow : GoodIn wsX7_twins wsX7_numberNow := goodIn_r _ [13, 14, 15, 16, 17, 4, 18, 19, 20, 21, 22, 23, 24, 25, 26, 27, 28, 29, 30, 31, 32, 33, 34, 35, 36, 37, 38, 39, 40, 41, 42, 43, 44, 45, 46, 47, 48, 49, 50, 55, 56, 57, 58, 59, 60, 61, 62, 63, 64, 65, 66, 67, 68, 69, 70, 71, 72, 73, 74, 75, 76, 77, 78, 79, 80, 81, 82, 83, 84, 85, 86, 87, 88, 89, 90, 91, 92] (by decide +kernel) (by decide +kernel)
set_option maxRecDepth 20000 in
theorem gX7_twins_X7_numberNow : GoodIn wsX7_twins (wsV RX7 228 RX7 yX7_numberNow wsX7_numberNow) := goodIn_app (goodIn_of _ (by decide +kernel)) ggX7_twins_X7_numberNow
set_option maxRecDepth 20000 in
theorem ggX7_twins_X7_with : GoodIn wsX7_twins wsX7_with := goodIn_r _ [54, 1, 10, 11, 12, 4, 13, 14, 15, 16, 17, 18, 19, 20, 21, 22, 23, 24, 25, 26, 27, 28, 29, 30, 31, 32, 33, 34, 35, 36, 37, 38, 39, 40, 41, 42, 43, 44, 45, 46, 47, 48, 49, 50, 55, 56, 57, 58, 59, 60, 61, 62, 63, 64, 65, 66, 67, 68, 69, 70, 71, 72, 73, 74, 75, 76, 77, 78, 79, 80, 81, 82, 83, 84, 85, 86, 87, 88, 89, 90, 91, 92] (by decide +kernel) (by decide +kernel)
set_option maxRecDepth 20000 in
theorem gX7_twins_X7_with : GoodIn wsX7_twins (wsV RX7 231 RX7 yX7_with wsX7_with) := goodIn_app (goodIn_of _ (by decide +kernel)) ggX7_twins_X7_with
theorem dX7_twins_0 : decode cX7_twins 0 = .ok (.iload_n 1, 1) := by decide +kernel
theorem dX7_twins_1 : decode cX7_twins 1 = .ok (.invokestatic 178, 3) := by decide +kernel
theorem dX7_twins_4 : decode cX7_twins 4 = .ok (.ifCond .ne 5, 3) := by decide +kernel
theorem dX7_twins_7 : decode cX7_twins 7 = .ok (.iconst (-1), 1) := by decide +kernel
theorem dX7_twins_8 : decode cX7_twins 8 = .ok (.ireturn, 1) := by decide +kernel
theorem dX7_twins_9 : decode cX7_twins 9 = .ok (.iconst 0, 1) := by decide +kernel
theorem dX7_twins_10 : decode cX7_twins 10 = .ok (.istore_n 2, 1) := by decide +kernel
theorem dX7_twins_11 : decode cX7_twins 11 = .ok (.iconst 0, 1) := by decide +kernel
theorem dX7_twins_12 : decode cX7_twins 12 = .ok (.istore_n 3, 1) := by decide +kernel
theorem dX7_twins_13 : decode cX7_twins 13 = .ok (.iload_n 3, 1) := by decide +kernel
theorem dX7_twins_14 : decode cX7_twins 14 = .ok (.aload_n 0, 1) := by decide +kernel
theorem dX7_twins_15 : decode cX7_twins 15 = .ok (.getfield 13, 3) := by decide +kernel
theorem dX7_twins_18 : decode cX7_twins 18 = .ok (.if_icmp .ge 47, 3) := by decide +kernel
theorem dX7_twins_21 : decode cX7_twins 21 = .ok (.aload_n 0, 1) := by decide +kernel
theorem dX7_twins_22 : decode cX7_twins 22 = .ok (.iload_n 3, 1) := by decide +kernel
theorem dX7_twins_23 : decode cX7_twins 23 = .ok (.iload_n 1, 1) := by decide +kernel
theorem dX7_twins_24 : decode cX7_twins 24 = .ok (.invokevirtual 228, 3) := by decide +kernel
theorem dX7_twins_27 : decode cX7_twins 27 = .ok (.istore 4, 2) := by decide +kernel
theorem dX7_twins_29 : decode cX7_twins 29 = .ok (.iload_n 2, 1) := by decide +kernel
theorem dX7_twins_30 : decode cX7_twins 30 = .ok (.iload 4, 2) := by decide +kernel
theorem dX7_twins_32 : decode cX7_twins 32 = .ok (.bipush (-4), 2) := by decide +kernel
theorem dX7_twins_34 : decode cX7_twins 34 = .ok (.if_icmp .eq 22, 3) := by decide +kernel
theorem dX7_twins_37 : decode cX7_twins 37 = .ok (.aload_n 0, 1) := by decide +kernel
theorem dX7_twins_38 : decode cX7_twins 38 = .ok (.iload 4, 2) := by decide +kernel
theorem dX7_twins_40 : decode cX7_twins 40 = .ok (.iload_n 1, 1) := by decide +kernel
theorem dX7_twins_41 : decode cX7_twins 41 = .ok (.invokevirtual 231, 3) := by decide +kernel
theorem dX7_twins_44 : decode cX7_twins 44 = .ok (.iconst 1, 1) := by decide +kernel
theorem dX7_twins_45 : decode cX7_twins 45 = .ok (.iload_n 3, 1) := by decide +kernel
theorem dX7_twins_46 : decode cX7_twins 46 = .ok (.ishl, 1) := by decide +kernel
theorem dX7_twins_47 : decode cX7_twins 47 = .ok (.if_icmp .eq 9, 3) := by decide +kernel
theorem dX7_twins_50 : decode cX7_twins 50 = .ok (.iconst 1, 1) := by decide +kernel
theorem dX7_twins_51 : decode cX7_twins 51 = .ok (.iload_n 3, 1) := by decide +kernel
theorem dX7_twins_52 : decode cX7_twins 52 = .ok (.ishl, 1) := by decide +kernel
theorem dX7_twins_53 : decode cX7_twins 53 = .ok (.goto 4, 3) := by decide +kernel
theorem dX7_twins_56 : decode cX7_twins 56 = .ok (.iconst 0, 1) := by decide +kernel
theorem dX7_twins_57 : decode cX7_twins 57 = .ok (.ior, 1) := by decide +kernel
theorem dX7_twins_58 : decode cX7_twins 58 = .ok (.istore_n 2, 1) := by decide +kernel
theorem dX7_twins_59 : decode cX7_twins 59 = .ok (.iinc 3 1, 3) := by decide +kernel
theorem dX7_twins_62 : decode cX7_twins 62 = .ok (.goto (-49), 3) := by decide +kernel
theorem dX7_twins_65 : decode cX7_twins 65 = .ok (.iload_n 2, 1) := by decide +kernel
theorem dX7_twins_66 : decode cX7_twins 66 = .ok (.ireturn, 1) := by decide +kernel
set_option maxRecDepth 20000 in
theorem ggX7_eventAfter_X7_people : GoodIn wsX7_eventAfter wsX7_people := goodIn_r _ [7, 2, 8, 9, 10, 11, 12, 13, 14, 15, 16, 17, 18, 19, 20, 21, 22, 23, 24, 25, 26, 27, 28, 29, 30, 31, 32, 33, 34, 35, 36, 37, 38, 39, 40, 41, 42, 43, 44, 45] (by decide +kernel) (by decide +kernel)
set_option maxRecDepth 20000 in
theorem gX7_eventAfter_X7_people : GoodIn wsX7_eventAfter (wsV RX7 169 RX7 yX7_people wsX7_people) := goodIn_app (goodIn_of _ (by decide +kernel)) ggX7_eventAfter_X7_people
theorem dX7_eventAfter_0 : decode cX7_eventAfter 0 = .ok (.ldc 234, 2) := by decide +kernel
theorem dX7_eventAfter_2 : decode cX7_eventAfter 2 = .ok (.istore_n 2, 1) := by decide +kernel
theorem dX7_eventAfter_3 : decode cX7_eventAfter 3 = .ok (.iconst 0, 1) := by decide +kernel
theorem dX7_eventAfter_4 : decode cX7_eventAfter 4 = .ok (.istore_n 3, 1) := by decide +kernel
theorem dX7_eventAfter_5 : decode cX7_eventAfter 5 = .ok (.iload_n 3, 1) := by decide +kernel
theorem dX7_eventAfter_6 : decode cX7_eventAfter 6 = .ok (.aload_n 0, 1) := by decide +kernel
theorem dX7_eventAfter_7 : decode cX7_eventAfter 7 = .ok (.invokevirtual 169, 3) := by decide +kernel
theorem dX7_eventAfter_10 : decode cX7_eventAfter 10 = .ok (.if_icmp .ge 95, 3) := by decide +kernel
theorem dX7_eventAfter_13 : decode cX7_eventAfter 13 = .ok (.aload_n 0, 1) := by decide +kernel
theorem dX7_eventAfter_14 : decode cX7_eventAfter 14 = .ok (.getfield 7, 3) := by decide +kernel
theorem dX7_eventAfter_17 : decode cX7_eventAfter 17 = .ok (.iconst 4, 1) := by decide +kernel
theorem dX7_eventAfter_18 : decode cX7_eventAfter 18 = .ok (.iload_n 3, 1) := by decide +kernel
theorem dX7_eventAfter_19 : decode cX7_eventAfter 19 = .ok (.imul, 1) := by decide +kernel
theorem dX7_eventAfter_20 : decode cX7_eventAfter 20 = .ok (.iconst 1, 1) := by decide +kernel
theorem dX7_eventAfter_21 : decode cX7_eventAfter 21 = .ok (.iadd, 1) := by decide +kernel
theorem dX7_eventAfter_22 : decode cX7_eventAfter 22 = .ok (.iaload, 1) := by decide +kernel
theorem dX7_eventAfter_23 : decode cX7_eventAfter 23 = .ok (.istore 4, 2) := by decide +kernel
theorem dX7_eventAfter_25 : decode cX7_eventAfter 25 = .ok (.aload_n 0, 1) := by decide +kernel
theorem dX7_eventAfter_26 : decode cX7_eventAfter 26 = .ok (.getfield 7, 3) := by decide +kernel
theorem dX7_eventAfter_29 : decode cX7_eventAfter 29 = .ok (.iconst 4, 1) := by decide +kernel
theorem dX7_eventAfter_30 : decode cX7_eventAfter 30 = .ok (.iload_n 3, 1) := by decide +kernel
theorem dX7_eventAfter_31 : decode cX7_eventAfter 31 = .ok (.imul, 1) := by decide +kernel
theorem dX7_eventAfter_32 : decode cX7_eventAfter 32 = .ok (.iconst 3, 1) := by decide +kernel
theorem dX7_eventAfter_33 : decode cX7_eventAfter 33 = .ok (.iadd, 1) := by decide +kernel
theorem dX7_eventAfter_34 : decode cX7_eventAfter 34 = .ok (.iaload, 1) := by decide +kernel
theorem dX7_eventAfter_35 : decode cX7_eventAfter 35 = .ok (.istore 5, 2) := by decide +kernel
theorem dX7_eventAfter_37 : decode cX7_eventAfter 37 = .ok (.iload 4, 2) := by decide +kernel
theorem dX7_eventAfter_39 : decode cX7_eventAfter 39 = .ok (.iload_n 1, 1) := by decide +kernel
theorem dX7_eventAfter_40 : decode cX7_eventAfter 40 = .ok (.if_icmp .le 8, 3) := by decide +kernel
theorem dX7_eventAfter_43 : decode cX7_eventAfter 43 = .ok (.iload 4, 2) := by decide +kernel
theorem dX7_eventAfter_45 : decode cX7_eventAfter 45 = .ok (.goto 20, 3) := by decide +kernel
theorem dX7_eventAfter_48 : decode cX7_eventAfter 48 = .ok (.iload 4, 2) := by decide +kernel
theorem dX7_eventAfter_50 : decode cX7_eventAfter 50 = .ok (.sipush 360, 3) := by decide +kernel
theorem dX7_eventAfter_53 : decode cX7_eventAfter 53 = .ok (.iload_n 1, 1) := by decide +kernel
theorem dX7_eventAfter_54 : decode cX7_eventAfter 54 = .ok (.iload 4, 2) := by decide +kernel
theorem dX7_eventAfter_56 : decode cX7_eventAfter 56 = .ok (.isub, 1) := by decide +kernel
theorem dX7_eventAfter_57 : decode cX7_eventAfter 57 = .ok (.sipush 360, 3) := by decide +kernel
theorem dX7_eventAfter_60 : decode cX7_eventAfter 60 = .ok (.idiv, 1) := by decide +kernel
theorem dX7_eventAfter_61 : decode cX7_eventAfter 61 = .ok (.iconst 1, 1) := by decide +kernel
theorem dX7_eventAfter_62 : decode cX7_eventAfter 62 = .ok (.iadd, 1) := by decide +kernel
theorem dX7_eventAfter_63 : decode cX7_eventAfter 63 = .ok (.imul, 1) := by decide +kernel
theorem dX7_eventAfter_64 : decode cX7_eventAfter 64 = .ok (.iadd, 1) := by decide +kernel
theorem dX7_eventAfter_65 : decode cX7_eventAfter 65 = .ok (.istore 6, 2) := by decide +kernel
theorem dX7_eventAfter_67 : decode cX7_eventAfter 67 = .ok (.iload 6, 2) := by decide +kernel
theorem dX7_eventAfter_69 : decode cX7_eventAfter 69 = .ok (.iload_n 2, 1) := by decide +kernel
theorem dX7_eventAfter_70 : decode cX7_eventAfter 70 = .ok (.if_icmp .ge 8, 3) := by decide +kernel
theorem dX7_eventAfter_73 : decode cX7_eventAfter 73 = .ok (.iload 6, 2) := by decide +kernel
theorem dX7_eventAfter_75 : decode cX7_eventAfter 75 = .ok (.goto 4, 3) := by decide +kernel
theorem dX7_eventAfter_78 : decode cX7_eventAfter 78 = .ok (.iload_n 2, 1) := by decide +kernel
theorem dX7_eventAfter_79 : decode cX7_eventAfter 79 = .ok (.istore_n 2, 1) := by decide +kernel
theorem dX7_eventAfter_80 : decode cX7_eventAfter 80 = .ok (.iload 5, 2) := by decide +kernel
theorem dX7_eventAfter_82 : decode cX7_eventAfter 82 = .ok (.iload_n 1, 1) := by decide +kernel
theorem dX7_eventAfter_83 : decode cX7_eventAfter 83 = .ok (.if_icmp .le 14, 3) := by decide +kernel
theorem dX7_eventAfter_86 : decode cX7_eventAfter 86 = .ok (.iload 5, 2) := by decide +kernel
theorem dX7_eventAfter_88 : decode cX7_eventAfter 88 = .ok (.iload_n 2, 1) := by decide +kernel
theorem dX7_eventAfter_89 : decode cX7_eventAfter 89 = .ok (.if_icmp .ge 8, 3) := by decide +kernel
theorem dX7_eventAfter_92 : decode cX7_eventAfter 92 = .ok (.iload 5, 2) := by decide +kernel
theorem dX7_eventAfter_94 : decode cX7_eventAfter 94 = .ok (.goto 4, 3) := by decide +kernel
theorem dX7_eventAfter_97 : decode cX7_eventAfter 97 = .ok (.iload_n 2, 1) := by decide +kernel
theorem dX7_eventAfter_98 : decode cX7_eventAfter 98 = .ok (.istore_n 2, 1) := by decide +kernel
theorem dX7_eventAfter_99 : decode cX7_eventAfter 99 = .ok (.iinc 3 1, 3) := by decide +kernel
theorem dX7_eventAfter_102 : decode cX7_eventAfter 102 = .ok (.goto (-97), 3) := by decide +kernel
theorem dX7_eventAfter_105 : decode cX7_eventAfter 105 = .ok (.iconst 0, 1) := by decide +kernel
theorem dX7_eventAfter_106 : decode cX7_eventAfter 106 = .ok (.istore_n 3, 1) := by decide +kernel
theorem dX7_eventAfter_107 : decode cX7_eventAfter 107 = .ok (.iload_n 3, 1) := by decide +kernel
theorem dX7_eventAfter_108 : decode cX7_eventAfter 108 = .ok (.aload_n 0, 1) := by decide +kernel
theorem dX7_eventAfter_109 : decode cX7_eventAfter 109 = .ok (.getfield 7, 3) := by decide +kernel
theorem dX7_eventAfter_112 : decode cX7_eventAfter 112 = .ok (.bipush 89, 2) := by decide +kernel
theorem dX7_eventAfter_114 : decode cX7_eventAfter 114 = .ok (.iaload, 1) := by decide +kernel
theorem dX7_eventAfter_115 : decode cX7_eventAfter 115 = .ok (.if_icmp .ge 41, 3) := by decide +kernel
theorem dX7_eventAfter_118 : decode cX7_eventAfter 118 = .ok (.aload_n 0, 1) := by decide +kernel
theorem dX7_eventAfter_119 : decode cX7_eventAfter 119 = .ok (.getfield 7, 3) := by decide +kernel
theorem dX7_eventAfter_122 : decode cX7_eventAfter 122 = .ok (.bipush 40, 2) := by decide +kernel
theorem dX7_eventAfter_124 : decode cX7_eventAfter 124 = .ok (.iconst 3, 1) := by decide +kernel
theorem dX7_eventAfter_125 : decode cX7_eventAfter 125 = .ok (.iload_n 3, 1) := by decide +kernel
theorem dX7_eventAfter_126 : decode cX7_eventAfter 126 = .ok (.imul, 1) := by decide +kernel
theorem dX7_eventAfter_127 : decode cX7_eventAfter 127 = .ok (.iadd, 1) := by decide +kernel
theorem dX7_eventAfter_128 : decode cX7_eventAfter 128 = .ok (.iaload, 1) := by decide +kernel
theorem dX7_eventAfter_129 : decode cX7_eventAfter 129 = .ok (.istore 4, 2) := by decide +kernel
theorem dX7_eventAfter_131 : decode cX7_eventAfter 131 = .ok (.iload 4, 2) := by decide +kernel
theorem dX7_eventAfter_133 : decode cX7_eventAfter 133 = .ok (.iload_n 1, 1) := by decide +kernel
theorem dX7_eventAfter_134 : decode cX7_eventAfter 134 = .ok (.if_icmp .le 14, 3) := by decide +kernel
theorem dX7_eventAfter_137 : decode cX7_eventAfter 137 = .ok (.iload 4, 2) := by decide +kernel
theorem dX7_eventAfter_139 : decode cX7_eventAfter 139 = .ok (.iload_n 2, 1) := by decide +kernel
theorem dX7_eventAfter_140 : decode cX7_eventAfter 140 = .ok (.if_icmp .ge 8, 3) := by decide +kernel
theorem dX7_eventAfter_143 : decode cX7_eventAfter 143 = .ok (.iload 4, 2) := by decide +kernel
theorem dX7_eventAfter_145 : decode cX7_eventAfter 145 = .ok (.goto 4, 3) := by decide +kernel
theorem dX7_eventAfter_148 : decode cX7_eventAfter 148 = .ok (.iload_n 2, 1) := by decide +kernel
theorem dX7_eventAfter_149 : decode cX7_eventAfter 149 = .ok (.istore_n 2, 1) := by decide +kernel
theorem dX7_eventAfter_150 : decode cX7_eventAfter 150 = .ok (.iinc 3 1, 3) := by decide +kernel
theorem dX7_eventAfter_153 : decode cX7_eventAfter 153 = .ok (.goto (-46), 3) := by decide +kernel
theorem dX7_eventAfter_156 : decode cX7_eventAfter 156 = .ok (.iload_n 2, 1) := by decide +kernel
theorem dX7_eventAfter_157 : decode cX7_eventAfter 157 = .ok (.ireturn, 1) := by decide +kernel
set_option maxRecDepth 20000 in
theorem ggX7_changes_X7_isHouse : GoodIn wsX7_changes wsX7_isHouse := goodIn_r _ [6, 7, 8, 9, 5, 10, 64, 65, 66, 67, 68, 69, 70, 71, 72, 73, 74, 75, 76, 77, 78, 79, 80, 81, 82, 83, 84, 85, 86, 87, 88, 89, 90, 91, 92, 93, 94, 95, 96, 97, 98, 99, 100, 101] (by decide +kernel) (by decide +kernel)
set_option maxRecDepth 20000 in
theorem gX7_changes_X7_isHouse : GoodIn wsX7_changes (wsV RX7 181 RX7 yX7_isHouse wsX7_isHouse) := goodIn_app (goodIn_of _ (by decide +kernel)) ggX7_changes_X7_isHouse
set_option maxRecDepth 20000 in
theorem ggX7_changes_X7_isDay : GoodIn wsX7_changes wsX7_isDay := goodIn_r _ [13, 14, 8, 9, 5, 10] (by decide +kernel) (by decide +kernel)
set_option maxRecDepth 20000 in
theorem gX7_changes_X7_isDay : GoodIn wsX7_changes (va_wsS RX7 178 yX7_isDay wsX7_isDay) := goodIn_app (goodIn_of _ (by decide +kernel)) ggX7_changes_X7_isDay
set_option maxRecDepth 20000 in
theorem ggX7_changes_X7_numberNow : GoodIn wsX7_changes wsX7_numberNow := goodIn_r _ [18, 19, 20, 21, 22, 5, 23, 24, 25, 26, 27, 28, 29, 30, 31, 32, 33, 34, 35, 36, 37, 38, 39, 40, 41, 42, 43, 44, 45, 46, 47, 48, 49, 50, 51, 52, 53, 54, 55, 64, 65, 66, 67, 68, 69, 70, 71, 72, 73, 74, 75, 76, 77, 78, 79, 80, 81, 82, 83, 84, 85, 86, 87, 88, 89, 90, 91, 92, 93, 94, 95, 96, 97, 98, 99, 100, 101] (by decide +kernel) (by decide +kernel)
set_option maxRecDepth 20000 in
theorem gX7_changes_X7_numberNow : GoodIn wsX7_changes (wsV RX7 228 RX7 yX7_numberNow wsX7_numberNow) := goodIn_app (goodIn_of _ (by decide +kernel)) ggX7_changes_X7_numberNow
set_option maxRecDepth 20000 in
theorem ggX7_changes_X7_eventAfter : GoodIn wsX7_changes wsX7_eventAfter := goodIn_r _ [59, 1, 19, 60, 61, 62, 5, 63, 64, 65, 66, 67, 68, 69, 70, 71, 72, 73, 74, 75, 76, 77, 78, 79, 80, 81, 82, 83, 84, 85, 86, 87, 88, 89, 90, 91, 92, 93, 94, 95, 96, 97, 98, 99, 100, 101] (by decide +kernel) (by decide +kernel)
set_option maxRecDepth 20000 in
theorem gX7_changes_X7_eventAfter : GoodIn wsX7_changes (wsV RX7 235 RX7 yX7_eventAfter wsX7_eventAfter) := goodIn_app (goodIn_of _ (by decide +kernel)) ggX7_changes_X7_eventAfter
theorem dX7_changes_0 : decode cX7_changes 0 = .ok (.aload_n 0, 1) := by decide +kernel
theorem dX7_changes_1 : decode cX7_changes 1 = .ok (.iload_n 1, 1) := by decide +kernel
theorem dX7_changes_2 : decode cX7_changes 2 = .ok (.invokevirtual 181, 3) := by decide +kernel
theorem dX7_changes_5 : decode cX7_changes 5 = .ok (.ifCond .eq 10, 3) := by decide +kernel
theorem dX7_changes_8 : decode cX7_changes 8 = .ok (.iload_n 2, 1) := by decide +kernel
theorem dX7_changes_9 : decode cX7_changes 9 = .ok (.invokestatic 178, 3) := by decide +kernel
theorem dX7_changes_12 : decode cX7_changes 12 = .ok (.ifCond .ne 5, 3) := by decide +kernel
theorem dX7_changes_15 : decode cX7_changes 15 = .ok (.iconst (-1), 1) := by decide +kernel
theorem dX7_changes_16 : decode cX7_changes 16 = .ok (.ireturn, 1) := by decide +kernel
theorem dX7_changes_17 : decode cX7_changes 17 = .ok (.aload_n 0, 1) := by decide +kernel
theorem dX7_changes_18 : decode cX7_changes 18 = .ok (.iload_n 1, 1) := by decide +kernel
theorem dX7_changes_19 : decode cX7_changes 19 = .ok (.iload_n 2, 1) := by decide +kernel
theorem dX7_changes_20 : decode cX7_changes 20 = .ok (.invokevirtual 228, 3) := by decide +kernel
theorem dX7_changes_23 : decode cX7_changes 23 = .ok (.istore_n 3, 1) := by decide +kernel
theorem dX7_changes_24 : decode cX7_changes 24 = .ok (.aload_n 0, 1) := by decide +kernel
theorem dX7_changes_25 : decode cX7_changes 25 = .ok (.iload_n 2, 1) := by decide +kernel
theorem dX7_changes_26 : decode cX7_changes 26 = .ok (.invokevirtual 235, 3) := by decide +kernel
theorem dX7_changes_29 : decode cX7_changes 29 = .ok (.istore 4, 2) := by decide +kernel
theorem dX7_changes_31 : decode cX7_changes 31 = .ok (.iload 4, 2) := by decide +kernel
theorem dX7_changes_33 : decode cX7_changes 33 = .ok (.ldc 234, 2) := by decide +kernel
theorem dX7_changes_35 : decode cX7_changes 35 = .ok (.if_icmp .ge 25, 3) := by decide +kernel
theorem dX7_changes_38 : decode cX7_changes 38 = .ok (.aload_n 0, 1) := by decide +kernel
theorem dX7_changes_39 : decode cX7_changes 39 = .ok (.iload_n 1, 1) := by decide +kernel
theorem dX7_changes_40 : decode cX7_changes 40 = .ok (.iload 4, 2) := by decide +kernel
theorem dX7_changes_42 : decode cX7_changes 42 = .ok (.invokevirtual 228, 3) := by decide +kernel
theorem dX7_changes_45 : decode cX7_changes 45 = .ok (.iload_n 3, 1) := by decide +kernel
theorem dX7_changes_46 : decode cX7_changes 46 = .ok (.if_icmp .ne 14, 3) := by decide +kernel
theorem dX7_changes_49 : decode cX7_changes 49 = .ok (.aload_n 0, 1) := by decide +kernel
theorem dX7_changes_50 : decode cX7_changes 50 = .ok (.iload 4, 2) := by decide +kernel
theorem dX7_changes_52 : decode cX7_changes 52 = .ok (.invokevirtual 235, 3) := by decide +kernel
theorem dX7_changes_55 : decode cX7_changes 55 = .ok (.istore 4, 2) := by decide +kernel
theorem dX7_changes_57 : decode cX7_changes 57 = .ok (.goto (-26), 3) := by decide +kernel
theorem dX7_changes_60 : decode cX7_changes 60 = .ok (.iload 4, 2) := by decide +kernel
theorem dX7_changes_62 : decode cX7_changes 62 = .ok (.ldc 234, 2) := by decide +kernel
theorem dX7_changes_64 : decode cX7_changes 64 = .ok (.if_icmp .ge 8, 3) := by decide +kernel
theorem dX7_changes_67 : decode cX7_changes 67 = .ok (.iload 4, 2) := by decide +kernel
theorem dX7_changes_69 : decode cX7_changes 69 = .ok (.goto 5, 3) := by decide +kernel
theorem dX7_changes_72 : decode cX7_changes 72 = .ok (.bipush (-4), 2) := by decide +kernel
