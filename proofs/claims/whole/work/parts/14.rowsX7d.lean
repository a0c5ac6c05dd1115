theorem dX7_born_92 : decode cX7_born 92 = .ok (.if_icmp .eq 18, 3) := by decide +kernel
theorem dX7_born_95 : decode cX7_born 95 = .ok (.aload_n 0, 1) := by decide +kernel
theorem dX7_born_96 : decode cX7_born 96 = .ok (.getfield 7, 3) := by decide +kernel
theorem dX7_born_99 : decode cX7_born 99 = .ok (.iconst 4, 1) := by decide +kernel
theorem dX7_born_100 : decode cX7_born 100 = .ok (.iload_n 1, 1) := by decide +kernel
theorem dX7_born_101 : decode cX7_born 101 = .ok (.imul, 1) := by decide +kernel
theorem dX7_born_102 : decode cX7_born 102 = .ok (.iconst 1, 1) := by decide +kernel
theorem dX7_born_103 : decode cX7_born 103 = .ok (.iadd, 1) := by decide +kernel
theorem dX7_born_104 : decode cX7_born 104 = .ok (.iaload, 1) := by decide +kernel
theorem dX7_born_105 : decode cX7_born 105 = .ok (.iload 4, 2) := by decide +kernel
theorem dX7_born_107 : decode cX7_born 107 = .ok (.if_icmp .ge 33, 3) := by decide +kernel
theorem dX7_born_110 : decode cX7_born 110 = .ok (.aload_n 0, 1) := by decide +kernel
theorem dX7_born_111 : decode cX7_born 111 = .ok (.invokevirtual 268, 3) := by decide +kernel
theorem dX7_born_114 : decode cX7_born 114 = .ok (.bipush (-4), 2) := by decide +kernel
theorem dX7_born_116 : decode cX7_born 116 = .ok (.if_icmp .ne 24, 3) := by decide +kernel
theorem dX7_born_119 : decode cX7_born 119 = .ok (.iload 5, 2) := by decide +kernel
theorem dX7_born_121 : decode cX7_born 121 = .ok (.ifCond .ne 8, 3) := by decide +kernel
theorem dX7_born_124 : decode cX7_born 124 = .ok (.iload 8, 2) := by decide +kernel
theorem dX7_born_126 : decode cX7_born 126 = .ok (.goto 5, 3) := by decide +kernel
theorem dX7_born_129 : decode cX7_born 129 = .ok (.iload 6, 2) := by decide +kernel
theorem dX7_born_131 : decode cX7_born 131 = .ok (.istore 6, 2) := by decide +kernel
theorem dX7_born_133 : decode cX7_born 133 = .ok (.iload 8, 2) := by decide +kernel
theorem dX7_born_135 : decode cX7_born 135 = .ok (.istore 7, 2) := by decide +kernel
theorem dX7_born_137 : decode cX7_born 137 = .ok (.iinc 5 1, 3) := by decide +kernel
theorem dX7_born_140 : decode cX7_born 140 = .ok (.iinc 8 1, 3) := by decide +kernel
theorem dX7_born_143 : decode cX7_born 143 = .ok (.goto (-84), 3) := by decide +kernel
theorem dX7_born_146 : decode cX7_born 146 = .ok (.aload_n 0, 1) := by decide +kernel
theorem dX7_born_147 : decode cX7_born 147 = .ok (.getfield 7, 3) := by decide +kernel
theorem dX7_born_150 : decode cX7_born 150 = .ok (.iconst 4, 1) := by decide +kernel
theorem dX7_born_151 : decode cX7_born 151 = .ok (.iload_n 1, 1) := by decide +kernel
theorem dX7_born_152 : decode cX7_born 152 = .ok (.imul, 1) := by decide +kernel
theorem dX7_born_153 : decode cX7_born 153 = .ok (.iconst 1, 1) := by decide +kernel
theorem dX7_born_154 : decode cX7_born 154 = .ok (.iadd, 1) := by decide +kernel
theorem dX7_born_155 : decode cX7_born 155 = .ok (.iload_n 3, 1) := by decide +kernel
theorem dX7_born_156 : decode cX7_born 156 = .ok (.iastore, 1) := by decide +kernel
theorem dX7_born_157 : decode cX7_born 157 = .ok (.iload_n 2, 1) := by decide +kernel
theorem dX7_born_158 : decode cX7_born 158 = .ok (.ifCond .ne 8, 3) := by decide +kernel
theorem dX7_born_161 : decode cX7_born 161 = .ok (.iload 5, 2) := by decide +kernel
theorem dX7_born_163 : decode cX7_born 163 = .ok (.goto 15, 3) := by decide +kernel
theorem dX7_born_166 : decode cX7_born 166 = .ok (.iload_n 2, 1) := by decide +kernel
theorem dX7_born_167 : decode cX7_born 167 = .ok (.iconst 1, 1) := by decide +kernel
theorem dX7_born_168 : decode cX7_born 168 = .ok (.if_icmp .ne 8, 3) := by decide +kernel
theorem dX7_born_171 : decode cX7_born 171 = .ok (.iload 6, 2) := by decide +kernel
theorem dX7_born_173 : decode cX7_born 173 = .ok (.goto 5, 3) := by decide +kernel
theorem dX7_born_176 : decode cX7_born 176 = .ok (.iload 7, 2) := by decide +kernel
theorem dX7_born_178 : decode cX7_born 178 = .ok (.ireturn, 1) := by decide +kernel
theorem dX7_copies_0 : decode cX7_copies 0 = .ok (.iconst 0, 1) := by decide +kernel
theorem dX7_copies_1 : decode cX7_copies 1 = .ok (.istore_n 3, 1) := by decide +kernel
theorem dX7_copies_2 : decode cX7_copies 2 = .ok (.iload_n 3, 1) := by decide +kernel
theorem dX7_copies_3 : decode cX7_copies 3 = .ok (.bipush 92, 2) := by decide +kernel
theorem dX7_copies_5 : decode cX7_copies 5 = .ok (.if_icmp .ge 25, 3) := by decide +kernel
theorem dX7_copies_8 : decode cX7_copies 8 = .ok (.aload_n 0, 1) := by decide +kernel
theorem dX7_copies_9 : decode cX7_copies 9 = .ok (.getfield 7, 3) := by decide +kernel
theorem dX7_copies_12 : decode cX7_copies 12 = .ok (.iload_n 2, 1) := by decide +kernel
theorem dX7_copies_13 : decode cX7_copies 13 = .ok (.iload_n 3, 1) := by decide +kernel
theorem dX7_copies_14 : decode cX7_copies 14 = .ok (.iadd, 1) := by decide +kernel
theorem dX7_copies_15 : decode cX7_copies 15 = .ok (.aload_n 0, 1) := by decide +kernel
theorem dX7_copies_16 : decode cX7_copies 16 = .ok (.getfield 7, 3) := by decide +kernel
theorem dX7_copies_19 : decode cX7_copies 19 = .ok (.iload_n 1, 1) := by decide +kernel
theorem dX7_copies_20 : decode cX7_copies 20 = .ok (.iload_n 3, 1) := by decide +kernel
theorem dX7_copies_21 : decode cX7_copies 21 = .ok (.iadd, 1) := by decide +kernel
theorem dX7_copies_22 : decode cX7_copies 22 = .ok (.iaload, 1) := by decide +kernel
theorem dX7_copies_23 : decode cX7_copies 23 = .ok (.iastore, 1) := by decide +kernel
theorem dX7_copies_24 : decode cX7_copies 24 = .ok (.iinc 3 1, 3) := by decide +kernel
theorem dX7_copies_27 : decode cX7_copies 27 = .ok (.goto (-25), 3) := by decide +kernel
theorem dX7_copies_30 : decode cX7_copies 30 = .ok (.return_, 1) := by decide +kernel
set_option maxRecDepth 20000 in
theorem ggX7_later_X7_isDay : GoodIn wsX7_later wsX7_isDay := goodIn_r _ [7, 8, 9, 10, 6, 11] (by decide +kernel) (by decide +kernel)
set_option maxRecDepth 20000 in
theorem gX7_later_X7_isDay : GoodIn wsX7_later (va_wsS RX7 178 yX7_isDay wsX7_isDay) := goodIn_app (goodIn_of _ (by decide +kernel)) ggX7_later_X7_isDay
set_option maxRecDepth 20000 in
theorem ggX7_later_X7_in : GoodIn wsX7_later wsX7_in := goodIn_r _ [11] (by decide +kernel) (by decide +kernel)
set_option maxRecDepth 20000 in
theorem gX7_later_X7_in : GoodIn wsX7_later (va_wsS RX7 66 yX7_in wsX7_in) := goodIn_app (goodIn_of _ (by decide +kernel)) ggX7_later_X7_in
set_option maxRecDepth 20000 in
theorem ggX7_later_X7_copies : GoodIn wsX7_later wsX7_copies := goodIn_r _ [15, 3, 61, 62, 63, 64, 65, 66, 67, 68, 69, 70, 71, 72, 73, 74, 75, 76, 77, 78, 79, 80, 81, 82, 83, 84, 85, 86, 87, 88, 89, 90, 91, 92, 93, 94, 95, 96, 97, 98] (by decide +kernel) (by decide +kernel)
set_option maxRecDepth 20000 in
theorem gX7_later_X7_copies : GoodIn wsX7_later (wsV RX7 273 RX7 yX7_copies wsX7_copies) := goodIn_app (goodIn_of _ (by decide +kernel)) ggX7_later_X7_copies
set_option maxRecDepth 20000 in
theorem ggX7_later_X7_people : GoodIn wsX7_later wsX7_people := goodIn_r _ [19, 3, 61, 62, 63, 64, 65, 66, 67, 68, 69, 70, 71, 72, 73, 74, 75, 76, 77, 78, 79, 80, 81, 82, 83, 84, 85, 86, 87, 88, 89, 90, 91, 92, 93, 94, 95, 96, 97, 98] (by decide +kernel) (by decide +kernel)
set_option maxRecDepth 20000 in
theorem gX7_later_X7_people : GoodIn wsX7_later (wsV RX7 169 RX7 yX7_people wsX7_people) := goodIn_app (goodIn_of _ (by decide +kernel)) ggX7_later_X7_people
set_option maxRecDepth 20000 in
theorem ggX7_later_X7_isAlive : GoodIn wsX7_later wsX7_isAlive := goodIn_r _ [23, 3, 61, 62, 63, 64, 65, 66, 67, 68, 69, 70, 71, 72, 73, 74, 75, 76, 77, 78, 79, 80, 81, 82, 83, 84, 85, 86, 87, 88, 89, 90, 91, 92, 93, 94, 95, 96, 97, 98] (by decide +kernel) (by decide +kernel)
set_option maxRecDepth 20000 in
theorem gX7_later_X7_isAlive : GoodIn wsX7_later (wsV RX7 188 RX7 yX7_isAlive wsX7_isAlive) := goodIn_app (goodIn_of _ (by decide +kernel)) ggX7_later_X7_isAlive
set_option maxRecDepth 20000 in
theorem ggX7_later_X7_sumOf : GoodIn wsX7_later wsX7_sumOf := goodIn_r _ [27, 28, 29, 30, 31, 6, 32, 33, 34, 35, 36, 3, 37, 38, 39, 40, 41, 42, 20, 21, 22, 23, 43, 44, 45, 46, 47, 48, 49, 50, 51, 52, 53, 54, 55, 56, 57, 58, 59, 60, 61, 62, 63, 64, 65, 66, 67, 68, 69, 70, 71, 72, 73, 74, 75, 76, 77, 78, 79, 80, 81, 82, 83, 84, 85, 86, 87, 88, 89, 90, 91, 92, 93, 94, 95, 96, 97, 98] (by decide +kernel) (by decide +kernel)
set_option maxRecDepth 20000 in
theorem gX7_later_X7_sumOf : GoodIn wsX7_later (wsV RX7 238 RX7 yX7_sumOf wsX7_sumOf) := goodIn_app (goodIn_of _ (by decide +kernel)) ggX7_later_X7_sumOf
theorem dX7_later_0 : decode cX7_later 0 = .ok (.iload_n 2, 1) := by decide +kernel
theorem dX7_later_1 : decode cX7_later 1 = .ok (.invokestatic 178, 3) := by decide +kernel
theorem dX7_later_4 : decode cX7_later 4 = .ok (.ifCond .eq 26, 3) := by decide +kernel
theorem dX7_later_7 : decode cX7_later 7 = .ok (.iload_n 3, 1) := by decide +kernel
theorem dX7_later_8 : decode cX7_later 8 = .ok (.i2l, 1) := by decide +kernel
theorem dX7_later_9 : decode cX7_later 9 = .ok (.lconst 1, 1) := by decide +kernel
theorem dX7_later_10 : decode cX7_later 10 = .ok (.ldc2_w 271, 3) := by decide +kernel
theorem dX7_later_13 : decode cX7_later 13 = .ok (.invokestatic 66, 3) := by decide +kernel
theorem dX7_later_16 : decode cX7_later 16 = .ok (.ifCond .eq 14, 3) := by decide +kernel
theorem dX7_later_19 : decode cX7_later 19 = .ok (.iload 4, 2) := by decide +kernel
theorem dX7_later_21 : decode cX7_later 21 = .ok (.i2l, 1) := by decide +kernel
theorem dX7_later_22 : decode cX7_later 22 = .ok (.lconst 0, 1) := by decide +kernel
theorem dX7_later_23 : decode cX7_later 23 = .ok (.lconst 1, 1) := by decide +kernel
theorem dX7_later_24 : decode cX7_later 24 = .ok (.invokestatic 66, 3) := by decide +kernel
theorem dX7_later_27 : decode cX7_later 27 = .ok (.ifCond .ne 5, 3) := by decide +kernel
theorem dX7_later_30 : decode cX7_later 30 = .ok (.iconst (-1), 1) := by decide +kernel
theorem dX7_later_31 : decode cX7_later 31 = .ok (.ireturn, 1) := by decide +kernel
theorem dX7_later_32 : decode cX7_later 32 = .ok (.aload_n 0, 1) := by decide +kernel
theorem dX7_later_33 : decode cX7_later 33 = .ok (.iconst 0, 1) := by decide +kernel
theorem dX7_later_34 : decode cX7_later 34 = .ok (.sipush 276, 3) := by decide +kernel
theorem dX7_later_37 : decode cX7_later 37 = .ok (.invokevirtual 273, 3) := by decide +kernel
theorem dX7_later_40 : decode cX7_later 40 = .ok (.iload_n 1, 1) := by decide +kernel
theorem dX7_later_41 : decode cX7_later 41 = .ok (.istore 5, 2) := by decide +kernel
theorem dX7_later_43 : decode cX7_later 43 = .ok (.iload_n 2, 1) := by decide +kernel
theorem dX7_later_44 : decode cX7_later 44 = .ok (.istore 6, 2) := by decide +kernel
theorem dX7_later_46 : decode cX7_later 46 = .ok (.iload_n 2, 1) := by decide +kernel
theorem dX7_later_47 : decode cX7_later 47 = .ok (.sipush 360, 3) := by decide +kernel
theorem dX7_later_50 : decode cX7_later 50 = .ok (.idiv, 1) := by decide +kernel
theorem dX7_later_51 : decode cX7_later 51 = .ok (.istore 7, 2) := by decide +kernel
theorem dX7_later_53 : decode cX7_later 53 = .ok (.iload 7, 2) := by decide +kernel
theorem dX7_later_55 : decode cX7_later 55 = .ok (.iload_n 2, 1) := by decide +kernel
theorem dX7_later_56 : decode cX7_later 56 = .ok (.sipush 360, 3) := by decide +kernel
theorem dX7_later_59 : decode cX7_later 59 = .ok (.idiv, 1) := by decide +kernel
theorem dX7_later_60 : decode cX7_later 60 = .ok (.iload_n 3, 1) := by decide +kernel
theorem dX7_later_61 : decode cX7_later 61 = .ok (.iadd, 1) := by decide +kernel
theorem dX7_later_62 : decode cX7_later 62 = .ok (.if_icmp .ge 158, 3) := by decide +kernel
theorem dX7_later_65 : decode cX7_later 65 = .ok (.iload 7, 2) := by decide +kernel
theorem dX7_later_67 : decode cX7_later 67 = .ok (.bipush 100, 2) := by decide +kernel
theorem dX7_later_69 : decode cX7_later 69 = .ok (.if_icmp .ge 151, 3) := by decide +kernel
theorem dX7_later_72 : decode cX7_later 72 = .ok (.sipush 360, 3) := by decide +kernel
theorem dX7_later_75 : decode cX7_later 75 = .ok (.iload 7, 2) := by decide +kernel
theorem dX7_later_77 : decode cX7_later 77 = .ok (.imul, 1) := by decide +kernel
theorem dX7_later_78 : decode cX7_later 78 = .ok (.sipush 360, 3) := by decide +kernel
theorem dX7_later_81 : decode cX7_later 81 = .ok (.iadd, 1) := by decide +kernel
theorem dX7_later_82 : decode cX7_later 82 = .ok (.iconst 1, 1) := by decide +kernel
theorem dX7_later_83 : decode cX7_later 83 = .ok (.isub, 1) := by decide +kernel
theorem dX7_later_84 : decode cX7_later 84 = .ok (.istore 6, 2) := by decide +kernel
theorem dX7_later_86 : decode cX7_later 86 = .ok (.iconst 0, 1) := by decide +kernel
theorem dX7_later_87 : decode cX7_later 87 = .ok (.istore 8, 2) := by decide +kernel
theorem dX7_later_89 : decode cX7_later 89 = .ok (.iload 8, 2) := by decide +kernel
theorem dX7_later_91 : decode cX7_later 91 = .ok (.aload_n 0, 1) := by decide +kernel
theorem dX7_later_92 : decode cX7_later 92 = .ok (.invokevirtual 169, 3) := by decide +kernel
theorem dX7_later_95 : decode cX7_later 95 = .ok (.if_icmp .ge 119, 3) := by decide +kernel
theorem dX7_later_98 : decode cX7_later 98 = .ok (.aload_n 0, 1) := by decide +kernel
theorem dX7_later_99 : decode cX7_later 99 = .ok (.sipush 276, 3) := by decide +kernel
theorem dX7_later_102 : decode cX7_later 102 = .ok (.iload 8, 2) := by decide +kernel
theorem dX7_later_104 : decode cX7_later 104 = .ok (.iload 6, 2) := by decide +kernel
theorem dX7_later_106 : decode cX7_later 106 = .ok (.invokevirtual 188, 3) := by decide +kernel
theorem dX7_later_109 : decode cX7_later 109 = .ok (.ifCond .eq 99, 3) := by decide +kernel
theorem dX7_later_112 : decode cX7_later 112 = .ok (.iload 5, 2) := by decide +kernel
theorem dX7_later_114 : decode cX7_later 114 = .ok (.ldc_w 276, 3) := by decide +kernel
theorem dX7_later_117 : decode cX7_later 117 = .ok (.imul, 1) := by decide +kernel
theorem dX7_later_118 : decode cX7_later 118 = .ok (.sipush 12345, 3) := by decide +kernel
theorem dX7_later_121 : decode cX7_later 121 = .ok (.iadd, 1) := by decide +kernel
theorem dX7_later_122 : decode cX7_later 122 = .ok (.istore 5, 2) := by decide +kernel
theorem dX7_later_124 : decode cX7_later 124 = .ok (.iload 5, 2) := by decide +kernel
theorem dX7_later_126 : decode cX7_later 126 = .ok (.bipush 16, 2) := by decide +kernel
theorem dX7_later_128 : decode cX7_later 128 = .ok (.ishr, 1) := by decide +kernel
theorem dX7_later_129 : decode cX7_later 129 = .ok (.sipush 32767, 3) := by decide +kernel
theorem dX7_later_132 : decode cX7_later 132 = .ok (.iand, 1) := by decide +kernel
theorem dX7_later_133 : decode cX7_later 133 = .ok (.bipush 100, 2) := by decide +kernel
theorem dX7_later_135 : decode cX7_later 135 = .ok (.irem, 1) := by decide +kernel
theorem dX7_later_136 : decode cX7_later 136 = .ok (.iload 6, 2) := by decide +kernel
theorem dX7_later_138 : decode cX7_later 138 = .ok (.aload_n 0, 1) := by decide +kernel
theorem dX7_later_139 : decode cX7_later 139 = .ok (.getfield 7, 3) := by decide +kernel
theorem dX7_later_142 : decode cX7_later 142 = .ok (.sipush 276, 3) := by decide +kernel
theorem dX7_later_145 : decode cX7_later 145 = .ok (.iconst 4, 1) := by decide +kernel
theorem dX7_later_146 : decode cX7_later 146 = .ok (.iload 8, 2) := by decide +kernel
theorem dX7_later_148 : decode cX7_later 148 = .ok (.imul, 1) := by decide +kernel
theorem dX7_later_149 : decode cX7_later 149 = .ok (.iadd, 1) := by decide +kernel
theorem dX7_later_150 : decode cX7_later 150 = .ok (.iconst 1, 1) := by decide +kernel
theorem dX7_later_151 : decode cX7_later 151 = .ok (.iadd, 1) := by decide +kernel
theorem dX7_later_152 : decode cX7_later 152 = .ok (.iaload, 1) := by decide +kernel
theorem dX7_later_153 : decode cX7_later 153 = .ok (.isub, 1) := by decide +kernel
theorem dX7_later_154 : decode cX7_later 154 = .ok (.sipush 360, 3) := by decide +kernel
theorem dX7_later_157 : decode cX7_later 157 = .ok (.idiv, 1) := by decide +kernel
theorem dX7_later_158 : decode cX7_later 158 = .ok (.if_icmp .ge 7, 3) := by decide +kernel
theorem dX7_later_161 : decode cX7_later 161 = .ok (.iconst 1, 1) := by decide +kernel
theorem dX7_later_162 : decode cX7_later 162 = .ok (.goto 4, 3) := by decide +kernel
theorem dX7_later_165 : decode cX7_later 165 = .ok (.iconst 0, 1) := by decide +kernel
theorem dX7_later_166 : decode cX7_later 166 = .ok (.istore 9, 2) := by decide +kernel
theorem dX7_later_168 : decode cX7_later 168 = .ok (.aload_n 0, 1) := by decide +kernel
theorem dX7_later_169 : decode cX7_later 169 = .ok (.getfield 7, 3) := by decide +kernel
theorem dX7_later_172 : decode cX7_later 172 = .ok (.sipush 276, 3) := by decide +kernel
theorem dX7_later_175 : decode cX7_later 175 = .ok (.iconst 4, 1) := by decide +kernel
theorem dX7_later_176 : decode cX7_later 176 = .ok (.iload 8, 2) := by decide +kernel
theorem dX7_later_178 : decode cX7_later 178 = .ok (.imul, 1) := by decide +kernel
theorem dX7_later_179 : decode cX7_later 179 = .ok (.iadd, 1) := by decide +kernel
theorem dX7_later_180 : decode cX7_later 180 = .ok (.iconst 3, 1) := by decide +kernel
theorem dX7_later_181 : decode cX7_later 181 = .ok (.iadd, 1) := by decide +kernel
theorem dX7_later_182 : decode cX7_later 182 = .ok (.iload 9, 2) := by decide +kernel
theorem dX7_later_184 : decode cX7_later 184 = .ok (.ifCond .eq 8, 3) := by decide +kernel
theorem dX7_later_187 : decode cX7_later 187 = .ok (.iload 6, 2) := by decide +kernel
theorem dX7_later_189 : decode cX7_later 189 = .ok (.goto 18, 3) := by decide +kernel
theorem dX7_later_192 : decode cX7_later 192 = .ok (.aload_n 0, 1) := by decide +kernel
theorem dX7_later_193 : decode cX7_later 193 = .ok (.getfield 7, 3) := by decide +kernel
theorem dX7_later_196 : decode cX7_later 196 = .ok (.sipush 276, 3) := by decide +kernel
theorem dX7_later_199 : decode cX7_later 199 = .ok (.iconst 4, 1) := by decide +kernel
theorem dX7_later_200 : decode cX7_later 200 = .ok (.iload 8, 2) := by decide +kernel
theorem dX7_later_202 : decode cX7_later 202 = .ok (.imul, 1) := by decide +kernel
theorem dX7_later_203 : decode cX7_later 203 = .ok (.iadd, 1) := by decide +kernel
theorem dX7_later_204 : decode cX7_later 204 = .ok (.iconst 3, 1) := by decide +kernel
theorem dX7_later_205 : decode cX7_later 205 = .ok (.iadd, 1) := by decide +kernel
theorem dX7_later_206 : decode cX7_later 206 = .ok (.iaload, 1) := by decide +kernel
theorem dX7_later_207 : decode cX7_later 207 = .ok (.iastore, 1) := by decide +kernel
theorem dX7_later_208 : decode cX7_later 208 = .ok (.iinc 8 1, 3) := by decide +kernel
theorem dX7_later_211 : decode cX7_later 211 = .ok (.goto (-122), 3) := by decide +kernel
theorem dX7_later_214 : decode cX7_later 214 = .ok (.iinc 7 1, 3) := by decide +kernel
theorem dX7_later_217 : decode cX7_later 217 = .ok (.goto (-164), 3) := by decide +kernel
theorem dX7_later_220 : decode cX7_later 220 = .ok (.iconst 0, 1) := by decide +kernel
theorem dX7_later_221 : decode cX7_later 221 = .ok (.istore 7, 2) := by decide +kernel
theorem dX7_later_223 : decode cX7_later 223 = .ok (.iconst 0, 1) := by decide +kernel
theorem dX7_later_224 : decode cX7_later 224 = .ok (.istore 8, 2) := by decide +kernel
theorem dX7_later_226 : decode cX7_later 226 = .ok (.iload 8, 2) := by decide +kernel
theorem dX7_later_228 : decode cX7_later 228 = .ok (.aload_n 0, 1) := by decide +kernel
theorem dX7_later_229 : decode cX7_later 229 = .ok (.invokevirtual 169, 3) := by decide +kernel
theorem dX7_later_232 : decode cX7_later 232 = .ok (.if_icmp .ge 33, 3) := by decide +kernel
theorem dX7_later_235 : decode cX7_later 235 = .ok (.iload 7, 2) := by decide +kernel
theorem dX7_later_237 : decode cX7_later 237 = .ok (.aload_n 0, 1) := by decide +kernel
theorem dX7_later_238 : decode cX7_later 238 = .ok (.sipush 276, 3) := by decide +kernel
theorem dX7_later_241 : decode cX7_later 241 = .ok (.iload 8, 2) := by decide +kernel
theorem dX7_later_243 : decode cX7_later 243 = .ok (.iload 6, 2) := by decide +kernel
theorem dX7_later_245 : decode cX7_later 245 = .ok (.invokevirtual 188, 3) := by decide +kernel
theorem dX7_later_248 : decode cX7_later 248 = .ok (.ifCond .eq 7, 3) := by decide +kernel
theorem dX7_later_251 : decode cX7_later 251 = .ok (.iconst 1, 1) := by decide +kernel
theorem dX7_later_252 : decode cX7_later 252 = .ok (.goto 4, 3) := by decide +kernel
theorem dX7_later_255 : decode cX7_later 255 = .ok (.iconst 0, 1) := by decide +kernel
theorem dX7_later_256 : decode cX7_later 256 = .ok (.iadd, 1) := by decide +kernel
theorem dX7_later_257 : decode cX7_later 257 = .ok (.istore 7, 2) := by decide +kernel
theorem dX7_later_259 : decode cX7_later 259 = .ok (.iinc 8 1, 3) := by decide +kernel
theorem dX7_later_262 : decode cX7_later 262 = .ok (.goto (-36), 3) := by decide +kernel
theorem dX7_later_265 : decode cX7_later 265 = .ok (.iload 4, 2) := by decide +kernel
theorem dX7_later_267 : decode cX7_later 267 = .ok (.ifCond .ne 8, 3) := by decide +kernel
theorem dX7_later_270 : decode cX7_later 270 = .ok (.iload 7, 2) := by decide +kernel
theorem dX7_later_272 : decode cX7_later 272 = .ok (.goto 19, 3) := by decide +kernel
theorem dX7_later_275 : decode cX7_later 275 = .ok (.aload_n 0, 1) := by decide +kernel
theorem dX7_later_276 : decode cX7_later 276 = .ok (.sipush 276, 3) := by decide +kernel
theorem dX7_later_279 : decode cX7_later 279 = .ok (.iload 6, 2) := by decide +kernel
theorem dX7_later_281 : decode cX7_later 281 = .ok (.aload_n 0, 1) := by decide +kernel
theorem dX7_later_282 : decode cX7_later 282 = .ok (.getfield 7, 3) := by decide +kernel
theorem dX7_later_285 : decode cX7_later 285 = .ok (.bipush 91, 2) := by decide +kernel
theorem dX7_later_287 : decode cX7_later 287 = .ok (.iaload, 1) := by decide +kernel
theorem dX7_later_288 : decode cX7_later 288 = .ok (.invokevirtual 238, 3) := by decide +kernel
theorem dX7_later_291 : decode cX7_later 291 = .ok (.ireturn, 1) := by decide +kernel
set_option maxRecDepth 20000 in
theorem ggX7_keep_X7_in : GoodIn wsX7_keep wsX7_in := goodIn_r _ [5] (by decide +kernel) (by decide +kernel)
set_option maxRecDepth 20000 in
theorem gX7_keep_X7_in : GoodIn wsX7_keep (va_wsS RX7 66 yX7_in wsX7_in) := goodIn_app (goodIn_of _ (by decide +kernel)) ggX7_keep_X7_in
set_option maxRecDepth 20000 in
theorem ggX7_keep_X7_copies : GoodIn wsX7_keep wsX7_copies := goodIn_r _ [9, 10, 11, 12, 13, 14, 15, 16, 17, 18, 19, 20, 21, 22, 23, 24, 25, 26, 27, 28, 29, 30, 31, 32, 33, 34, 35, 36, 37, 38, 39, 40, 41, 42, 43, 44, 45, 46, 47, 48] (by decide +kernel) (by decide +kernel)
set_option maxRecDepth 20000 in
theorem gX7_keep_X7_copies : GoodIn wsX7_keep (wsV RX7 273 RX7 yX7_copies wsX7_copies) := goodIn_app (goodIn_of _ (by decide +kernel)) ggX7_keep_X7_copies
theorem dX7_keep_0 : decode cX7_keep 0 = .ok (.iload_n 1, 1) := by decide +kernel
theorem dX7_keep_1 : decode cX7_keep 1 = .ok (.i2l, 1) := by decide +kernel
theorem dX7_keep_2 : decode cX7_keep 2 = .ok (.lconst 0, 1) := by decide +kernel
theorem dX7_keep_3 : decode cX7_keep 3 = .ok (.lconst 1, 1) := by decide +kernel
theorem dX7_keep_4 : decode cX7_keep 4 = .ok (.invokestatic 66, 3) := by decide +kernel
theorem dX7_keep_7 : decode cX7_keep 7 = .ok (.ifCond .ne 5, 3) := by decide +kernel
theorem dX7_keep_10 : decode cX7_keep 10 = .ok (.iconst (-1), 1) := by decide +kernel
theorem dX7_keep_11 : decode cX7_keep 11 = .ok (.ireturn, 1) := by decide +kernel
theorem dX7_keep_12 : decode cX7_keep 12 = .ok (.aload_n 0, 1) := by decide +kernel
theorem dX7_keep_13 : decode cX7_keep 13 = .ok (.iconst 0, 1) := by decide +kernel
theorem dX7_keep_14 : decode cX7_keep 14 = .ok (.bipush 92, 2) := by decide +kernel
theorem dX7_keep_16 : decode cX7_keep 16 = .ok (.iload_n 1, 1) := by decide +kernel
theorem dX7_keep_17 : decode cX7_keep 17 = .ok (.iconst 1, 1) := by decide +kernel
theorem dX7_keep_18 : decode cX7_keep 18 = .ok (.iadd, 1) := by decide +kernel
theorem dX7_keep_19 : decode cX7_keep 19 = .ok (.imul, 1) := by decide +kernel
theorem dX7_keep_20 : decode cX7_keep 20 = .ok (.invokevirtual 273, 3) := by decide +kernel
theorem dX7_keep_23 : decode cX7_keep 23 = .ok (.aload_n 0, 1) := by decide +kernel
theorem dX7_keep_24 : decode cX7_keep 24 = .ok (.getfield 50, 3) := by decide +kernel
theorem dX7_keep_27 : decode cX7_keep 27 = .ok (.iload_n 1, 1) := by decide +kernel
theorem dX7_keep_28 : decode cX7_keep 28 = .ok (.baload, 1) := by decide +kernel
theorem dX7_keep_29 : decode cX7_keep 29 = .ok (.ifCond .eq 7, 3) := by decide +kernel
theorem dX7_keep_32 : decode cX7_keep 32 = .ok (.iconst 1, 1) := by decide +kernel
theorem dX7_keep_33 : decode cX7_keep 33 = .ok (.goto 4, 3) := by decide +kernel
theorem dX7_keep_36 : decode cX7_keep 36 = .ok (.iconst 0, 1) := by decide +kernel
theorem dX7_keep_37 : decode cX7_keep 37 = .ok (.istore_n 2, 1) := by decide +kernel
theorem dX7_keep_38 : decode cX7_keep 38 = .ok (.aload_n 0, 1) := by decide +kernel
theorem dX7_keep_39 : decode cX7_keep 39 = .ok (.getfield 50, 3) := by decide +kernel
theorem dX7_keep_42 : decode cX7_keep 42 = .ok (.iload_n 1, 1) := by decide +kernel
theorem dX7_keep_43 : decode cX7_keep 43 = .ok (.iconst 1, 1) := by decide +kernel
theorem dX7_keep_44 : decode cX7_keep 44 = .ok (.bastore, 1) := by decide +kernel
theorem dX7_keep_45 : decode cX7_keep 45 = .ok (.iload_n 2, 1) := by decide +kernel
theorem dX7_keep_46 : decode cX7_keep 46 = .ok (.ireturn, 1) := by decide +kernel
set_option maxRecDepth 20000 in
theorem ggX7_back_X7_in : GoodIn wsX7_back wsX7_in := goodIn_r _ [5] (by decide +kernel) (by decide +kernel)
set_option maxRecDepth 20000 in
theorem gX7_back_X7_in : GoodIn wsX7_back (va_wsS RX7 66 yX7_in wsX7_in) := goodIn_app (goodIn_of _ (by decide +kernel)) ggX7_back_X7_in
set_option maxRecDepth 20000 in
theorem ggX7_back_X7_copies : GoodIn wsX7_back wsX7_copies := goodIn_r _ [9, 10, 15, 16, 17, 18, 19, 20, 21, 22, 23, 24, 25, 26, 27, 28, 29, 30, 31, 32, 33, 34, 35, 36, 37, 38, 39, 40, 41, 42, 43, 44, 45, 46, 47, 48, 49, 50, 51, 52] (by decide +kernel) (by decide +kernel)
set_option maxRecDepth 20000 in
theorem gX7_back_X7_copies : GoodIn wsX7_back (wsV RX7 273 RX7 yX7_copies wsX7_copies) := goodIn_app (goodIn_of _ (by decide +kernel)) ggX7_back_X7_copies
set_option maxRecDepth 20000 in
theorem ggX7_back_X7_people : GoodIn wsX7_back wsX7_people := goodIn_r _ [14, 10, 15, 16, 17, 18, 19, 20, 21, 22, 23, 24, 25, 26, 27, 28, 29, 30, 31, 32, 33, 34, 35, 36, 37, 38, 39, 40, 41, 42, 43, 44, 45, 46, 47, 48, 49, 50, 51, 52] (by decide +kernel) (by decide +kernel)
set_option maxRecDepth 20000 in
theorem gX7_back_X7_people : GoodIn wsX7_back (wsV RX7 169 RX7 yX7_people wsX7_people) := goodIn_app (goodIn_of _ (by decide +kernel)) ggX7_back_X7_people
theorem dX7_back_0 : decode cX7_back 0 = .ok (.iload_n 1, 1) := by decide +kernel
theorem dX7_back_1 : decode cX7_back 1 = .ok (.i2l, 1) := by decide +kernel
theorem dX7_back_2 : decode cX7_back 2 = .ok (.lconst 0, 1) := by decide +kernel
theorem dX7_back_3 : decode cX7_back 3 = .ok (.lconst 1, 1) := by decide +kernel
theorem dX7_back_4 : decode cX7_back 4 = .ok (.invokestatic 66, 3) := by decide +kernel
theorem dX7_back_7 : decode cX7_back 7 = .ok (.ifCond .ne 5, 3) := by decide +kernel
theorem dX7_back_10 : decode cX7_back 10 = .ok (.iconst (-1), 1) := by decide +kernel
theorem dX7_back_11 : decode cX7_back 11 = .ok (.ireturn, 1) := by decide +kernel
theorem dX7_back_12 : decode cX7_back 12 = .ok (.aload_n 0, 1) := by decide +kernel
theorem dX7_back_13 : decode cX7_back 13 = .ok (.getfield 50, 3) := by decide +kernel
theorem dX7_back_16 : decode cX7_back 16 = .ok (.iload_n 1, 1) := by decide +kernel
theorem dX7_back_17 : decode cX7_back 17 = .ok (.baload, 1) := by decide +kernel
theorem dX7_back_18 : decode cX7_back 18 = .ok (.ifCond .ne 6, 3) := by decide +kernel
theorem dX7_back_21 : decode cX7_back 21 = .ok (.bipush (-2), 2) := by decide +kernel
theorem dX7_back_23 : decode cX7_back 23 = .ok (.ireturn, 1) := by decide +kernel
theorem dX7_back_24 : decode cX7_back 24 = .ok (.aload_n 0, 1) := by decide +kernel
theorem dX7_back_25 : decode cX7_back 25 = .ok (.bipush 92, 2) := by decide +kernel
theorem dX7_back_27 : decode cX7_back 27 = .ok (.iload_n 1, 1) := by decide +kernel
theorem dX7_back_28 : decode cX7_back 28 = .ok (.iconst 1, 1) := by decide +kernel
theorem dX7_back_29 : decode cX7_back 29 = .ok (.iadd, 1) := by decide +kernel
theorem dX7_back_30 : decode cX7_back 30 = .ok (.imul, 1) := by decide +kernel
theorem dX7_back_31 : decode cX7_back 31 = .ok (.iconst 0, 1) := by decide +kernel
theorem dX7_back_32 : decode cX7_back 32 = .ok (.invokevirtual 273, 3) := by decide +kernel
theorem dX7_back_35 : decode cX7_back 35 = .ok (.aload_n 0, 1) := by decide +kernel
theorem dX7_back_36 : decode cX7_back 36 = .ok (.invokevirtual 169, 3) := by decide +kernel
theorem dX7_back_39 : decode cX7_back 39 = .ok (.ireturn, 1) := by decide +kernel
set_option maxRecDepth 20000 in
theorem ggX7_sheet_X7_in : GoodIn wsX7_sheet wsX7_in := goodIn_r _ [9] (by decide +kernel) (by decide +kernel)
set_option maxRecDepth 20000 in
theorem gX7_sheet_X7_in : GoodIn wsX7_sheet (va_wsS RX7 66 yX7_in wsX7_in) := goodIn_app (goodIn_of _ (by decide +kernel)) ggX7_sheet_X7_in
theorem dX7_sheet_0 : decode cX7_sheet 0 = .ok (.iload_n 1, 1) := by decide +kernel
theorem dX7_sheet_1 : decode cX7_sheet 1 = .ok (.i2l, 1) := by decide +kernel
theorem dX7_sheet_2 : decode cX7_sheet 2 = .ok (.lconst 0, 1) := by decide +kernel
theorem dX7_sheet_3 : decode cX7_sheet 3 = .ok (.ldc2_w 139, 3) := by decide +kernel
theorem dX7_sheet_6 : decode cX7_sheet 6 = .ok (.invokestatic 66, 3) := by decide +kernel
theorem dX7_sheet_9 : decode cX7_sheet 9 = .ok (.ifCond .eq 21, 3) := by decide +kernel
theorem dX7_sheet_12 : decode cX7_sheet 12 = .ok (.iload_n 2, 1) := by decide +kernel
theorem dX7_sheet_13 : decode cX7_sheet 13 = .ok (.i2l, 1) := by decide +kernel
theorem dX7_sheet_14 : decode cX7_sheet 14 = .ok (.lconst 0, 1) := by decide +kernel
theorem dX7_sheet_15 : decode cX7_sheet 15 = .ok (.ldc2_w 172, 3) := by decide +kernel
theorem dX7_sheet_18 : decode cX7_sheet 18 = .ok (.invokestatic 66, 3) := by decide +kernel
theorem dX7_sheet_21 : decode cX7_sheet 21 = .ok (.ifCond .eq 9, 3) := by decide +kernel
theorem dX7_sheet_24 : decode cX7_sheet 24 = .ok (.iload_n 3, 1) := by decide +kernel
theorem dX7_sheet_25 : decode cX7_sheet 25 = .ok (.bipush 40, 2) := by decide +kernel
theorem dX7_sheet_27 : decode cX7_sheet 27 = .ok (.if_icmp .le 5, 3) := by decide +kernel
theorem dX7_sheet_30 : decode cX7_sheet 30 = .ok (.iconst (-1), 1) := by decide +kernel
theorem dX7_sheet_31 : decode cX7_sheet 31 = .ok (.ireturn, 1) := by decide +kernel
theorem dX7_sheet_32 : decode cX7_sheet 32 = .ok (.iload_n 3, 1) := by decide +kernel
theorem dX7_sheet_33 : decode cX7_sheet 33 = .ok (.ifCond .ge 6, 3) := by decide +kernel
theorem dX7_sheet_36 : decode cX7_sheet 36 = .ok (.bipush (-14), 2) := by decide +kernel
theorem dX7_sheet_38 : decode cX7_sheet 38 = .ok (.ireturn, 1) := by decide +kernel
theorem dX7_sheet_39 : decode cX7_sheet 39 = .ok (.aload_n 0, 1) := by decide +kernel
theorem dX7_sheet_40 : decode cX7_sheet 40 = .ok (.getfield 54, 3) := by decide +kernel
theorem dX7_sheet_43 : decode cX7_sheet 43 = .ok (.iload_n 1, 1) := by decide +kernel
theorem dX7_sheet_44 : decode cX7_sheet 44 = .ok (.iload_n 2, 1) := by decide +kernel
theorem dX7_sheet_45 : decode cX7_sheet 45 = .ok (.iastore, 1) := by decide +kernel
theorem dX7_sheet_46 : decode cX7_sheet 46 = .ok (.aload_n 0, 1) := by decide +kernel
theorem dX7_sheet_47 : decode cX7_sheet 47 = .ok (.getfield 57, 3) := by decide +kernel
theorem dX7_sheet_50 : decode cX7_sheet 50 = .ok (.iload_n 1, 1) := by decide +kernel
theorem dX7_sheet_51 : decode cX7_sheet 51 = .ok (.iload_n 3, 1) := by decide +kernel
theorem dX7_sheet_52 : decode cX7_sheet 52 = .ok (.iastore, 1) := by decide +kernel
theorem dX7_sheet_53 : decode cX7_sheet 53 = .ok (.iconst 0, 1) := by decide +kernel
theorem dX7_sheet_54 : decode cX7_sheet 54 = .ok (.istore 4, 2) := by decide +kernel
theorem dX7_sheet_56 : decode cX7_sheet 56 = .ok (.iload 4, 2) := by decide +kernel
theorem dX7_sheet_58 : decode cX7_sheet 58 = .ok (.bipush 40, 2) := by decide +kernel
theorem dX7_sheet_60 : decode cX7_sheet 60 = .ok (.if_icmp .ge 22, 3) := by decide +kernel
theorem dX7_sheet_63 : decode cX7_sheet 63 = .ok (.aload_n 0, 1) := by decide +kernel
theorem dX7_sheet_64 : decode cX7_sheet 64 = .ok (.getfield 60, 3) := by decide +kernel
theorem dX7_sheet_67 : decode cX7_sheet 67 = .ok (.bipush 40, 2) := by decide +kernel
theorem dX7_sheet_69 : decode cX7_sheet 69 = .ok (.iload_n 1, 1) := by decide +kernel
theorem dX7_sheet_70 : decode cX7_sheet 70 = .ok (.imul, 1) := by decide +kernel
theorem dX7_sheet_71 : decode cX7_sheet 71 = .ok (.iload 4, 2) := by decide +kernel
theorem dX7_sheet_73 : decode cX7_sheet 73 = .ok (.iadd, 1) := by decide +kernel
theorem dX7_sheet_74 : decode cX7_sheet 74 = .ok (.iconst 0, 1) := by decide +kernel
theorem dX7_sheet_75 : decode cX7_sheet 75 = .ok (.iastore, 1) := by decide +kernel
theorem dX7_sheet_76 : decode cX7_sheet 76 = .ok (.iinc 4 1, 3) := by decide +kernel
theorem dX7_sheet_79 : decode cX7_sheet 79 = .ok (.goto (-23), 3) := by decide +kernel
theorem dX7_sheet_82 : decode cX7_sheet 82 = .ok (.iconst 1, 1) := by decide +kernel
theorem dX7_sheet_83 : decode cX7_sheet 83 = .ok (.ireturn, 1) := by decide +kernel
set_option maxRecDepth 20000 in
theorem ggX7_lay_X7_in : GoodIn wsX7_lay wsX7_in := goodIn_r _ [8] (by decide +kernel) (by decide +kernel)
set_option maxRecDepth 20000 in
theorem gX7_lay_X7_in : GoodIn wsX7_lay (va_wsS RX7 66 yX7_in wsX7_in) := goodIn_app (goodIn_of _ (by decide +kernel)) ggX7_lay_X7_in
theorem dX7_lay_0 : decode cX7_lay 0 = .ok (.iload_n 1, 1) := by decide +kernel
theorem dX7_lay_1 : decode cX7_lay 1 = .ok (.i2l, 1) := by decide +kernel
theorem dX7_lay_2 : decode cX7_lay 2 = .ok (.lconst 0, 1) := by decide +kernel
theorem dX7_lay_3 : decode cX7_lay 3 = .ok (.ldc2_w 139, 3) := by decide +kernel
theorem dX7_lay_6 : decode cX7_lay 6 = .ok (.invokestatic 66, 3) := by decide +kernel
theorem dX7_lay_9 : decode cX7_lay 9 = .ok (.ifCond .ne 5, 3) := by decide +kernel
theorem dX7_lay_12 : decode cX7_lay 12 = .ok (.iconst (-1), 1) := by decide +kernel
theorem dX7_lay_13 : decode cX7_lay 13 = .ok (.ireturn, 1) := by decide +kernel
theorem dX7_lay_14 : decode cX7_lay 14 = .ok (.aload_n 0, 1) := by decide +kernel
theorem dX7_lay_15 : decode cX7_lay 15 = .ok (.getfield 54, 3) := by decide +kernel
theorem dX7_lay_18 : decode cX7_lay 18 = .ok (.iload_n 1, 1) := by decide +kernel
theorem dX7_lay_19 : decode cX7_lay 19 = .ok (.iaload, 1) := by decide +kernel
theorem dX7_lay_20 : decode cX7_lay 20 = .ok (.bipush (-4), 2) := by decide +kernel
theorem dX7_lay_22 : decode cX7_lay 22 = .ok (.if_icmp .ne 6, 3) := by decide +kernel
theorem dX7_lay_25 : decode cX7_lay 25 = .ok (.bipush (-11), 2) := by decide +kernel
theorem dX7_lay_27 : decode cX7_lay 27 = .ok (.ireturn, 1) := by decide +kernel
theorem dX7_lay_28 : decode cX7_lay 28 = .ok (.iload_n 2, 1) := by decide +kernel
theorem dX7_lay_29 : decode cX7_lay 29 = .ok (.i2l, 1) := by decide +kernel
theorem dX7_lay_30 : decode cX7_lay 30 = .ok (.lconst 0, 1) := by decide +kernel
theorem dX7_lay_31 : decode cX7_lay 31 = .ok (.aload_n 0, 1) := by decide +kernel
theorem dX7_lay_32 : decode cX7_lay 32 = .ok (.getfield 57, 3) := by decide +kernel
theorem dX7_lay_35 : decode cX7_lay 35 = .ok (.iload_n 1, 1) := by decide +kernel
theorem dX7_lay_36 : decode cX7_lay 36 = .ok (.iaload, 1) := by decide +kernel
theorem dX7_lay_37 : decode cX7_lay 37 = .ok (.iconst 1, 1) := by decide +kernel
theorem dX7_lay_38 : decode cX7_lay 38 = .ok (.isub, 1) := by decide +kernel
theorem dX7_lay_39 : decode cX7_lay 39 = .ok (.i2l, 1) := by decide +kernel
theorem dX7_lay_40 : decode cX7_lay 40 = .ok (.invokestatic 66, 3) := by decide +kernel
theorem dX7_lay_43 : decode cX7_lay 43 = .ok (.ifCond .ne 6, 3) := by decide +kernel
theorem dX7_lay_46 : decode cX7_lay 46 = .ok (.bipush (-12), 2) := by decide +kernel
theorem dX7_lay_48 : decode cX7_lay 48 = .ok (.ireturn, 1) := by decide +kernel
theorem dX7_lay_49 : decode cX7_lay 49 = .ok (.aload_n 0, 1) := by decide +kernel
theorem dX7_lay_50 : decode cX7_lay 50 = .ok (.getfield 60, 3) := by decide +kernel
theorem dX7_lay_53 : decode cX7_lay 53 = .ok (.bipush 40, 2) := by decide +kernel
theorem dX7_lay_55 : decode cX7_lay 55 = .ok (.iload_n 1, 1) := by decide +kernel
theorem dX7_lay_56 : decode cX7_lay 56 = .ok (.imul, 1) := by decide +kernel
theorem dX7_lay_57 : decode cX7_lay 57 = .ok (.iload_n 2, 1) := by decide +kernel
theorem dX7_lay_58 : decode cX7_lay 58 = .ok (.iadd, 1) := by decide +kernel
theorem dX7_lay_59 : decode cX7_lay 59 = .ok (.aload_n 0, 1) := by decide +kernel
theorem dX7_lay_60 : decode cX7_lay 60 = .ok (.getfield 54, 3) := by decide +kernel
theorem dX7_lay_63 : decode cX7_lay 63 = .ok (.iload_n 1, 1) := by decide +kernel
theorem dX7_lay_64 : decode cX7_lay 64 = .ok (.iaload, 1) := by decide +kernel
theorem dX7_lay_65 : decode cX7_lay 65 = .ok (.ifCond .ne 13, 3) := by decide +kernel
theorem dX7_lay_68 : decode cX7_lay 68 = .ok (.iload_n 3, 1) := by decide +kernel
theorem dX7_lay_69 : decode cX7_lay 69 = .ok (.bipush 24, 2) := by decide +kernel
theorem dX7_lay_71 : decode cX7_lay 71 = .ok (.ishl, 1) := by decide +kernel
theorem dX7_lay_72 : decode cX7_lay 72 = .ok (.bipush 24, 2) := by decide +kernel
theorem dX7_lay_74 : decode cX7_lay 74 = .ok (.ishr, 1) := by decide +kernel
theorem dX7_lay_75 : decode cX7_lay 75 = .ok (.goto 24, 3) := by decide +kernel
theorem dX7_lay_78 : decode cX7_lay 78 = .ok (.aload_n 0, 1) := by decide +kernel
theorem dX7_lay_79 : decode cX7_lay 79 = .ok (.getfield 54, 3) := by decide +kernel
theorem dX7_lay_82 : decode cX7_lay 82 = .ok (.iload_n 1, 1) := by decide +kernel
theorem dX7_lay_83 : decode cX7_lay 83 = .ok (.iaload, 1) := by decide +kernel
theorem dX7_lay_84 : decode cX7_lay 84 = .ok (.iconst 1, 1) := by decide +kernel
theorem dX7_lay_85 : decode cX7_lay 85 = .ok (.if_icmp .ne 13, 3) := by decide +kernel
theorem dX7_lay_88 : decode cX7_lay 88 = .ok (.iload_n 3, 1) := by decide +kernel
theorem dX7_lay_89 : decode cX7_lay 89 = .ok (.bipush 16, 2) := by decide +kernel
theorem dX7_lay_91 : decode cX7_lay 91 = .ok (.ishl, 1) := by decide +kernel
theorem dX7_lay_92 : decode cX7_lay 92 = .ok (.bipush 16, 2) := by decide +kernel
theorem dX7_lay_94 : decode cX7_lay 94 = .ok (.ishr, 1) := by decide +kernel
theorem dX7_lay_95 : decode cX7_lay 95 = .ok (.goto 4, 3) := by decide +kernel
theorem dX7_lay_98 : decode cX7_lay 98 = .ok (.iload_n 3, 1) := by decide +kernel
theorem dX7_lay_99 : decode cX7_lay 99 = .ok (.iastore, 1) := by decide +kernel
theorem dX7_lay_100 : decode cX7_lay 100 = .ok (.iconst 1, 1) := by decide +kernel
theorem dX7_lay_101 : decode cX7_lay 101 = .ok (.ireturn, 1) := by decide +kernel
set_option maxRecDepth 20000 in
theorem ggX7_read_X7_in : GoodIn wsX7_read wsX7_in := goodIn_r _ [12] (by decide +kernel) (by decide +kernel)
set_option maxRecDepth 20000 in
theorem gX7_read_X7_in : GoodIn wsX7_read (va_wsS RX7 66 yX7_in wsX7_in) := goodIn_app (goodIn_of _ (by decide +kernel)) ggX7_read_X7_in
set_option maxRecDepth 20000 in
theorem ggX7_read_X7_moves : GoodIn wsX7_read wsX7_moves := goodIn_r _ [16, 4, 17, 18, 11, 19, 20, 9, 10, 12, 21, 22, 23, 24, 25, 26, 27, 28, 29, 30, 31, 32, 33, 34, 35, 36, 37, 38, 39, 40, 41, 42, 43, 44, 45, 46, 47, 48, 49, 50, 51, 52, 53, 54, 55, 56, 57, 58, 59, 60, 61, 62, 63, 64, 65, 66, 67, 68, 69, 70, 71] (by decide +kernel) (by decide +kernel)
set_option maxRecDepth 20000 in
theorem gX7_read_X7_moves : GoodIn wsX7_read (wsV RX7 184 RX7 yX7_moves wsX7_moves) := goodIn_app (goodIn_of _ (by decide +kernel)) ggX7_read_X7_moves
theorem dX7_read_0 : decode cX7_read 0 = .ok (.iload_n 1, 1) := by decide +kernel
theorem dX7_read_1 : decode cX7_read 1 = .ok (.i2l, 1) := by decide +kernel
theorem dX7_read_2 : decode cX7_read 2 = .ok (.lconst 0, 1) := by decide +kernel
theorem dX7_read_3 : decode cX7_read 3 = .ok (.ldc2_w 139, 3) := by decide +kernel
theorem dX7_read_6 : decode cX7_read 6 = .ok (.invokestatic 66, 3) := by decide +kernel
theorem dX7_read_9 : decode cX7_read 9 = .ok (.ifCond .eq 28, 3) := by decide +kernel
theorem dX7_read_12 : decode cX7_read 12 = .ok (.iload_n 2, 1) := by decide +kernel
theorem dX7_read_13 : decode cX7_read 13 = .ok (.i2l, 1) := by decide +kernel
theorem dX7_read_14 : decode cX7_read 14 = .ok (.lconst 0, 1) := by decide +kernel
theorem dX7_read_15 : decode cX7_read 15 = .ok (.ldc2_w 172, 3) := by decide +kernel
theorem dX7_read_18 : decode cX7_read 18 = .ok (.invokestatic 66, 3) := by decide +kernel
theorem dX7_read_21 : decode cX7_read 21 = .ok (.ifCond .eq 16, 3) := by decide +kernel
theorem dX7_read_24 : decode cX7_read 24 = .ok (.iload 4, 2) := by decide +kernel
theorem dX7_read_26 : decode cX7_read 26 = .ok (.i2l, 1) := by decide +kernel
theorem dX7_read_27 : decode cX7_read 27 = .ok (.lconst 0, 1) := by decide +kernel
theorem dX7_read_28 : decode cX7_read 28 = .ok (.ldc2_w 277, 3) := by decide +kernel
theorem dX7_read_31 : decode cX7_read 31 = .ok (.invokestatic 66, 3) := by decide +kernel
theorem dX7_read_34 : decode cX7_read 34 = .ok (.ifCond .ne 5, 3) := by decide +kernel
theorem dX7_read_37 : decode cX7_read 37 = .ok (.iconst (-1), 1) := by decide +kernel
theorem dX7_read_38 : decode cX7_read 38 = .ok (.ireturn, 1) := by decide +kernel
theorem dX7_read_39 : decode cX7_read 39 = .ok (.aload_n 0, 1) := by decide +kernel
theorem dX7_read_40 : decode cX7_read 40 = .ok (.getfield 7, 3) := by decide +kernel
theorem dX7_read_43 : decode cX7_read 43 = .ok (.bipush 89, 2) := by decide +kernel
theorem dX7_read_45 : decode cX7_read 45 = .ok (.iaload, 1) := by decide +kernel
theorem dX7_read_46 : decode cX7_read 46 = .ok (.istore 5, 2) := by decide +kernel
theorem dX7_read_48 : decode cX7_read 48 = .ok (.iconst 0, 1) := by decide +kernel
theorem dX7_read_49 : decode cX7_read 49 = .ok (.istore 6, 2) := by decide +kernel
theorem dX7_read_51 : decode cX7_read 51 = .ok (.iconst 0, 1) := by decide +kernel
theorem dX7_read_52 : decode cX7_read 52 = .ok (.istore 7, 2) := by decide +kernel
theorem dX7_read_54 : decode cX7_read 54 = .ok (.iconst 0, 1) := by decide +kernel
theorem dX7_read_55 : decode cX7_read 55 = .ok (.istore 8, 2) := by decide +kernel
theorem dX7_read_57 : decode cX7_read 57 = .ok (.iconst 0, 1) := by decide +kernel
theorem dX7_read_58 : decode cX7_read 58 = .ok (.istore 9, 2) := by decide +kernel
theorem dX7_read_60 : decode cX7_read 60 = .ok (.iload 9, 2) := by decide +kernel
theorem dX7_read_62 : decode cX7_read 62 = .ok (.iconst 3, 1) := by decide +kernel
theorem dX7_read_63 : decode cX7_read 63 = .ok (.iload 4, 2) := by decide +kernel
theorem dX7_read_65 : decode cX7_read 65 = .ok (.imul, 1) := by decide +kernel
theorem dX7_read_66 : decode cX7_read 66 = .ok (.if_icmp .ge 155, 3) := by decide +kernel
theorem dX7_read_69 : decode cX7_read 69 = .ok (.iload 6, 2) := by decide +kernel
theorem dX7_read_71 : decode cX7_read 71 = .ok (.ifCond .ne 150, 3) := by decide +kernel
theorem dX7_read_74 : decode cX7_read 74 = .ok (.iload 8, 2) := by decide +kernel
theorem dX7_read_76 : decode cX7_read 76 = .ok (.ifCond .ne 145, 3) := by decide +kernel
theorem dX7_read_79 : decode cX7_read 79 = .ok (.aload_n 0, 1) := by decide +kernel
theorem dX7_read_80 : decode cX7_read 80 = .ok (.getfield 54, 3) := by decide +kernel
theorem dX7_read_83 : decode cX7_read 83 = .ok (.iload_n 1, 1) := by decide +kernel
theorem dX7_read_84 : decode cX7_read 84 = .ok (.iaload, 1) := by decide +kernel
theorem dX7_read_85 : decode cX7_read 85 = .ok (.bipush (-4), 2) := by decide +kernel
theorem dX7_read_87 : decode cX7_read 87 = .ok (.if_icmp .ne 7, 3) := by decide +kernel
theorem dX7_read_90 : decode cX7_read 90 = .ok (.iconst 1, 1) := by decide +kernel
theorem dX7_read_91 : decode cX7_read 91 = .ok (.goto 44, 3) := by decide +kernel
theorem dX7_read_94 : decode cX7_read 94 = .ok (.aload_n 0, 1) := by decide +kernel
theorem dX7_read_95 : decode cX7_read 95 = .ok (.getfield 54, 3) := by decide +kernel
theorem dX7_read_98 : decode cX7_read 98 = .ok (.iload_n 1, 1) := by decide +kernel
theorem dX7_read_99 : decode cX7_read 99 = .ok (.iaload, 1) := by decide +kernel
theorem dX7_read_100 : decode cX7_read 100 = .ok (.iload_n 2, 1) := by decide +kernel
theorem dX7_read_101 : decode cX7_read 101 = .ok (.if_icmp .eq 7, 3) := by decide +kernel
theorem dX7_read_104 : decode cX7_read 104 = .ok (.iconst 3, 1) := by decide +kernel
theorem dX7_read_105 : decode cX7_read 105 = .ok (.goto 30, 3) := by decide +kernel
theorem dX7_read_108 : decode cX7_read 108 = .ok (.iload_n 3, 1) := by decide +kernel
theorem dX7_read_109 : decode cX7_read 109 = .ok (.i2l, 1) := by decide +kernel
theorem dX7_read_110 : decode cX7_read 110 = .ok (.iload 9, 2) := by decide +kernel
theorem dX7_read_112 : decode cX7_read 112 = .ok (.i2l, 1) := by decide +kernel
theorem dX7_read_113 : decode cX7_read 113 = .ok (.ladd, 1) := by decide +kernel
theorem dX7_read_114 : decode cX7_read 114 = .ok (.lconst 0, 1) := by decide +kernel
theorem dX7_read_115 : decode cX7_read 115 = .ok (.aload_n 0, 1) := by decide +kernel
theorem dX7_read_116 : decode cX7_read 116 = .ok (.getfield 57, 3) := by decide +kernel
theorem dX7_read_119 : decode cX7_read 119 = .ok (.iload_n 1, 1) := by decide +kernel
theorem dX7_read_120 : decode cX7_read 120 = .ok (.iaload, 1) := by decide +kernel
theorem dX7_read_121 : decode cX7_read 121 = .ok (.iconst 1, 1) := by decide +kernel
theorem dX7_read_122 : decode cX7_read 122 = .ok (.isub, 1) := by decide +kernel
theorem dX7_read_123 : decode cX7_read 123 = .ok (.i2l, 1) := by decide +kernel
theorem dX7_read_124 : decode cX7_read 124 = .ok (.invokestatic 66, 3) := by decide +kernel
theorem dX7_read_127 : decode cX7_read 127 = .ok (.ifCond .ne 7, 3) := by decide +kernel
theorem dX7_read_130 : decode cX7_read 130 = .ok (.iconst 2, 1) := by decide +kernel
theorem dX7_read_131 : decode cX7_read 131 = .ok (.goto 4, 3) := by decide +kernel
theorem dX7_read_134 : decode cX7_read 134 = .ok (.iconst 0, 1) := by decide +kernel
theorem dX7_read_135 : decode cX7_read 135 = .ok (.istore 6, 2) := by decide +kernel
theorem dX7_read_137 : decode cX7_read 137 = .ok (.iload 6, 2) := by decide +kernel
theorem dX7_read_139 : decode cX7_read 139 = .ok (.ifCond .ne 76, 3) := by decide +kernel
theorem dX7_read_142 : decode cX7_read 142 = .ok (.iload 9, 2) := by decide +kernel
theorem dX7_read_144 : decode cX7_read 144 = .ok (.iconst 3, 1) := by decide +kernel
theorem dX7_read_145 : decode cX7_read 145 = .ok (.irem, 1) := by decide +kernel
theorem dX7_read_146 : decode cX7_read 146 = .ok (.iconst 2, 1) := by decide +kernel
theorem dX7_read_147 : decode cX7_read 147 = .ok (.if_icmp .ne 68, 3) := by decide +kernel
theorem dX7_read_150 : decode cX7_read 150 = .ok (.bipush 40, 2) := by decide +kernel
theorem dX7_read_152 : decode cX7_read 152 = .ok (.iload_n 1, 1) := by decide +kernel
theorem dX7_read_153 : decode cX7_read 153 = .ok (.imul, 1) := by decide +kernel
theorem dX7_read_154 : decode cX7_read 154 = .ok (.iload_n 3, 1) := by decide +kernel
theorem dX7_read_155 : decode cX7_read 155 = .ok (.iadd, 1) := by decide +kernel
theorem dX7_read_156 : decode cX7_read 156 = .ok (.iload 9, 2) := by decide +kernel
theorem dX7_read_158 : decode cX7_read 158 = .ok (.iadd, 1) := by decide +kernel
theorem dX7_read_159 : decode cX7_read 159 = .ok (.istore 10, 2) := by decide +kernel
theorem dX7_read_161 : decode cX7_read 161 = .ok (.aload_n 0, 1) := by decide +kernel
theorem dX7_read_162 : decode cX7_read 162 = .ok (.aload_n 0, 1) := by decide +kernel
theorem dX7_read_163 : decode cX7_read 163 = .ok (.getfield 60, 3) := by decide +kernel
theorem dX7_read_166 : decode cX7_read 166 = .ok (.iload 10, 2) := by decide +kernel
theorem dX7_read_168 : decode cX7_read 168 = .ok (.iconst 2, 1) := by decide +kernel
theorem dX7_read_169 : decode cX7_read 169 = .ok (.isub, 1) := by decide +kernel
theorem dX7_read_170 : decode cX7_read 170 = .ok (.iaload, 1) := by decide +kernel
theorem dX7_read_171 : decode cX7_read 171 = .ok (.aload_n 0, 1) := by decide +kernel
theorem dX7_read_172 : decode cX7_read 172 = .ok (.getfield 60, 3) := by decide +kernel
theorem dX7_read_175 : decode cX7_read 175 = .ok (.iload 10, 2) := by decide +kernel
theorem dX7_read_177 : decode cX7_read 177 = .ok (.iconst 1, 1) := by decide +kernel
theorem dX7_read_178 : decode cX7_read 178 = .ok (.isub, 1) := by decide +kernel
theorem dX7_read_179 : decode cX7_read 179 = .ok (.iaload, 1) := by decide +kernel
theorem dX7_read_180 : decode cX7_read 180 = .ok (.aload_n 0, 1) := by decide +kernel
theorem dX7_read_181 : decode cX7_read 181 = .ok (.getfield 60, 3) := by decide +kernel
theorem dX7_read_184 : decode cX7_read 184 = .ok (.iload 10, 2) := by decide +kernel
theorem dX7_read_186 : decode cX7_read 186 = .ok (.iaload, 1) := by decide +kernel
theorem dX7_read_187 : decode cX7_read 187 = .ok (.invokevirtual 184, 3) := by decide +kernel
theorem dX7_read_190 : decode cX7_read 190 = .ok (.ifCond .ge 7, 3) := by decide +kernel
theorem dX7_read_193 : decode cX7_read 193 = .ok (.iconst 1, 1) := by decide +kernel
theorem dX7_read_194 : decode cX7_read 194 = .ok (.goto 4, 3) := by decide +kernel
theorem dX7_read_197 : decode cX7_read 197 = .ok (.iconst 0, 1) := by decide +kernel
theorem dX7_read_198 : decode cX7_read 198 = .ok (.istore 8, 2) := by decide +kernel
theorem dX7_read_200 : decode cX7_read 200 = .ok (.iload 7, 2) := by decide +kernel
theorem dX7_read_202 : decode cX7_read 202 = .ok (.iload 8, 2) := by decide +kernel
theorem dX7_read_204 : decode cX7_read 204 = .ok (.ifCond .eq 7, 3) := by decide +kernel
theorem dX7_read_207 : decode cX7_read 207 = .ok (.iconst 0, 1) := by decide +kernel
theorem dX7_read_208 : decode cX7_read 208 = .ok (.goto 4, 3) := by decide +kernel
theorem dX7_read_211 : decode cX7_read 211 = .ok (.iconst 1, 1) := by decide +kernel
theorem dX7_read_212 : decode cX7_read 212 = .ok (.iadd, 1) := by decide +kernel
theorem dX7_read_213 : decode cX7_read 213 = .ok (.istore 7, 2) := by decide +kernel
theorem dX7_read_215 : decode cX7_read 215 = .ok (.iinc 9 1, 3) := by decide +kernel
theorem dX7_read_218 : decode cX7_read 218 = .ok (.goto (-158), 3) := by decide +kernel
theorem dX7_read_221 : decode cX7_read 221 = .ok (.iload 8, 2) := by decide +kernel
theorem dX7_read_223 : decode cX7_read 223 = .ok (.ifCond .eq 18, 3) := by decide +kernel
theorem dX7_read_226 : decode cX7_read 226 = .ok (.aload_n 0, 1) := by decide +kernel
theorem dX7_read_227 : decode cX7_read 227 = .ok (.getfield 7, 3) := by decide +kernel
theorem dX7_read_230 : decode cX7_read 230 = .ok (.bipush 89, 2) := by decide +kernel
theorem dX7_read_232 : decode cX7_read 232 = .ok (.iload 5, 2) := by decide +kernel
theorem dX7_read_234 : decode cX7_read 234 = .ok (.iastore, 1) := by decide +kernel
theorem dX7_read_235 : decode cX7_read 235 = .ok (.bipush (-20), 2) := by decide +kernel
theorem dX7_read_237 : decode cX7_read 237 = .ok (.iload 7, 2) := by decide +kernel
theorem dX7_read_239 : decode cX7_read 239 = .ok (.isub, 1) := by decide +kernel
theorem dX7_read_240 : decode cX7_read 240 = .ok (.ireturn, 1) := by decide +kernel
theorem dX7_read_241 : decode cX7_read 241 = .ok (.aload_n 0, 1) := by decide +kernel
theorem dX7_read_242 : decode cX7_read 242 = .ok (.iload 6, 2) := by decide +kernel
theorem dX7_read_244 : decode cX7_read 244 = .ok (.putfield 279, 3) := by decide +kernel
theorem dX7_read_247 : decode cX7_read 247 = .ok (.iload 7, 2) := by decide +kernel
theorem dX7_read_249 : decode cX7_read 249 = .ok (.ireturn, 1) := by decide +kernel
theorem dX7_torn_0 : decode cX7_torn 0 = .ok (.aload_n 0, 1) := by decide +kernel
theorem dX7_torn_1 : decode cX7_torn 1 = .ok (.getfield 279, 3) := by decide +kernel
theorem dX7_torn_4 : decode cX7_torn 4 = .ok (.ireturn, 1) := by decide +kernel
theorem dX7_count_0 : decode cX7_count 0 = .ok (.iload_n 1, 1) := by decide +kernel
theorem dX7_count_1 : decode cX7_count 1 = .ok (.tableswitch 103 0 4 #[35, 40, 45, 75, 80], 35) := by decide +kernel
theorem dX7_count_36 : decode cX7_count 36 = .ok (.aload_n 0, 1) := by decide +kernel
theorem dX7_count_37 : decode cX7_count 37 = .ok (.getfield 164, 3) := by decide +kernel
theorem dX7_count_40 : decode cX7_count 40 = .ok (.ireturn, 1) := by decide +kernel
theorem dX7_count_41 : decode cX7_count 41 = .ok (.aload_n 0, 1) := by decide +kernel
theorem dX7_count_42 : decode cX7_count 42 = .ok (.getfield 161, 3) := by decide +kernel
theorem dX7_count_45 : decode cX7_count 45 = .ok (.ireturn, 1) := by decide +kernel
theorem dX7_count_46 : decode cX7_count 46 = .ok (.aload_n 0, 1) := by decide +kernel
theorem dX7_count_47 : decode cX7_count 47 = .ok (.getfield 50, 3) := by decide +kernel
theorem dX7_count_50 : decode cX7_count 50 = .ok (.iconst 0, 1) := by decide +kernel
theorem dX7_count_51 : decode cX7_count 51 = .ok (.baload, 1) := by decide +kernel
theorem dX7_count_52 : decode cX7_count 52 = .ok (.ifCond .eq 7, 3) := by decide +kernel
theorem dX7_count_55 : decode cX7_count 55 = .ok (.iconst 1, 1) := by decide +kernel
theorem dX7_count_56 : decode cX7_count 56 = .ok (.goto 4, 3) := by decide +kernel
theorem dX7_count_59 : decode cX7_count 59 = .ok (.iconst 0, 1) := by decide +kernel
theorem dX7_count_60 : decode cX7_count 60 = .ok (.aload_n 0, 1) := by decide +kernel
theorem dX7_count_61 : decode cX7_count 61 = .ok (.getfield 50, 3) := by decide +kernel
theorem dX7_count_64 : decode cX7_count 64 = .ok (.iconst 1, 1) := by decide +kernel
theorem dX7_count_65 : decode cX7_count 65 = .ok (.baload, 1) := by decide +kernel
theorem dX7_count_66 : decode cX7_count 66 = .ok (.ifCond .eq 7, 3) := by decide +kernel
theorem dX7_count_69 : decode cX7_count 69 = .ok (.iconst 1, 1) := by decide +kernel
theorem dX7_count_70 : decode cX7_count 70 = .ok (.goto 4, 3) := by decide +kernel
theorem dX7_count_73 : decode cX7_count 73 = .ok (.iconst 0, 1) := by decide +kernel
theorem dX7_count_74 : decode cX7_count 74 = .ok (.iadd, 1) := by decide +kernel
theorem dX7_count_75 : decode cX7_count 75 = .ok (.ireturn, 1) := by decide +kernel
theorem dX7_count_76 : decode cX7_count 76 = .ok (.aload_n 0, 1) := by decide +kernel
theorem dX7_count_77 : decode cX7_count 77 = .ok (.getfield 63, 3) := by decide +kernel
theorem dX7_count_80 : decode cX7_count 80 = .ok (.ireturn, 1) := by decide +kernel
theorem dX7_count_81 : decode cX7_count 81 = .ok (.aload_n 0, 1) := by decide +kernel
theorem dX7_count_82 : decode cX7_count 82 = .ok (.getfield 54, 3) := by decide +kernel
theorem dX7_count_85 : decode cX7_count 85 = .ok (.iconst 0, 1) := by decide +kernel
theorem dX7_count_86 : decode cX7_count 86 = .ok (.iaload, 1) := by decide +kernel
theorem dX7_count_87 : decode cX7_count 87 = .ok (.bipush (-4), 2) := by decide +kernel
theorem dX7_count_89 : decode cX7_count 89 = .ok (.if_icmp .ne 8, 3) := by decide +kernel
theorem dX7_count_92 : decode cX7_count 92 = .ok (.bipush (-4), 2) := by decide +kernel
theorem dX7_count_94 : decode cX7_count 94 = .ok (.goto 9, 3) := by decide +kernel
theorem dX7_count_97 : decode cX7_count 97 = .ok (.aload_n 0, 1) := by decide +kernel
theorem dX7_count_98 : decode cX7_count 98 = .ok (.getfield 57, 3) := by decide +kernel
theorem dX7_count_101 : decode cX7_count 101 = .ok (.iconst 0, 1) := by decide +kernel
theorem dX7_count_102 : decode cX7_count 102 = .ok (.iaload, 1) := by decide +kernel
theorem dX7_count_103 : decode cX7_count 103 = .ok (.ireturn, 1) := by decide +kernel
theorem dX7_count_104 : decode cX7_count 104 = .ok (.iconst (-1), 1) := by decide +kernel
theorem dX7_count_105 : decode cX7_count 105 = .ok (.ireturn, 1) := by decide +kernel
