set_option maxRecDepth 20000 in
theorem ggX5_init_X2_init : GoodIn wsX5_init wsX2_init := goodIn_r _ [25, 26, 2, 3, 7, 27, 28, 29, 30, 47, 48, 49, 50] (by decide +kernel) (by decide +kernel)
set_option maxRecDepth 20000 in
theorem gX5_init_X2_init_n60 : GoodIn wsX5_init (wsX2_init) := ggX5_init_X2_init
theorem dX5_init_0 : decode cX5_init 0 = .ok (.aload_n 0, 1) := by decide +kernel
theorem dX5_init_1 : decode cX5_init 1 = .ok (.invokespecial 3, 3) := by decide +kernel
theorem dX5_init_4 : decode cX5_init 4 = .ok (.aload_n 0, 1) := by decide +kernel
theorem dX5_init_5 : decode cX5_init 5 = .ok (.iconst 4, 1) := by decide +kernel
theorem dX5_init_6 : decode cX5_init 6 = .ok (.putfield 9, 3) := by decide +kernel
theorem dX5_init_9 : decode cX5_init 9 = .ok (.aload_n 0, 1) := by decide +kernel
theorem dX5_init_10 : decode cX5_init 10 = .ok (.iconst 0, 1) := by decide +kernel
theorem dX5_init_11 : decode cX5_init 11 = .ok (.putfield 15, 3) := by decide +kernel
theorem dX5_init_14 : decode cX5_init 14 = .ok (.aload_n 0, 1) := by decide +kernel
theorem dX5_init_15 : decode cX5_init 15 = .ok (.iconst 0, 1) := by decide +kernel
theorem dX5_init_16 : decode cX5_init 16 = .ok (.putfield 18, 3) := by decide +kernel
theorem dX5_init_19 : decode cX5_init 19 = .ok (.aload_n 0, 1) := by decide +kernel
theorem dX5_init_20 : decode cX5_init 20 = .ok (.bipush 14, 2) := by decide +kernel
theorem dX5_init_22 : decode cX5_init 22 = .ok (.newarray .int, 2) := by decide +kernel
theorem dX5_init_24 : decode cX5_init 24 = .ok (.putfield 21, 3) := by decide +kernel
theorem dX5_init_27 : decode cX5_init 27 = .ok (.aload_n 0, 1) := by decide +kernel
theorem dX5_init_28 : decode cX5_init 28 = .ok (.bipush 14, 2) := by decide +kernel
theorem dX5_init_30 : decode cX5_init 30 = .ok (.newarray .int, 2) := by decide +kernel
theorem dX5_init_32 : decode cX5_init 32 = .ok (.putfield 25, 3) := by decide +kernel
theorem dX5_init_35 : decode cX5_init 35 = .ok (.aload_n 0, 1) := by decide +kernel
theorem dX5_init_36 : decode cX5_init 36 = .ok (.bipush 14, 2) := by decide +kernel
theorem dX5_init_38 : decode cX5_init 38 = .ok (.newarray .int, 2) := by decide +kernel
theorem dX5_init_40 : decode cX5_init 40 = .ok (.putfield 28, 3) := by decide +kernel
theorem dX5_init_43 : decode cX5_init 43 = .ok (.aload_n 0, 1) := by decide +kernel
theorem dX5_init_44 : decode cX5_init 44 = .ok (.bipush 14, 2) := by decide +kernel
theorem dX5_init_46 : decode cX5_init 46 = .ok (.newarray .int, 2) := by decide +kernel
theorem dX5_init_48 : decode cX5_init 48 = .ok (.putfield 31, 3) := by decide +kernel
theorem dX5_init_51 : decode cX5_init 51 = .ok (.aload_n 0, 1) := by decide +kernel
theorem dX5_init_52 : decode cX5_init 52 = .ok (.iconst 0, 1) := by decide +kernel
theorem dX5_init_53 : decode cX5_init 53 = .ok (.putfield 34, 3) := by decide +kernel
theorem dX5_init_56 : decode cX5_init 56 = .ok (.aload_n 0, 1) := by decide +kernel
theorem dX5_init_57 : decode cX5_init 57 = .ok (.bipush 12, 2) := by decide +kernel
theorem dX5_init_59 : decode cX5_init 59 = .ok (.newarray .int, 2) := by decide +kernel
theorem dX5_init_61 : decode cX5_init 61 = .ok (.putfield 37, 3) := by decide +kernel
theorem dX5_init_64 : decode cX5_init 64 = .ok (.aload_n 0, 1) := by decide +kernel
theorem dX5_init_65 : decode cX5_init 65 = .ok (.bipush 12, 2) := by decide +kernel
theorem dX5_init_67 : decode cX5_init 67 = .ok (.newarray .int, 2) := by decide +kernel
theorem dX5_init_69 : decode cX5_init 69 = .ok (.putfield 40, 3) := by decide +kernel
theorem dX5_init_72 : decode cX5_init 72 = .ok (.aload_n 0, 1) := by decide +kernel
theorem dX5_init_73 : decode cX5_init 73 = .ok (.bipush 12, 2) := by decide +kernel
theorem dX5_init_75 : decode cX5_init 75 = .ok (.newarray .int, 2) := by decide +kernel
theorem dX5_init_77 : decode cX5_init 77 = .ok (.putfield 43, 3) := by decide +kernel
theorem dX5_init_80 : decode cX5_init 80 = .ok (.aload_n 0, 1) := by decide +kernel
theorem dX5_init_81 : decode cX5_init 81 = .ok (.iconst 0, 1) := by decide +kernel
theorem dX5_init_82 : decode cX5_init 82 = .ok (.putfield 46, 3) := by decide +kernel
theorem dX5_init_85 : decode cX5_init 85 = .ok (.aload_n 0, 1) := by decide +kernel
theorem dX5_init_86 : decode cX5_init 86 = .ok (.iconst 4, 1) := by decide +kernel
theorem dX5_init_87 : decode cX5_init 87 = .ok (.newarray .int, 2) := by decide +kernel
theorem dX5_init_89 : decode cX5_init 89 = .ok (.putfield 49, 3) := by decide +kernel
theorem dX5_init_92 : decode cX5_init 92 = .ok (.aload_n 0, 1) := by decide +kernel
theorem dX5_init_93 : decode cX5_init 93 = .ok (.iconst 4, 1) := by decide +kernel
theorem dX5_init_94 : decode cX5_init 94 = .ok (.newarray .int, 2) := by decide +kernel
theorem dX5_init_96 : decode cX5_init 96 = .ok (.putfield 52, 3) := by decide +kernel
theorem dX5_init_99 : decode cX5_init 99 = .ok (.aload_n 0, 1) := by decide +kernel
theorem dX5_init_100 : decode cX5_init 100 = .ok (.iconst 4, 1) := by decide +kernel
theorem dX5_init_101 : decode cX5_init 101 = .ok (.newarray .int, 2) := by decide +kernel
theorem dX5_init_103 : decode cX5_init 103 = .ok (.putfield 55, 3) := by decide +kernel
theorem dX5_init_106 : decode cX5_init 106 = .ok (.aload_n 0, 1) := by decide +kernel
theorem dX5_init_107 : decode cX5_init 107 = .ok (.new 58, 3) := by decide +kernel
theorem dX5_init_110 : decode cX5_init 110 = .ok (.dup, 1) := by decide +kernel
theorem dX5_init_111 : decode cX5_init 111 = .ok (.invokespecial 60, 3) := by decide +kernel
theorem dX5_init_114 : decode cX5_init 114 = .ok (.putfield 61, 3) := by decide +kernel
theorem dX5_init_117 : decode cX5_init 117 = .ok (.return_, 1) := by decide +kernel
theorem dX5_begin_0 : decode cX5_begin 0 = .ok (.aload_n 0, 1) := by decide +kernel
theorem dX5_begin_1 : decode cX5_begin 1 = .ok (.iconst 4, 1) := by decide +kernel
theorem dX5_begin_2 : decode cX5_begin 2 = .ok (.putfield 9, 3) := by decide +kernel
theorem dX5_begin_5 : decode cX5_begin 5 = .ok (.aload_n 0, 1) := by decide +kernel
theorem dX5_begin_6 : decode cX5_begin 6 = .ok (.iconst 0, 1) := by decide +kernel
theorem dX5_begin_7 : decode cX5_begin 7 = .ok (.putfield 15, 3) := by decide +kernel
theorem dX5_begin_10 : decode cX5_begin 10 = .ok (.aload_n 0, 1) := by decide +kernel
theorem dX5_begin_11 : decode cX5_begin 11 = .ok (.iconst 0, 1) := by decide +kernel
theorem dX5_begin_12 : decode cX5_begin 12 = .ok (.putfield 18, 3) := by decide +kernel
theorem dX5_begin_15 : decode cX5_begin 15 = .ok (.aload_n 0, 1) := by decide +kernel
theorem dX5_begin_16 : decode cX5_begin 16 = .ok (.iconst 0, 1) := by decide +kernel
theorem dX5_begin_17 : decode cX5_begin 17 = .ok (.putfield 34, 3) := by decide +kernel
theorem dX5_begin_20 : decode cX5_begin 20 = .ok (.aload_n 0, 1) := by decide +kernel
theorem dX5_begin_21 : decode cX5_begin 21 = .ok (.iconst 0, 1) := by decide +kernel
theorem dX5_begin_22 : decode cX5_begin 22 = .ok (.putfield 46, 3) := by decide +kernel
theorem dX5_begin_25 : decode cX5_begin 25 = .ok (.return_, 1) := by decide +kernel
theorem dX5_copyOf_0 : decode cX5_copyOf 0 = .ok (.aload_n 0, 1) := by decide +kernel
theorem dX5_copyOf_1 : decode cX5_copyOf 1 = .ok (.aload_n 1, 1) := by decide +kernel
theorem dX5_copyOf_2 : decode cX5_copyOf 2 = .ok (.getfield 9, 3) := by decide +kernel
theorem dX5_copyOf_5 : decode cX5_copyOf 5 = .ok (.putfield 9, 3) := by decide +kernel
theorem dX5_copyOf_8 : decode cX5_copyOf 8 = .ok (.aload_n 0, 1) := by decide +kernel
theorem dX5_copyOf_9 : decode cX5_copyOf 9 = .ok (.aload_n 1, 1) := by decide +kernel
theorem dX5_copyOf_10 : decode cX5_copyOf 10 = .ok (.getfield 15, 3) := by decide +kernel
theorem dX5_copyOf_13 : decode cX5_copyOf 13 = .ok (.putfield 15, 3) := by decide +kernel
theorem dX5_copyOf_16 : decode cX5_copyOf 16 = .ok (.aload_n 0, 1) := by decide +kernel
theorem dX5_copyOf_17 : decode cX5_copyOf 17 = .ok (.aload_n 1, 1) := by decide +kernel
theorem dX5_copyOf_18 : decode cX5_copyOf 18 = .ok (.getfield 18, 3) := by decide +kernel
theorem dX5_copyOf_21 : decode cX5_copyOf 21 = .ok (.putfield 18, 3) := by decide +kernel
theorem dX5_copyOf_24 : decode cX5_copyOf 24 = .ok (.aload_n 0, 1) := by decide +kernel
theorem dX5_copyOf_25 : decode cX5_copyOf 25 = .ok (.aload_n 1, 1) := by decide +kernel
theorem dX5_copyOf_26 : decode cX5_copyOf 26 = .ok (.getfield 34, 3) := by decide +kernel
theorem dX5_copyOf_29 : decode cX5_copyOf 29 = .ok (.putfield 34, 3) := by decide +kernel
theorem dX5_copyOf_32 : decode cX5_copyOf 32 = .ok (.aload_n 0, 1) := by decide +kernel
theorem dX5_copyOf_33 : decode cX5_copyOf 33 = .ok (.aload_n 1, 1) := by decide +kernel
theorem dX5_copyOf_34 : decode cX5_copyOf 34 = .ok (.getfield 46, 3) := by decide +kernel
theorem dX5_copyOf_37 : decode cX5_copyOf 37 = .ok (.putfield 46, 3) := by decide +kernel
theorem dX5_copyOf_40 : decode cX5_copyOf 40 = .ok (.aload_n 1, 1) := by decide +kernel
theorem dX5_copyOf_41 : decode cX5_copyOf 41 = .ok (.getfield 21, 3) := by decide +kernel
theorem dX5_copyOf_44 : decode cX5_copyOf 44 = .ok (.iconst 0, 1) := by decide +kernel
theorem dX5_copyOf_45 : decode cX5_copyOf 45 = .ok (.aload_n 0, 1) := by decide +kernel
theorem dX5_copyOf_46 : decode cX5_copyOf 46 = .ok (.getfield 21, 3) := by decide +kernel
theorem dX5_copyOf_49 : decode cX5_copyOf 49 = .ok (.iconst 0, 1) := by decide +kernel
theorem dX5_copyOf_50 : decode cX5_copyOf 50 = .ok (.bipush 14, 2) := by decide +kernel
theorem dX5_copyOf_52 : decode cX5_copyOf 52 = .ok (.invokestatic 65, 3) := by decide +kernel
theorem dX5_copyOf_55 : decode cX5_copyOf 55 = .ok (.aload_n 1, 1) := by decide +kernel
theorem dX5_copyOf_56 : decode cX5_copyOf 56 = .ok (.getfield 25, 3) := by decide +kernel
theorem dX5_copyOf_59 : decode cX5_copyOf 59 = .ok (.iconst 0, 1) := by decide +kernel
theorem dX5_copyOf_60 : decode cX5_copyOf 60 = .ok (.aload_n 0, 1) := by decide +kernel
theorem dX5_copyOf_61 : decode cX5_copyOf 61 = .ok (.getfield 25, 3) := by decide +kernel
theorem dX5_copyOf_64 : decode cX5_copyOf 64 = .ok (.iconst 0, 1) := by decide +kernel
theorem dX5_copyOf_65 : decode cX5_copyOf 65 = .ok (.bipush 14, 2) := by decide +kernel
theorem dX5_copyOf_67 : decode cX5_copyOf 67 = .ok (.invokestatic 65, 3) := by decide +kernel
theorem dX5_copyOf_70 : decode cX5_copyOf 70 = .ok (.aload_n 1, 1) := by decide +kernel
theorem dX5_copyOf_71 : decode cX5_copyOf 71 = .ok (.getfield 28, 3) := by decide +kernel
theorem dX5_copyOf_74 : decode cX5_copyOf 74 = .ok (.iconst 0, 1) := by decide +kernel
theorem dX5_copyOf_75 : decode cX5_copyOf 75 = .ok (.aload_n 0, 1) := by decide +kernel
theorem dX5_copyOf_76 : decode cX5_copyOf 76 = .ok (.getfield 28, 3) := by decide +kernel
theorem dX5_copyOf_79 : decode cX5_copyOf 79 = .ok (.iconst 0, 1) := by decide +kernel
theorem dX5_copyOf_80 : decode cX5_copyOf 80 = .ok (.bipush 14, 2) := by decide +kernel
theorem dX5_copyOf_82 : decode cX5_copyOf 82 = .ok (.invokestatic 65, 3) := by decide +kernel
theorem dX5_copyOf_85 : decode cX5_copyOf 85 = .ok (.aload_n 1, 1) := by decide +kernel
theorem dX5_copyOf_86 : decode cX5_copyOf 86 = .ok (.getfield 31, 3) := by decide +kernel
theorem dX5_copyOf_89 : decode cX5_copyOf 89 = .ok (.iconst 0, 1) := by decide +kernel
theorem dX5_copyOf_90 : decode cX5_copyOf 90 = .ok (.aload_n 0, 1) := by decide +kernel
theorem dX5_copyOf_91 : decode cX5_copyOf 91 = .ok (.getfield 31, 3) := by decide +kernel
theorem dX5_copyOf_94 : decode cX5_copyOf 94 = .ok (.iconst 0, 1) := by decide +kernel
theorem dX5_copyOf_95 : decode cX5_copyOf 95 = .ok (.bipush 14, 2) := by decide +kernel
theorem dX5_copyOf_97 : decode cX5_copyOf 97 = .ok (.invokestatic 65, 3) := by decide +kernel
theorem dX5_copyOf_100 : decode cX5_copyOf 100 = .ok (.aload_n 1, 1) := by decide +kernel
theorem dX5_copyOf_101 : decode cX5_copyOf 101 = .ok (.getfield 37, 3) := by decide +kernel
theorem dX5_copyOf_104 : decode cX5_copyOf 104 = .ok (.iconst 0, 1) := by decide +kernel
theorem dX5_copyOf_105 : decode cX5_copyOf 105 = .ok (.aload_n 0, 1) := by decide +kernel
theorem dX5_copyOf_106 : decode cX5_copyOf 106 = .ok (.getfield 37, 3) := by decide +kernel
theorem dX5_copyOf_109 : decode cX5_copyOf 109 = .ok (.iconst 0, 1) := by decide +kernel
theorem dX5_copyOf_110 : decode cX5_copyOf 110 = .ok (.bipush 12, 2) := by decide +kernel
theorem dX5_copyOf_112 : decode cX5_copyOf 112 = .ok (.invokestatic 65, 3) := by decide +kernel
theorem dX5_copyOf_115 : decode cX5_copyOf 115 = .ok (.aload_n 1, 1) := by decide +kernel
theorem dX5_copyOf_116 : decode cX5_copyOf 116 = .ok (.getfield 40, 3) := by decide +kernel
theorem dX5_copyOf_119 : decode cX5_copyOf 119 = .ok (.iconst 0, 1) := by decide +kernel
theorem dX5_copyOf_120 : decode cX5_copyOf 120 = .ok (.aload_n 0, 1) := by decide +kernel
theorem dX5_copyOf_121 : decode cX5_copyOf 121 = .ok (.getfield 40, 3) := by decide +kernel
theorem dX5_copyOf_124 : decode cX5_copyOf 124 = .ok (.iconst 0, 1) := by decide +kernel
theorem dX5_copyOf_125 : decode cX5_copyOf 125 = .ok (.bipush 12, 2) := by decide +kernel
theorem dX5_copyOf_127 : decode cX5_copyOf 127 = .ok (.invokestatic 65, 3) := by decide +kernel
theorem dX5_copyOf_130 : decode cX5_copyOf 130 = .ok (.aload_n 1, 1) := by decide +kernel
theorem dX5_copyOf_131 : decode cX5_copyOf 131 = .ok (.getfield 43, 3) := by decide +kernel
theorem dX5_copyOf_134 : decode cX5_copyOf 134 = .ok (.iconst 0, 1) := by decide +kernel
theorem dX5_copyOf_135 : decode cX5_copyOf 135 = .ok (.aload_n 0, 1) := by decide +kernel
theorem dX5_copyOf_136 : decode cX5_copyOf 136 = .ok (.getfield 43, 3) := by decide +kernel
theorem dX5_copyOf_139 : decode cX5_copyOf 139 = .ok (.iconst 0, 1) := by decide +kernel
theorem dX5_copyOf_140 : decode cX5_copyOf 140 = .ok (.bipush 12, 2) := by decide +kernel
theorem dX5_copyOf_142 : decode cX5_copyOf 142 = .ok (.invokestatic 65, 3) := by decide +kernel
theorem dX5_copyOf_145 : decode cX5_copyOf 145 = .ok (.aload_n 1, 1) := by decide +kernel
theorem dX5_copyOf_146 : decode cX5_copyOf 146 = .ok (.getfield 49, 3) := by decide +kernel
theorem dX5_copyOf_149 : decode cX5_copyOf 149 = .ok (.iconst 0, 1) := by decide +kernel
theorem dX5_copyOf_150 : decode cX5_copyOf 150 = .ok (.aload_n 0, 1) := by decide +kernel
theorem dX5_copyOf_151 : decode cX5_copyOf 151 = .ok (.getfield 49, 3) := by decide +kernel
theorem dX5_copyOf_154 : decode cX5_copyOf 154 = .ok (.iconst 0, 1) := by decide +kernel
theorem dX5_copyOf_155 : decode cX5_copyOf 155 = .ok (.iconst 4, 1) := by decide +kernel
theorem dX5_copyOf_156 : decode cX5_copyOf 156 = .ok (.invokestatic 65, 3) := by decide +kernel
theorem dX5_copyOf_159 : decode cX5_copyOf 159 = .ok (.aload_n 1, 1) := by decide +kernel
theorem dX5_copyOf_160 : decode cX5_copyOf 160 = .ok (.getfield 52, 3) := by decide +kernel
theorem dX5_copyOf_163 : decode cX5_copyOf 163 = .ok (.iconst 0, 1) := by decide +kernel
theorem dX5_copyOf_164 : decode cX5_copyOf 164 = .ok (.aload_n 0, 1) := by decide +kernel
theorem dX5_copyOf_165 : decode cX5_copyOf 165 = .ok (.getfield 52, 3) := by decide +kernel
theorem dX5_copyOf_168 : decode cX5_copyOf 168 = .ok (.iconst 0, 1) := by decide +kernel
theorem dX5_copyOf_169 : decode cX5_copyOf 169 = .ok (.iconst 4, 1) := by decide +kernel
theorem dX5_copyOf_170 : decode cX5_copyOf 170 = .ok (.invokestatic 65, 3) := by decide +kernel
theorem dX5_copyOf_173 : decode cX5_copyOf 173 = .ok (.aload_n 1, 1) := by decide +kernel
theorem dX5_copyOf_174 : decode cX5_copyOf 174 = .ok (.getfield 55, 3) := by decide +kernel
theorem dX5_copyOf_177 : decode cX5_copyOf 177 = .ok (.iconst 0, 1) := by decide +kernel
theorem dX5_copyOf_178 : decode cX5_copyOf 178 = .ok (.aload_n 0, 1) := by decide +kernel
theorem dX5_copyOf_179 : decode cX5_copyOf 179 = .ok (.getfield 55, 3) := by decide +kernel
theorem dX5_copyOf_182 : decode cX5_copyOf 182 = .ok (.iconst 0, 1) := by decide +kernel
theorem dX5_copyOf_183 : decode cX5_copyOf 183 = .ok (.iconst 4, 1) := by decide +kernel
theorem dX5_copyOf_184 : decode cX5_copyOf 184 = .ok (.invokestatic 65, 3) := by decide +kernel
theorem dX5_copyOf_187 : decode cX5_copyOf 187 = .ok (.return_, 1) := by decide +kernel
theorem dX5_isOne_0 : decode cX5_isOne 0 = .ok (.iload_n 1, 1) := by decide +kernel
theorem dX5_isOne_1 : decode cX5_isOne 1 = .ok (.ifCond .lt 15, 3) := by decide +kernel
theorem dX5_isOne_4 : decode cX5_isOne 4 = .ok (.iload_n 1, 1) := by decide +kernel
theorem dX5_isOne_5 : decode cX5_isOne 5 = .ok (.aload_n 0, 1) := by decide +kernel
theorem dX5_isOne_6 : decode cX5_isOne 6 = .ok (.getfield 18, 3) := by decide +kernel
theorem dX5_isOne_9 : decode cX5_isOne 9 = .ok (.if_icmp .ge 7, 3) := by decide +kernel
theorem dX5_isOne_12 : decode cX5_isOne 12 = .ok (.iconst 1, 1) := by decide +kernel
theorem dX5_isOne_13 : decode cX5_isOne 13 = .ok (.goto 4, 3) := by decide +kernel
theorem dX5_isOne_16 : decode cX5_isOne 16 = .ok (.iconst 0, 1) := by decide +kernel
theorem dX5_isOne_17 : decode cX5_isOne 17 = .ok (.ireturn, 1) := by decide +kernel
theorem dX5_isHouse_0 : decode cX5_isHouse 0 = .ok (.iload_n 1, 1) := by decide +kernel
theorem dX5_isHouse_1 : decode cX5_isHouse 1 = .ok (.ifCond .lt 15, 3) := by decide +kernel
theorem dX5_isHouse_4 : decode cX5_isHouse 4 = .ok (.iload_n 1, 1) := by decide +kernel
theorem dX5_isHouse_5 : decode cX5_isHouse 5 = .ok (.aload_n 0, 1) := by decide +kernel
theorem dX5_isHouse_6 : decode cX5_isHouse 6 = .ok (.getfield 9, 3) := by decide +kernel
theorem dX5_isHouse_9 : decode cX5_isHouse 9 = .ok (.if_icmp .ge 7, 3) := by decide +kernel
theorem dX5_isHouse_12 : decode cX5_isHouse 12 = .ok (.iconst 1, 1) := by decide +kernel
theorem dX5_isHouse_13 : decode cX5_isHouse 13 = .ok (.goto 4, 3) := by decide +kernel
theorem dX5_isHouse_16 : decode cX5_isHouse 16 = .ok (.iconst 0, 1) := by decide +kernel
theorem dX5_isHouse_17 : decode cX5_isHouse 17 = .ok (.ireturn, 1) := by decide +kernel
theorem dX5_addOne_0 : decode cX5_addOne 0 = .ok (.aload_n 0, 1) := by decide +kernel
theorem dX5_addOne_1 : decode cX5_addOne 1 = .ok (.getfield 18, 3) := by decide +kernel
theorem dX5_addOne_4 : decode cX5_addOne 4 = .ok (.bipush 14, 2) := by decide +kernel
theorem dX5_addOne_6 : decode cX5_addOne 6 = .ok (.if_icmp .ge 54, 3) := by decide +kernel
theorem dX5_addOne_9 : decode cX5_addOne 9 = .ok (.aload_n 0, 1) := by decide +kernel
theorem dX5_addOne_10 : decode cX5_addOne 10 = .ok (.getfield 21, 3) := by decide +kernel
theorem dX5_addOne_13 : decode cX5_addOne 13 = .ok (.aload_n 0, 1) := by decide +kernel
theorem dX5_addOne_14 : decode cX5_addOne 14 = .ok (.getfield 18, 3) := by decide +kernel
theorem dX5_addOne_17 : decode cX5_addOne 17 = .ok (.iload_n 1, 1) := by decide +kernel
theorem dX5_addOne_18 : decode cX5_addOne 18 = .ok (.iastore, 1) := by decide +kernel
theorem dX5_addOne_19 : decode cX5_addOne 19 = .ok (.aload_n 0, 1) := by decide +kernel
theorem dX5_addOne_20 : decode cX5_addOne 20 = .ok (.getfield 25, 3) := by decide +kernel
theorem dX5_addOne_23 : decode cX5_addOne 23 = .ok (.aload_n 0, 1) := by decide +kernel
theorem dX5_addOne_24 : decode cX5_addOne 24 = .ok (.getfield 18, 3) := by decide +kernel
theorem dX5_addOne_27 : decode cX5_addOne 27 = .ok (.iload_n 2, 1) := by decide +kernel
theorem dX5_addOne_28 : decode cX5_addOne 28 = .ok (.iastore, 1) := by decide +kernel
theorem dX5_addOne_29 : decode cX5_addOne 29 = .ok (.aload_n 0, 1) := by decide +kernel
theorem dX5_addOne_30 : decode cX5_addOne 30 = .ok (.getfield 28, 3) := by decide +kernel
theorem dX5_addOne_33 : decode cX5_addOne 33 = .ok (.aload_n 0, 1) := by decide +kernel
theorem dX5_addOne_34 : decode cX5_addOne 34 = .ok (.getfield 18, 3) := by decide +kernel
theorem dX5_addOne_37 : decode cX5_addOne 37 = .ok (.iload_n 3, 1) := by decide +kernel
theorem dX5_addOne_38 : decode cX5_addOne 38 = .ok (.iastore, 1) := by decide +kernel
theorem dX5_addOne_39 : decode cX5_addOne 39 = .ok (.aload_n 0, 1) := by decide +kernel
theorem dX5_addOne_40 : decode cX5_addOne 40 = .ok (.getfield 31, 3) := by decide +kernel
theorem dX5_addOne_43 : decode cX5_addOne 43 = .ok (.aload_n 0, 1) := by decide +kernel
theorem dX5_addOne_44 : decode cX5_addOne 44 = .ok (.getfield 18, 3) := by decide +kernel
theorem dX5_addOne_47 : decode cX5_addOne 47 = .ok (.iload 4, 2) := by decide +kernel
theorem dX5_addOne_49 : decode cX5_addOne 49 = .ok (.iastore, 1) := by decide +kernel
theorem dX5_addOne_50 : decode cX5_addOne 50 = .ok (.aload_n 0, 1) := by decide +kernel
theorem dX5_addOne_51 : decode cX5_addOne 51 = .ok (.dup, 1) := by decide +kernel
theorem dX5_addOne_52 : decode cX5_addOne 52 = .ok (.getfield 18, 3) := by decide +kernel
theorem dX5_addOne_55 : decode cX5_addOne 55 = .ok (.iconst 1, 1) := by decide +kernel
theorem dX5_addOne_56 : decode cX5_addOne 56 = .ok (.iadd, 1) := by decide +kernel
theorem dX5_addOne_57 : decode cX5_addOne 57 = .ok (.putfield 18, 3) := by decide +kernel
theorem dX5_addOne_60 : decode cX5_addOne 60 = .ok (.return_, 1) := by decide +kernel
theorem dX5_putMove_0 : decode cX5_putMove 0 = .ok (.aload_n 0, 1) := by decide +kernel
theorem dX5_putMove_1 : decode cX5_putMove 1 = .ok (.getfield 34, 3) := by decide +kernel
theorem dX5_putMove_4 : decode cX5_putMove 4 = .ok (.bipush 12, 2) := by decide +kernel
theorem dX5_putMove_6 : decode cX5_putMove 6 = .ok (.if_icmp .ge 43, 3) := by decide +kernel
theorem dX5_putMove_9 : decode cX5_putMove 9 = .ok (.aload_n 0, 1) := by decide +kernel
theorem dX5_putMove_10 : decode cX5_putMove 10 = .ok (.getfield 37, 3) := by decide +kernel
theorem dX5_putMove_13 : decode cX5_putMove 13 = .ok (.aload_n 0, 1) := by decide +kernel
theorem dX5_putMove_14 : decode cX5_putMove 14 = .ok (.getfield 34, 3) := by decide +kernel
theorem dX5_putMove_17 : decode cX5_putMove 17 = .ok (.iload_n 1, 1) := by decide +kernel
theorem dX5_putMove_18 : decode cX5_putMove 18 = .ok (.iastore, 1) := by decide +kernel
theorem dX5_putMove_19 : decode cX5_putMove 19 = .ok (.aload_n 0, 1) := by decide +kernel
theorem dX5_putMove_20 : decode cX5_putMove 20 = .ok (.getfield 40, 3) := by decide +kernel
theorem dX5_putMove_23 : decode cX5_putMove 23 = .ok (.aload_n 0, 1) := by decide +kernel
theorem dX5_putMove_24 : decode cX5_putMove 24 = .ok (.getfield 34, 3) := by decide +kernel
theorem dX5_putMove_27 : decode cX5_putMove 27 = .ok (.iload_n 2, 1) := by decide +kernel
theorem dX5_putMove_28 : decode cX5_putMove 28 = .ok (.iastore, 1) := by decide +kernel
theorem dX5_putMove_29 : decode cX5_putMove 29 = .ok (.aload_n 0, 1) := by decide +kernel
theorem dX5_putMove_30 : decode cX5_putMove 30 = .ok (.getfield 43, 3) := by decide +kernel
theorem dX5_putMove_33 : decode cX5_putMove 33 = .ok (.aload_n 0, 1) := by decide +kernel
theorem dX5_putMove_34 : decode cX5_putMove 34 = .ok (.getfield 34, 3) := by decide +kernel
theorem dX5_putMove_37 : decode cX5_putMove 37 = .ok (.iload_n 3, 1) := by decide +kernel
theorem dX5_putMove_38 : decode cX5_putMove 38 = .ok (.iastore, 1) := by decide +kernel
theorem dX5_putMove_39 : decode cX5_putMove 39 = .ok (.aload_n 0, 1) := by decide +kernel
theorem dX5_putMove_40 : decode cX5_putMove 40 = .ok (.dup, 1) := by decide +kernel
theorem dX5_putMove_41 : decode cX5_putMove 41 = .ok (.getfield 34, 3) := by decide +kernel
theorem dX5_putMove_44 : decode cX5_putMove 44 = .ok (.iconst 1, 1) := by decide +kernel
theorem dX5_putMove_45 : decode cX5_putMove 45 = .ok (.iadd, 1) := by decide +kernel
theorem dX5_putMove_46 : decode cX5_putMove 46 = .ok (.putfield 34, 3) := by decide +kernel
theorem dX5_putMove_49 : decode cX5_putMove 49 = .ok (.return_, 1) := by decide +kernel
theorem dX5_isTooEarly_0 : decode cX5_isTooEarly 0 = .ok (.aload_n 0, 1) := by decide +kernel
theorem dX5_isTooEarly_1 : decode cX5_isTooEarly 1 = .ok (.getfield 34, 3) := by decide +kernel
theorem dX5_isTooEarly_4 : decode cX5_isTooEarly 4 = .ok (.ifCond .le 22, 3) := by decide +kernel
theorem dX5_isTooEarly_7 : decode cX5_isTooEarly 7 = .ok (.iload_n 1, 1) := by decide +kernel
theorem dX5_isTooEarly_8 : decode cX5_isTooEarly 8 = .ok (.aload_n 0, 1) := by decide +kernel
theorem dX5_isTooEarly_9 : decode cX5_isTooEarly 9 = .ok (.getfield 37, 3) := by decide +kernel
theorem dX5_isTooEarly_12 : decode cX5_isTooEarly 12 = .ok (.aload_n 0, 1) := by decide +kernel
theorem dX5_isTooEarly_13 : decode cX5_isTooEarly 13 = .ok (.getfield 34, 3) := by decide +kernel
theorem dX5_isTooEarly_16 : decode cX5_isTooEarly 16 = .ok (.iconst 1, 1) := by decide +kernel
theorem dX5_isTooEarly_17 : decode cX5_isTooEarly 17 = .ok (.isub, 1) := by decide +kernel
theorem dX5_isTooEarly_18 : decode cX5_isTooEarly 18 = .ok (.iaload, 1) := by decide +kernel
theorem dX5_isTooEarly_19 : decode cX5_isTooEarly 19 = .ok (.if_icmp .ge 7, 3) := by decide +kernel
theorem dX5_isTooEarly_22 : decode cX5_isTooEarly 22 = .ok (.iconst 1, 1) := by decide +kernel
theorem dX5_isTooEarly_23 : decode cX5_isTooEarly 23 = .ok (.goto 4, 3) := by decide +kernel
theorem dX5_isTooEarly_26 : decode cX5_isTooEarly 26 = .ok (.iconst 0, 1) := by decide +kernel
theorem dX5_isTooEarly_27 : decode cX5_isTooEarly 27 = .ok (.ireturn, 1) := by decide +kernel
set_option maxRecDepth 20000 in
theorem ggX5_addMove_X6_isDay : GoodIn wsX5_addMove wsX6_isDay := goodIn_r _ [4, 5] (by decide +kernel) (by decide +kernel)
set_option maxRecDepth 20000 in
theorem gX5_addMove_X6_isDay_n71 : GoodIn wsX5_addMove (wsX6_isDay) := ggX5_addMove_X6_isDay
set_option maxRecDepth 20000 in
theorem ggX5_addMove_X5_isOne : GoodIn wsX5_addMove wsX5_isOne := goodIn_r _ [10, 11, 28, 29, 30, 31, 32, 33, 34, 35, 36, 37, 38, 39, 40, 41, 42, 43] (by decide +kernel) (by decide +kernel)
set_option maxRecDepth 20000 in
theorem gX5_addMove_X5_isOne : GoodIn wsX5_addMove (wsV RX5 75 RX5 yX5_isOne wsX5_isOne) := goodIn_app (goodIn_of _ (by decide +kernel)) ggX5_addMove_X5_isOne
set_option maxRecDepth 20000 in
theorem ggX5_addMove_X5_isHouse : GoodIn wsX5_addMove wsX5_isHouse := goodIn_r _ [15, 16, 28, 29, 30, 31, 32, 33, 34, 35, 36, 37, 38, 39, 40, 41, 42, 43] (by decide +kernel) (by decide +kernel)
set_option maxRecDepth 20000 in
theorem gX5_addMove_X5_isHouse : GoodIn wsX5_addMove (wsV RX5 78 RX5 yX5_isHouse wsX5_isHouse) := goodIn_app (goodIn_of _ (by decide +kernel)) ggX5_addMove_X5_isHouse
set_option maxRecDepth 20000 in
theorem ggX5_addMove_X5_isTooEarly : GoodIn wsX5_addMove wsX5_isTooEarly := goodIn_r _ [20, 1, 21, 28, 29, 30, 31, 32, 33, 34, 35, 36, 37, 38, 39, 40, 41, 42, 43] (by decide +kernel) (by decide +kernel)
set_option maxRecDepth 20000 in
theorem gX5_addMove_X5_isTooEarly : GoodIn wsX5_addMove (wsV RX5 81 RX5 yX5_isTooEarly wsX5_isTooEarly) := goodIn_app (goodIn_of _ (by decide +kernel)) ggX5_addMove_X5_isTooEarly
set_option maxRecDepth 20000 in
theorem ggX5_addMove_X5_putMove : GoodIn wsX5_addMove wsX5_putMove := goodIn_r _ [25, 1, 21, 26, 27, 28, 29, 30, 31, 32, 33, 34, 35, 36, 37, 38, 39, 40, 41, 42, 43] (by decide +kernel) (by decide +kernel)
set_option maxRecDepth 20000 in
theorem gX5_addMove_X5_putMove : GoodIn wsX5_addMove (wsV RX5 84 RX5 yX5_putMove wsX5_putMove) := goodIn_app (goodIn_of _ (by decide +kernel)) ggX5_addMove_X5_putMove
theorem dX5_addMove_0 : decode cX5_addMove 0 = .ok (.iload_n 1, 1) := by decide +kernel
theorem dX5_addMove_1 : decode cX5_addMove 1 = .ok (.invokestatic 71, 3) := by decide +kernel
theorem dX5_addMove_4 : decode cX5_addMove 4 = .ok (.ifCond .eq 27, 3) := by decide +kernel
theorem dX5_addMove_7 : decode cX5_addMove 7 = .ok (.aload_n 0, 1) := by decide +kernel
theorem dX5_addMove_8 : decode cX5_addMove 8 = .ok (.iload_n 2, 1) := by decide +kernel
theorem dX5_addMove_9 : decode cX5_addMove 9 = .ok (.invokevirtual 75, 3) := by decide +kernel
theorem dX5_addMove_12 : decode cX5_addMove 12 = .ok (.ifCond .eq 19, 3) := by decide +kernel
theorem dX5_addMove_15 : decode cX5_addMove 15 = .ok (.aload_n 0, 1) := by decide +kernel
theorem dX5_addMove_16 : decode cX5_addMove 16 = .ok (.iload_n 3, 1) := by decide +kernel
theorem dX5_addMove_17 : decode cX5_addMove 17 = .ok (.invokevirtual 78, 3) := by decide +kernel
theorem dX5_addMove_20 : decode cX5_addMove 20 = .ok (.ifCond .eq 11, 3) := by decide +kernel
theorem dX5_addMove_23 : decode cX5_addMove 23 = .ok (.aload_n 0, 1) := by decide +kernel
theorem dX5_addMove_24 : decode cX5_addMove 24 = .ok (.iload_n 1, 1) := by decide +kernel
theorem dX5_addMove_25 : decode cX5_addMove 25 = .ok (.invokevirtual 81, 3) := by decide +kernel
theorem dX5_addMove_28 : decode cX5_addMove 28 = .ok (.ifCond .eq 5, 3) := by decide +kernel
theorem dX5_addMove_31 : decode cX5_addMove 31 = .ok (.iconst (-1), 1) := by decide +kernel
theorem dX5_addMove_32 : decode cX5_addMove 32 = .ok (.ireturn, 1) := by decide +kernel
theorem dX5_addMove_33 : decode cX5_addMove 33 = .ok (.aload_n 0, 1) := by decide +kernel
theorem dX5_addMove_34 : decode cX5_addMove 34 = .ok (.getfield 34, 3) := by decide +kernel
theorem dX5_addMove_37 : decode cX5_addMove 37 = .ok (.bipush 12, 2) := by decide +kernel
theorem dX5_addMove_39 : decode cX5_addMove 39 = .ok (.if_icmp .lt 6, 3) := by decide +kernel
theorem dX5_addMove_42 : decode cX5_addMove 42 = .ok (.bipush (-3), 2) := by decide +kernel
theorem dX5_addMove_44 : decode cX5_addMove 44 = .ok (.ireturn, 1) := by decide +kernel
theorem dX5_addMove_45 : decode cX5_addMove 45 = .ok (.aload_n 0, 1) := by decide +kernel
theorem dX5_addMove_46 : decode cX5_addMove 46 = .ok (.iload_n 1, 1) := by decide +kernel
theorem dX5_addMove_47 : decode cX5_addMove 47 = .ok (.iload_n 2, 1) := by decide +kernel
theorem dX5_addMove_48 : decode cX5_addMove 48 = .ok (.iload_n 3, 1) := by decide +kernel
theorem dX5_addMove_49 : decode cX5_addMove 49 = .ok (.invokevirtual 84, 3) := by decide +kernel
theorem dX5_addMove_52 : decode cX5_addMove 52 = .ok (.aload_n 0, 1) := by decide +kernel
theorem dX5_addMove_53 : decode cX5_addMove 53 = .ok (.getfield 34, 3) := by decide +kernel
theorem dX5_addMove_56 : decode cX5_addMove 56 = .ok (.ireturn, 1) := by decide +kernel
theorem dX5_addBirth_0 : decode cX5_addBirth 0 = .ok (.aload_n 0, 1) := by decide +kernel
theorem dX5_addBirth_1 : decode cX5_addBirth 1 = .ok (.getfield 46, 3) := by decide +kernel
theorem dX5_addBirth_4 : decode cX5_addBirth 4 = .ok (.iconst 4, 1) := by decide +kernel
theorem dX5_addBirth_5 : decode cX5_addBirth 5 = .ok (.if_icmp .ge 43, 3) := by decide +kernel
theorem dX5_addBirth_8 : decode cX5_addBirth 8 = .ok (.aload_n 0, 1) := by decide +kernel
theorem dX5_addBirth_9 : decode cX5_addBirth 9 = .ok (.getfield 49, 3) := by decide +kernel
theorem dX5_addBirth_12 : decode cX5_addBirth 12 = .ok (.aload_n 0, 1) := by decide +kernel
theorem dX5_addBirth_13 : decode cX5_addBirth 13 = .ok (.getfield 46, 3) := by decide +kernel
theorem dX5_addBirth_16 : decode cX5_addBirth 16 = .ok (.iload_n 1, 1) := by decide +kernel
theorem dX5_addBirth_17 : decode cX5_addBirth 17 = .ok (.iastore, 1) := by decide +kernel
theorem dX5_addBirth_18 : decode cX5_addBirth 18 = .ok (.aload_n 0, 1) := by decide +kernel
theorem dX5_addBirth_19 : decode cX5_addBirth 19 = .ok (.getfield 52, 3) := by decide +kernel
theorem dX5_addBirth_22 : decode cX5_addBirth 22 = .ok (.aload_n 0, 1) := by decide +kernel
theorem dX5_addBirth_23 : decode cX5_addBirth 23 = .ok (.getfield 46, 3) := by decide +kernel
theorem dX5_addBirth_26 : decode cX5_addBirth 26 = .ok (.iload_n 2, 1) := by decide +kernel
theorem dX5_addBirth_27 : decode cX5_addBirth 27 = .ok (.iastore, 1) := by decide +kernel
theorem dX5_addBirth_28 : decode cX5_addBirth 28 = .ok (.aload_n 0, 1) := by decide +kernel
theorem dX5_addBirth_29 : decode cX5_addBirth 29 = .ok (.getfield 55, 3) := by decide +kernel
theorem dX5_addBirth_32 : decode cX5_addBirth 32 = .ok (.aload_n 0, 1) := by decide +kernel
theorem dX5_addBirth_33 : decode cX5_addBirth 33 = .ok (.getfield 46, 3) := by decide +kernel
theorem dX5_addBirth_36 : decode cX5_addBirth 36 = .ok (.iload_n 3, 1) := by decide +kernel
theorem dX5_addBirth_37 : decode cX5_addBirth 37 = .ok (.iastore, 1) := by decide +kernel
theorem dX5_addBirth_38 : decode cX5_addBirth 38 = .ok (.aload_n 0, 1) := by decide +kernel
theorem dX5_addBirth_39 : decode cX5_addBirth 39 = .ok (.dup, 1) := by decide +kernel
theorem dX5_addBirth_40 : decode cX5_addBirth 40 = .ok (.getfield 46, 3) := by decide +kernel
theorem dX5_addBirth_43 : decode cX5_addBirth 43 = .ok (.iconst 1, 1) := by decide +kernel
theorem dX5_addBirth_44 : decode cX5_addBirth 44 = .ok (.iadd, 1) := by decide +kernel
theorem dX5_addBirth_45 : decode cX5_addBirth 45 = .ok (.putfield 46, 3) := by decide +kernel
theorem dX5_addBirth_48 : decode cX5_addBirth 48 = .ok (.return_, 1) := by decide +kernel
theorem dX5_deathOf_0 : decode cX5_deathOf 0 = .ok (.aload_n 0, 1) := by decide +kernel
theorem dX5_deathOf_1 : decode cX5_deathOf 1 = .ok (.getfield 31, 3) := by decide +kernel
theorem dX5_deathOf_4 : decode cX5_deathOf 4 = .ok (.iload_n 1, 1) := by decide +kernel
theorem dX5_deathOf_5 : decode cX5_deathOf 5 = .ok (.iaload, 1) := by decide +kernel
theorem dX5_deathOf_6 : decode cX5_deathOf 6 = .ok (.ldc 88, 2) := by decide +kernel
theorem dX5_deathOf_8 : decode cX5_deathOf 8 = .ok (.if_icmp .ne 8, 3) := by decide +kernel
theorem dX5_deathOf_11 : decode cX5_deathOf 11 = .ok (.bipush (-4), 2) := by decide +kernel
theorem dX5_deathOf_13 : decode cX5_deathOf 13 = .ok (.goto 9, 3) := by decide +kernel
theorem dX5_deathOf_16 : decode cX5_deathOf 16 = .ok (.aload_n 0, 1) := by decide +kernel
theorem dX5_deathOf_17 : decode cX5_deathOf 17 = .ok (.getfield 31, 3) := by decide +kernel
theorem dX5_deathOf_20 : decode cX5_deathOf 20 = .ok (.iload_n 1, 1) := by decide +kernel
theorem dX5_deathOf_21 : decode cX5_deathOf 21 = .ok (.iaload, 1) := by decide +kernel
theorem dX5_deathOf_22 : decode cX5_deathOf 22 = .ok (.ireturn, 1) := by decide +kernel
theorem dX5_isAlive_0 : decode cX5_isAlive 0 = .ok (.aload_n 0, 1) := by decide +kernel
theorem dX5_isAlive_1 : decode cX5_isAlive 1 = .ok (.getfield 25, 3) := by decide +kernel
theorem dX5_isAlive_4 : decode cX5_isAlive 4 = .ok (.iload_n 1, 1) := by decide +kernel
theorem dX5_isAlive_5 : decode cX5_isAlive 5 = .ok (.iaload, 1) := by decide +kernel
theorem dX5_isAlive_6 : decode cX5_isAlive 6 = .ok (.iload_n 2, 1) := by decide +kernel
theorem dX5_isAlive_7 : decode cX5_isAlive 7 = .ok (.if_icmp .gt 17, 3) := by decide +kernel
theorem dX5_isAlive_10 : decode cX5_isAlive 10 = .ok (.iload_n 2, 1) := by decide +kernel
theorem dX5_isAlive_11 : decode cX5_isAlive 11 = .ok (.aload_n 0, 1) := by decide +kernel
theorem dX5_isAlive_12 : decode cX5_isAlive 12 = .ok (.getfield 31, 3) := by decide +kernel
theorem dX5_isAlive_15 : decode cX5_isAlive 15 = .ok (.iload_n 1, 1) := by decide +kernel
theorem dX5_isAlive_16 : decode cX5_isAlive 16 = .ok (.iaload, 1) := by decide +kernel
theorem dX5_isAlive_17 : decode cX5_isAlive 17 = .ok (.if_icmp .ge 7, 3) := by decide +kernel
theorem dX5_isAlive_20 : decode cX5_isAlive 20 = .ok (.iconst 1, 1) := by decide +kernel
theorem dX5_isAlive_21 : decode cX5_isAlive 21 = .ok (.goto 4, 3) := by decide +kernel
theorem dX5_isAlive_24 : decode cX5_isAlive 24 = .ok (.iconst 0, 1) := by decide +kernel
theorem dX5_isAlive_25 : decode cX5_isAlive 25 = .ok (.ireturn, 1) := by decide +kernel
theorem dX5_yearsOf_0 : decode cX5_yearsOf 0 = .ok (.iload_n 2, 1) := by decide +kernel
theorem dX5_yearsOf_1 : decode cX5_yearsOf 1 = .ok (.aload_n 0, 1) := by decide +kernel
theorem dX5_yearsOf_2 : decode cX5_yearsOf 2 = .ok (.getfield 25, 3) := by decide +kernel
theorem dX5_yearsOf_5 : decode cX5_yearsOf 5 = .ok (.iload_n 1, 1) := by decide +kernel
theorem dX5_yearsOf_6 : decode cX5_yearsOf 6 = .ok (.iaload, 1) := by decide +kernel
theorem dX5_yearsOf_7 : decode cX5_yearsOf 7 = .ok (.isub, 1) := by decide +kernel
theorem dX5_yearsOf_8 : decode cX5_yearsOf 8 = .ok (.sipush 360, 3) := by decide +kernel
theorem dX5_yearsOf_11 : decode cX5_yearsOf 11 = .ok (.idiv, 1) := by decide +kernel
theorem dX5_yearsOf_12 : decode cX5_yearsOf 12 = .ok (.ireturn, 1) := by decide +kernel
theorem dX5_homeOf_0 : decode cX5_homeOf 0 = .ok (.aload_n 0, 1) := by decide +kernel
theorem dX5_homeOf_1 : decode cX5_homeOf 1 = .ok (.getfield 34, 3) := by decide +kernel
theorem dX5_homeOf_4 : decode cX5_homeOf 4 = .ok (.iconst 1, 1) := by decide +kernel
theorem dX5_homeOf_5 : decode cX5_homeOf 5 = .ok (.isub, 1) := by decide +kernel
theorem dX5_homeOf_6 : decode cX5_homeOf 6 = .ok (.istore_n 3, 1) := by decide +kernel
theorem dX5_homeOf_7 : decode cX5_homeOf 7 = .ok (.iload_n 3, 1) := by decide +kernel
theorem dX5_homeOf_8 : decode cX5_homeOf 8 = .ok (.ifCond .lt 36, 3) := by decide +kernel
theorem dX5_homeOf_11 : decode cX5_homeOf 11 = .ok (.aload_n 0, 1) := by decide +kernel
theorem dX5_homeOf_12 : decode cX5_homeOf 12 = .ok (.getfield 40, 3) := by decide +kernel
theorem dX5_homeOf_15 : decode cX5_homeOf 15 = .ok (.iload_n 3, 1) := by decide +kernel
theorem dX5_homeOf_16 : decode cX5_homeOf 16 = .ok (.iaload, 1) := by decide +kernel
theorem dX5_homeOf_17 : decode cX5_homeOf 17 = .ok (.iload_n 1, 1) := by decide +kernel
theorem dX5_homeOf_18 : decode cX5_homeOf 18 = .ok (.if_icmp .ne 20, 3) := by decide +kernel
theorem dX5_homeOf_21 : decode cX5_homeOf 21 = .ok (.aload_n 0, 1) := by decide +kernel
theorem dX5_homeOf_22 : decode cX5_homeOf 22 = .ok (.getfield 37, 3) := by decide +kernel
theorem dX5_homeOf_25 : decode cX5_homeOf 25 = .ok (.iload_n 3, 1) := by decide +kernel
theorem dX5_homeOf_26 : decode cX5_homeOf 26 = .ok (.iaload, 1) := by decide +kernel
theorem dX5_homeOf_27 : decode cX5_homeOf 27 = .ok (.iload_n 2, 1) := by decide +kernel
theorem dX5_homeOf_28 : decode cX5_homeOf 28 = .ok (.if_icmp .gt 10, 3) := by decide +kernel
theorem dX5_homeOf_31 : decode cX5_homeOf 31 = .ok (.aload_n 0, 1) := by decide +kernel
theorem dX5_homeOf_32 : decode cX5_homeOf 32 = .ok (.getfield 43, 3) := by decide +kernel
theorem dX5_homeOf_35 : decode cX5_homeOf 35 = .ok (.iload_n 3, 1) := by decide +kernel
theorem dX5_homeOf_36 : decode cX5_homeOf 36 = .ok (.iaload, 1) := by decide +kernel
theorem dX5_homeOf_37 : decode cX5_homeOf 37 = .ok (.ireturn, 1) := by decide +kernel
theorem dX5_homeOf_38 : decode cX5_homeOf 38 = .ok (.iinc 3 (-1), 3) := by decide +kernel
theorem dX5_homeOf_41 : decode cX5_homeOf 41 = .ok (.goto (-34), 3) := by decide +kernel
theorem dX5_homeOf_44 : decode cX5_homeOf 44 = .ok (.aload_n 0, 1) := by decide +kernel
theorem dX5_homeOf_45 : decode cX5_homeOf 45 = .ok (.getfield 28, 3) := by decide +kernel
theorem dX5_homeOf_48 : decode cX5_homeOf 48 = .ok (.iload_n 1, 1) := by decide +kernel
theorem dX5_homeOf_49 : decode cX5_homeOf 49 = .ok (.iaload, 1) := by decide +kernel
theorem dX5_homeOf_50 : decode cX5_homeOf 50 = .ok (.ireturn, 1) := by decide +kernel
set_option maxRecDepth 20000 in
theorem ggX5_isAuntOn_X5_isOne : GoodIn wsX5_isAuntOn wsX5_isOne := goodIn_r _ [6, 7, 14, 15, 16, 17, 18, 19, 20, 21, 22, 23, 24, 25, 26, 27, 28, 29] (by decide +kernel) (by decide +kernel)
set_option maxRecDepth 20000 in
theorem gX5_isAuntOn_X5_isOne : GoodIn wsX5_isAuntOn (wsV RX5 75 RX5 yX5_isOne wsX5_isOne) := goodIn_app (goodIn_of _ (by decide +kernel)) ggX5_isAuntOn_X5_isOne
set_option maxRecDepth 20000 in
theorem ggX5_isAuntOn_X5_isAlive : GoodIn wsX5_isAuntOn wsX5_isAlive := goodIn_r _ [11, 12, 13, 14, 15, 16, 17, 18, 19, 20, 21, 22, 23, 24, 25, 26, 27, 28, 29] (by decide +kernel) (by decide +kernel)
set_option maxRecDepth 20000 in
theorem gX5_isAuntOn_X5_isAlive : GoodIn wsX5_isAuntOn (wsV RX5 89 RX5 yX5_isAlive wsX5_isAlive) := goodIn_app (goodIn_of _ (by decide +kernel)) ggX5_isAuntOn_X5_isAlive
theorem dX5_isAuntOn_0 : decode cX5_isAuntOn 0 = .ok (.aload_n 0, 1) := by decide +kernel
theorem dX5_isAuntOn_1 : decode cX5_isAuntOn 1 = .ok (.iload_n 1, 1) := by decide +kernel
theorem dX5_isAuntOn_2 : decode cX5_isAuntOn 2 = .ok (.invokevirtual 75, 3) := by decide +kernel
theorem dX5_isAuntOn_5 : decode cX5_isAuntOn 5 = .ok (.ifCond .eq 26, 3) := by decide +kernel
theorem dX5_isAuntOn_8 : decode cX5_isAuntOn 8 = .ok (.aload_n 0, 1) := by decide +kernel
theorem dX5_isAuntOn_9 : decode cX5_isAuntOn 9 = .ok (.getfield 21, 3) := by decide +kernel
theorem dX5_isAuntOn_12 : decode cX5_isAuntOn 12 = .ok (.iload_n 1, 1) := by decide +kernel
theorem dX5_isAuntOn_13 : decode cX5_isAuntOn 13 = .ok (.iaload, 1) := by decide +kernel
theorem dX5_isAuntOn_14 : decode cX5_isAuntOn 14 = .ok (.iconst 1, 1) := by decide +kernel
theorem dX5_isAuntOn_15 : decode cX5_isAuntOn 15 = .ok (.if_icmp .ne 16, 3) := by decide +kernel
theorem dX5_isAuntOn_18 : decode cX5_isAuntOn 18 = .ok (.aload_n 0, 1) := by decide +kernel
theorem dX5_isAuntOn_19 : decode cX5_isAuntOn 19 = .ok (.iload_n 1, 1) := by decide +kernel
theorem dX5_isAuntOn_20 : decode cX5_isAuntOn 20 = .ok (.iload_n 2, 1) := by decide +kernel
theorem dX5_isAuntOn_21 : decode cX5_isAuntOn 21 = .ok (.invokevirtual 89, 3) := by decide +kernel
theorem dX5_isAuntOn_24 : decode cX5_isAuntOn 24 = .ok (.ifCond .eq 7, 3) := by decide +kernel
theorem dX5_isAuntOn_27 : decode cX5_isAuntOn 27 = .ok (.iconst 1, 1) := by decide +kernel
theorem dX5_isAuntOn_28 : decode cX5_isAuntOn 28 = .ok (.goto 4, 3) := by decide +kernel
theorem dX5_isAuntOn_31 : decode cX5_isAuntOn 31 = .ok (.iconst 0, 1) := by decide +kernel
theorem dX5_isAuntOn_32 : decode cX5_isAuntOn 32 = .ok (.ireturn, 1) := by decide +kernel
set_option maxRecDepth 20000 in
theorem ggX5_auntsOn_X5_isAuntOn : GoodIn wsX5_auntsOn wsX5_isAuntOn := goodIn_r _ [6, 7, 8, 9, 10, 5, 11, 1, 12, 13, 14, 15, 16, 17, 18, 19, 20, 21, 22, 23, 24, 25, 26, 27, 28, 29, 30, 31, 32, 33] (by decide +kernel) (by decide +kernel)
set_option maxRecDepth 20000 in
theorem gX5_auntsOn_X5_isAuntOn : GoodIn wsX5_auntsOn (wsV RX5 93 RX5 yX5_isAuntOn wsX5_isAuntOn) := goodIn_app (goodIn_of _ (by decide +kernel)) ggX5_auntsOn_X5_isAuntOn
theorem dX5_auntsOn_0 : decode cX5_auntsOn 0 = .ok (.iconst 0, 1) := by decide +kernel
theorem dX5_auntsOn_1 : decode cX5_auntsOn 1 = .ok (.istore_n 2, 1) := by decide +kernel
theorem dX5_auntsOn_2 : decode cX5_auntsOn 2 = .ok (.iconst 0, 1) := by decide +kernel
theorem dX5_auntsOn_3 : decode cX5_auntsOn 3 = .ok (.istore_n 3, 1) := by decide +kernel
theorem dX5_auntsOn_4 : decode cX5_auntsOn 4 = .ok (.iload_n 3, 1) := by decide +kernel
theorem dX5_auntsOn_5 : decode cX5_auntsOn 5 = .ok (.aload_n 0, 1) := by decide +kernel
theorem dX5_auntsOn_6 : decode cX5_auntsOn 6 = .ok (.getfield 18, 3) := by decide +kernel
theorem dX5_auntsOn_9 : decode cX5_auntsOn 9 = .ok (.if_icmp .ge 21, 3) := by decide +kernel
theorem dX5_auntsOn_12 : decode cX5_auntsOn 12 = .ok (.aload_n 0, 1) := by decide +kernel
theorem dX5_auntsOn_13 : decode cX5_auntsOn 13 = .ok (.iload_n 3, 1) := by decide +kernel
theorem dX5_auntsOn_14 : decode cX5_auntsOn 14 = .ok (.iload_n 1, 1) := by decide +kernel
theorem dX5_auntsOn_15 : decode cX5_auntsOn 15 = .ok (.invokevirtual 93, 3) := by decide +kernel
theorem dX5_auntsOn_18 : decode cX5_auntsOn 18 = .ok (.ifCond .eq 6, 3) := by decide +kernel
theorem dX5_auntsOn_21 : decode cX5_auntsOn 21 = .ok (.iinc 2 1, 3) := by decide +kernel
theorem dX5_auntsOn_24 : decode cX5_auntsOn 24 = .ok (.iinc 3 1, 3) := by decide +kernel
theorem dX5_auntsOn_27 : decode cX5_auntsOn 27 = .ok (.goto (-23), 3) := by decide +kernel
theorem dX5_auntsOn_30 : decode cX5_auntsOn 30 = .ok (.iload_n 2, 1) := by decide +kernel
theorem dX5_auntsOn_31 : decode cX5_auntsOn 31 = .ok (.ireturn, 1) := by decide +kernel
set_option maxRecDepth 20000 in
theorem ggX5_aliveOn_X5_isAlive : GoodIn wsX5_aliveOn wsX5_isAlive := goodIn_r _ [6, 7, 8, 9, 10, 11, 12, 13, 14, 15, 16, 17, 18, 19, 20, 21, 22, 23, 24] (by decide +kernel) (by decide +kernel)
set_option maxRecDepth 20000 in
theorem gX5_aliveOn_X5_isAlive : GoodIn wsX5_aliveOn (wsV RX5 89 RX5 yX5_isAlive wsX5_isAlive) := goodIn_app (goodIn_of _ (by decide +kernel)) ggX5_aliveOn_X5_isAlive
theorem dX5_aliveOn_0 : decode cX5_aliveOn 0 = .ok (.iconst 0, 1) := by decide +kernel
theorem dX5_aliveOn_1 : decode cX5_aliveOn 1 = .ok (.istore_n 2, 1) := by decide +kernel
theorem dX5_aliveOn_2 : decode cX5_aliveOn 2 = .ok (.iconst 0, 1) := by decide +kernel
theorem dX5_aliveOn_3 : decode cX5_aliveOn 3 = .ok (.istore_n 3, 1) := by decide +kernel
theorem dX5_aliveOn_4 : decode cX5_aliveOn 4 = .ok (.iload_n 3, 1) := by decide +kernel
theorem dX5_aliveOn_5 : decode cX5_aliveOn 5 = .ok (.aload_n 0, 1) := by decide +kernel
theorem dX5_aliveOn_6 : decode cX5_aliveOn 6 = .ok (.getfield 18, 3) := by decide +kernel
theorem dX5_aliveOn_9 : decode cX5_aliveOn 9 = .ok (.if_icmp .ge 21, 3) := by decide +kernel
theorem dX5_aliveOn_12 : decode cX5_aliveOn 12 = .ok (.aload_n 0, 1) := by decide +kernel
theorem dX5_aliveOn_13 : decode cX5_aliveOn 13 = .ok (.iload_n 3, 1) := by decide +kernel
theorem dX5_aliveOn_14 : decode cX5_aliveOn 14 = .ok (.iload_n 1, 1) := by decide +kernel
theorem dX5_aliveOn_15 : decode cX5_aliveOn 15 = .ok (.invokevirtual 89, 3) := by decide +kernel
theorem dX5_aliveOn_18 : decode cX5_aliveOn 18 = .ok (.ifCond .eq 6, 3) := by decide +kernel
theorem dX5_aliveOn_21 : decode cX5_aliveOn 21 = .ok (.iinc 2 1, 3) := by decide +kernel
theorem dX5_aliveOn_24 : decode cX5_aliveOn 24 = .ok (.iinc 3 1, 3) := by decide +kernel
theorem dX5_aliveOn_27 : decode cX5_aliveOn 27 = .ok (.goto (-23), 3) := by decide +kernel
theorem dX5_aliveOn_30 : decode cX5_aliveOn 30 = .ok (.iload_n 2, 1) := by decide +kernel
theorem dX5_aliveOn_31 : decode cX5_aliveOn 31 = .ok (.ireturn, 1) := by decide +kernel
set_option maxRecDepth 20000 in
theorem ggX5_tallyOn_X2_clear : GoodIn wsX5_tallyOn wsX2_clear := goodIn_r _ [8, 9, 10, 60, 61, 62, 63] (by decide +kernel) (by decide +kernel)
set_option maxRecDepth 20000 in
theorem gX5_tallyOn_X2_clear : GoodIn wsX5_tallyOn (wsV RX5 96 RX2 yX2_clear wsX2_clear) := goodIn_app (goodIn_of _ (by decide +kernel)) ggX5_tallyOn_X2_clear
set_option maxRecDepth 20000 in
theorem ggX5_tallyOn_X5_isAlive : GoodIn wsX5_tallyOn wsX5_isAlive := goodIn_r _ [15, 16, 17, 44, 45, 46, 47, 48, 49, 50, 51, 52, 53, 54, 55, 56, 57, 58, 59] (by decide +kernel) (by decide +kernel)
set_option maxRecDepth 20000 in
theorem gX5_tallyOn_X5_isAlive : GoodIn wsX5_tallyOn (wsV RX5 89 RX5 yX5_isAlive wsX5_isAlive) := goodIn_app (goodIn_of _ (by decide +kernel)) ggX5_tallyOn_X5_isAlive
set_option maxRecDepth 20000 in
theorem ggX5_tallyOn_X5_homeOf : GoodIn wsX5_tallyOn wsX5_homeOf := goodIn_r _ [21, 22, 23, 24, 25, 26, 44, 45, 46, 47, 48, 49, 50, 51, 52, 53, 54, 55, 56, 57, 58, 59] (by decide +kernel) (by decide +kernel)
set_option maxRecDepth 20000 in
theorem gX5_tallyOn_X5_homeOf : GoodIn wsX5_tallyOn (wsV RX5 99 RX5 yX5_homeOf wsX5_homeOf) := goodIn_app (goodIn_of _ (by decide +kernel)) ggX5_tallyOn_X5_homeOf
set_option maxRecDepth 20000 in
theorem ggX5_tallyOn_X5_yearsOf : GoodIn wsX5_tallyOn wsX5_yearsOf := goodIn_r _ [30, 16, 44, 45, 46, 47, 48, 49, 50, 51, 52, 53, 54, 55, 56, 57, 58, 59] (by decide +kernel) (by decide +kernel)
set_option maxRecDepth 20000 in
theorem gX5_tallyOn_X5_yearsOf : GoodIn wsX5_tallyOn (wsV RX5 103 RX5 yX5_yearsOf wsX5_yearsOf) := goodIn_app (goodIn_of _ (by decide +kernel)) ggX5_tallyOn_X5_yearsOf
set_option maxRecDepth 20000 in
theorem ggX5_tallyOn_X2_add : GoodIn wsX5_tallyOn wsX2_add := goodIn_r _ [34, 35, 36, 37, 38, 9, 39, 40, 41, 42, 43, 10, 60, 61, 62, 63] (by decide +kernel) (by decide +kernel)
set_option maxRecDepth 20000 in
theorem gX5_tallyOn_X2_add : GoodIn wsX5_tallyOn (wsV RX5 106 RX2 yX2_add wsX2_add) := goodIn_app (goodIn_of _ (by decide +kernel)) ggX5_tallyOn_X2_add
theorem dX5_tallyOn_0 : decode cX5_tallyOn 0 = .ok (.aload_n 0, 1) := by decide +kernel
theorem dX5_tallyOn_1 : decode cX5_tallyOn 1 = .ok (.getfield 61, 3) := by decide +kernel
theorem dX5_tallyOn_4 : decode cX5_tallyOn 4 = .ok (.invokevirtual 96, 3) := by decide +kernel
theorem dX5_tallyOn_7 : decode cX5_tallyOn 7 = .ok (.iconst 0, 1) := by decide +kernel
theorem dX5_tallyOn_8 : decode cX5_tallyOn 8 = .ok (.istore_n 2, 1) := by decide +kernel
theorem dX5_tallyOn_9 : decode cX5_tallyOn 9 = .ok (.iload_n 2, 1) := by decide +kernel
theorem dX5_tallyOn_10 : decode cX5_tallyOn 10 = .ok (.aload_n 0, 1) := by decide +kernel
theorem dX5_tallyOn_11 : decode cX5_tallyOn 11 = .ok (.getfield 18, 3) := by decide +kernel
theorem dX5_tallyOn_14 : decode cX5_tallyOn 14 = .ok (.if_icmp .ge 43, 3) := by decide +kernel
theorem dX5_tallyOn_17 : decode cX5_tallyOn 17 = .ok (.aload_n 0, 1) := by decide +kernel
theorem dX5_tallyOn_18 : decode cX5_tallyOn 18 = .ok (.iload_n 2, 1) := by decide +kernel
theorem dX5_tallyOn_19 : decode cX5_tallyOn 19 = .ok (.iload_n 1, 1) := by decide +kernel
theorem dX5_tallyOn_20 : decode cX5_tallyOn 20 = .ok (.invokevirtual 89, 3) := by decide +kernel
theorem dX5_tallyOn_23 : decode cX5_tallyOn 23 = .ok (.ifCond .eq 28, 3) := by decide +kernel
theorem dX5_tallyOn_26 : decode cX5_tallyOn 26 = .ok (.aload_n 0, 1) := by decide +kernel
theorem dX5_tallyOn_27 : decode cX5_tallyOn 27 = .ok (.getfield 61, 3) := by decide +kernel
theorem dX5_tallyOn_30 : decode cX5_tallyOn 30 = .ok (.aload_n 0, 1) := by decide +kernel
theorem dX5_tallyOn_31 : decode cX5_tallyOn 31 = .ok (.iload_n 2, 1) := by decide +kernel
theorem dX5_tallyOn_32 : decode cX5_tallyOn 32 = .ok (.iload_n 1, 1) := by decide +kernel
theorem dX5_tallyOn_33 : decode cX5_tallyOn 33 = .ok (.invokevirtual 99, 3) := by decide +kernel
theorem dX5_tallyOn_36 : decode cX5_tallyOn 36 = .ok (.aload_n 0, 1) := by decide +kernel
theorem dX5_tallyOn_37 : decode cX5_tallyOn 37 = .ok (.getfield 21, 3) := by decide +kernel
theorem dX5_tallyOn_40 : decode cX5_tallyOn 40 = .ok (.iload_n 2, 1) := by decide +kernel
theorem dX5_tallyOn_41 : decode cX5_tallyOn 41 = .ok (.iaload, 1) := by decide +kernel
theorem dX5_tallyOn_42 : decode cX5_tallyOn 42 = .ok (.aload_n 0, 1) := by decide +kernel
theorem dX5_tallyOn_43 : decode cX5_tallyOn 43 = .ok (.iload_n 2, 1) := by decide +kernel
theorem dX5_tallyOn_44 : decode cX5_tallyOn 44 = .ok (.iload_n 1, 1) := by decide +kernel
theorem dX5_tallyOn_45 : decode cX5_tallyOn 45 = .ok (.invokevirtual 103, 3) := by decide +kernel
theorem dX5_tallyOn_48 : decode cX5_tallyOn 48 = .ok (.invokevirtual 106, 3) := by decide +kernel
theorem dX5_tallyOn_51 : decode cX5_tallyOn 51 = .ok (.iinc 2 1, 3) := by decide +kernel
theorem dX5_tallyOn_54 : decode cX5_tallyOn 54 = .ok (.goto (-45), 3) := by decide +kernel
theorem dX5_tallyOn_57 : decode cX5_tallyOn 57 = .ok (.aload_n 0, 1) := by decide +kernel
theorem dX5_tallyOn_58 : decode cX5_tallyOn 58 = .ok (.getfield 61, 3) := by decide +kernel
theorem dX5_tallyOn_61 : decode cX5_tallyOn 61 = .ok (.areturn, 1) := by decide +kernel
set_option maxRecDepth 20000 in
theorem ggX5_numberOf_X5_tallyOn : GoodIn wsX5_numberOf wsX5_tallyOn := goodIn_r _ [6, 7, 8, 9, 10, 11, 12, 13, 14, 15, 16, 17, 18, 19, 5, 20, 21, 22, 23, 24, 25, 26, 27, 28, 29, 30, 31, 32, 33, 34, 35, 36, 37, 38, 39, 40, 41, 42, 43, 44, 45, 46, 47, 48, 53, 54, 55, 56, 57, 58, 59, 60, 61, 62, 63, 64, 65, 66, 67, 68, 69, 70, 71, 72] (by decide +kernel) (by decide +kernel)
set_option maxRecDepth 20000 in
theorem gX5_numberOf_X5_tallyOn : GoodIn wsX5_numberOf (wsV RX5 109 RX5 yX5_tallyOn wsX5_tallyOn) := goodIn_app (goodIn_of _ (by decide +kernel)) ggX5_numberOf_X5_tallyOn
set_option maxRecDepth 20000 in
theorem ggX5_numberOf_X2_valueOf : GoodIn wsX5_numberOf wsX2_valueOf := goodIn_r _ [52, 15, 44, 45, 16, 69, 70, 71, 72] (by decide +kernel) (by decide +kernel)
set_option maxRecDepth 20000 in
theorem gX5_numberOf_X2_valueOf : GoodIn wsX5_numberOf (wsV RX5 113 RX2 yX2_valueOf wsX2_valueOf) := goodIn_app (goodIn_of _ (by decide +kernel)) ggX5_numberOf_X2_valueOf
theorem dX5_numberOf_0 : decode cX5_numberOf 0 = .ok (.aload_n 0, 1) := by decide +kernel
theorem dX5_numberOf_1 : decode cX5_numberOf 1 = .ok (.iload_n 2, 1) := by decide +kernel
theorem dX5_numberOf_2 : decode cX5_numberOf 2 = .ok (.invokevirtual 109, 3) := by decide +kernel
theorem dX5_numberOf_5 : decode cX5_numberOf 5 = .ok (.iload_n 1, 1) := by decide +kernel
theorem dX5_numberOf_6 : decode cX5_numberOf 6 = .ok (.aload_n 0, 1) := by decide +kernel
theorem dX5_numberOf_7 : decode cX5_numberOf 7 = .ok (.getfield 15, 3) := by decide +kernel
theorem dX5_numberOf_10 : decode cX5_numberOf 10 = .ok (.invokevirtual 113, 3) := by decide +kernel
theorem dX5_numberOf_13 : decode cX5_numberOf 13 = .ok (.ireturn, 1) := by decide +kernel
set_option maxRecDepth 20000 in
theorem ggX5_having_X5_tallyOn : GoodIn wsX5_having wsX5_tallyOn := goodIn_r _ [7, 8, 9, 10, 11, 12, 13, 14, 15, 16, 17, 18, 19, 20, 6, 21, 22, 23, 24, 25, 26, 27, 28, 29, 30, 31, 32, 33, 34, 35, 36, 37, 38, 39, 40, 41, 42, 43, 44, 45, 46, 47, 48, 49, 54, 55, 56, 57, 58, 59, 60, 61, 62, 63, 64, 65, 66, 67, 68, 69, 70, 71, 72, 73] (by decide +kernel) (by decide +kernel)
set_option maxRecDepth 20000 in
theorem gX5_having_X5_tallyOn : GoodIn wsX5_having (wsV RX5 109 RX5 yX5_tallyOn wsX5_tallyOn) := goodIn_app (goodIn_of _ (by decide +kernel)) ggX5_having_X5_tallyOn
set_option maxRecDepth 20000 in
theorem ggX5_having_X2_valueOf : GoodIn wsX5_having wsX2_valueOf := goodIn_r _ [53, 16, 45, 46, 17, 70, 71, 72, 73] (by decide +kernel) (by decide +kernel)
set_option maxRecDepth 20000 in
theorem gX5_having_X2_valueOf : GoodIn wsX5_having (wsV RX5 113 RX2 yX2_valueOf wsX2_valueOf) := goodIn_app (goodIn_of _ (by decide +kernel)) ggX5_having_X2_valueOf
theorem dX5_having_0 : decode cX5_having 0 = .ok (.aload_n 0, 1) := by decide +kernel
theorem dX5_having_1 : decode cX5_having 1 = .ok (.iload_n 2, 1) := by decide +kernel
theorem dX5_having_2 : decode cX5_having 2 = .ok (.invokevirtual 109, 3) := by decide +kernel
theorem dX5_having_5 : decode cX5_having 5 = .ok (.astore_n 3, 1) := by decide +kernel
theorem dX5_having_6 : decode cX5_having 6 = .ok (.iconst 0, 1) := by decide +kernel
theorem dX5_having_7 : decode cX5_having 7 = .ok (.istore 4, 2) := by decide +kernel
theorem dX5_having_9 : decode cX5_having 9 = .ok (.iconst 0, 1) := by decide +kernel
theorem dX5_having_10 : decode cX5_having 10 = .ok (.istore 5, 2) := by decide +kernel
theorem dX5_having_12 : decode cX5_having 12 = .ok (.iload 5, 2) := by decide +kernel
theorem dX5_having_14 : decode cX5_having 14 = .ok (.aload_n 0, 1) := by decide +kernel
theorem dX5_having_15 : decode cX5_having 15 = .ok (.getfield 9, 3) := by decide +kernel
theorem dX5_having_18 : decode cX5_having 18 = .ok (.if_icmp .ge 32, 3) := by decide +kernel
theorem dX5_having_21 : decode cX5_having 21 = .ok (.aload_n 3, 1) := by decide +kernel
theorem dX5_having_22 : decode cX5_having 22 = .ok (.iload 5, 2) := by decide +kernel
theorem dX5_having_24 : decode cX5_having 24 = .ok (.aload_n 0, 1) := by decide +kernel
theorem dX5_having_25 : decode cX5_having 25 = .ok (.getfield 15, 3) := by decide +kernel
theorem dX5_having_28 : decode cX5_having 28 = .ok (.invokevirtual 113, 3) := by decide +kernel
theorem dX5_having_31 : decode cX5_having 31 = .ok (.iload_n 1, 1) := by decide +kernel
theorem dX5_having_32 : decode cX5_having 32 = .ok (.if_icmp .ne 12, 3) := by decide +kernel
theorem dX5_having_35 : decode cX5_having 35 = .ok (.iload 4, 2) := by decide +kernel
theorem dX5_having_37 : decode cX5_having 37 = .ok (.iconst 1, 1) := by decide +kernel
theorem dX5_having_38 : decode cX5_having 38 = .ok (.iload 5, 2) := by decide +kernel
theorem dX5_having_40 : decode cX5_having 40 = .ok (.ishl, 1) := by decide +kernel
theorem dX5_having_41 : decode cX5_having 41 = .ok (.ior, 1) := by decide +kernel
theorem dX5_having_42 : decode cX5_having 42 = .ok (.istore 4, 2) := by decide +kernel
theorem dX5_having_44 : decode cX5_having 44 = .ok (.iinc 5 1, 3) := by decide +kernel
theorem dX5_having_47 : decode cX5_having 47 = .ok (.goto (-35), 3) := by decide +kernel
theorem dX5_having_50 : decode cX5_having 50 = .ok (.iload 4, 2) := by decide +kernel
theorem dX5_having_52 : decode cX5_having 52 = .ok (.ireturn, 1) := by decide +kernel
set_option maxRecDepth 20000 in
theorem ggX5_allNumbers_X5_tallyOn : GoodIn wsX5_allNumbers wsX5_tallyOn := goodIn_r _ [6, 7, 8, 9, 10, 11, 12, 13, 14, 15, 16, 17, 18, 19, 5, 20, 21, 22, 23, 24, 25, 26, 27, 28, 29, 30, 31, 32, 33, 34, 35, 36, 37, 38, 39, 40, 41, 42, 43, 44, 45, 46, 47, 48, 53, 54, 55, 56, 57, 58, 59, 60, 61, 62, 63, 64, 65, 66, 67, 68, 69, 70, 71, 72] (by decide +kernel) (by decide +kernel)
set_option maxRecDepth 20000 in
theorem gX5_allNumbers_X5_tallyOn : GoodIn wsX5_allNumbers (wsV RX5 109 RX5 yX5_tallyOn wsX5_tallyOn) := goodIn_app (goodIn_of _ (by decide +kernel)) ggX5_allNumbers_X5_tallyOn
set_option maxRecDepth 20000 in
theorem ggX5_allNumbers_X2_valueOf : GoodIn wsX5_allNumbers wsX2_valueOf := goodIn_r _ [52, 15, 44, 45, 16, 69, 70, 71, 72] (by decide +kernel) (by decide +kernel)
set_option maxRecDepth 20000 in
theorem gX5_allNumbers_X2_valueOf : GoodIn wsX5_allNumbers (wsV RX5 113 RX2 yX2_valueOf wsX2_valueOf) := goodIn_app (goodIn_of _ (by decide +kernel)) ggX5_allNumbers_X2_valueOf
theorem dX5_allNumbers_0 : decode cX5_allNumbers 0 = .ok (.aload_n 0, 1) := by decide +kernel
theorem dX5_allNumbers_1 : decode cX5_allNumbers 1 = .ok (.iload_n 1, 1) := by decide +kernel
theorem dX5_allNumbers_2 : decode cX5_allNumbers 2 = .ok (.invokevirtual 109, 3) := by decide +kernel
theorem dX5_allNumbers_5 : decode cX5_allNumbers 5 = .ok (.astore_n 3, 1) := by decide +kernel
theorem dX5_allNumbers_6 : decode cX5_allNumbers 6 = .ok (.iconst 0, 1) := by decide +kernel
theorem dX5_allNumbers_7 : decode cX5_allNumbers 7 = .ok (.istore 4, 2) := by decide +kernel
theorem dX5_allNumbers_9 : decode cX5_allNumbers 9 = .ok (.iconst 0, 1) := by decide +kernel
theorem dX5_allNumbers_10 : decode cX5_allNumbers 10 = .ok (.istore 5, 2) := by decide +kernel
theorem dX5_allNumbers_12 : decode cX5_allNumbers 12 = .ok (.iload 5, 2) := by decide +kernel
theorem dX5_allNumbers_14 : decode cX5_allNumbers 14 = .ok (.aload_n 0, 1) := by decide +kernel
theorem dX5_allNumbers_15 : decode cX5_allNumbers 15 = .ok (.getfield 9, 3) := by decide +kernel
theorem dX5_allNumbers_18 : decode cX5_allNumbers 18 = .ok (.if_icmp .ge 36, 3) := by decide +kernel
theorem dX5_allNumbers_21 : decode cX5_allNumbers 21 = .ok (.aload_n 3, 1) := by decide +kernel
theorem dX5_allNumbers_22 : decode cX5_allNumbers 22 = .ok (.iload 5, 2) := by decide +kernel
theorem dX5_allNumbers_24 : decode cX5_allNumbers 24 = .ok (.iload_n 2, 1) := by decide +kernel
theorem dX5_allNumbers_25 : decode cX5_allNumbers 25 = .ok (.invokevirtual 113, 3) := by decide +kernel
theorem dX5_allNumbers_28 : decode cX5_allNumbers 28 = .ok (.istore 6, 2) := by decide +kernel
theorem dX5_allNumbers_30 : decode cX5_allNumbers 30 = .ok (.iload 4, 2) := by decide +kernel
theorem dX5_allNumbers_32 : decode cX5_allNumbers 32 = .ok (.iload 6, 2) := by decide +kernel
theorem dX5_allNumbers_34 : decode cX5_allNumbers 34 = .ok (.bipush (-4), 2) := by decide +kernel
theorem dX5_allNumbers_36 : decode cX5_allNumbers 36 = .ok (.if_icmp .ne 7, 3) := by decide +kernel
theorem dX5_allNumbers_39 : decode cX5_allNumbers 39 = .ok (.iconst 0, 1) := by decide +kernel
theorem dX5_allNumbers_40 : decode cX5_allNumbers 40 = .ok (.goto 5, 3) := by decide +kernel
theorem dX5_allNumbers_43 : decode cX5_allNumbers 43 = .ok (.iload 6, 2) := by decide +kernel
theorem dX5_allNumbers_45 : decode cX5_allNumbers 45 = .ok (.iadd, 1) := by decide +kernel
theorem dX5_allNumbers_46 : decode cX5_allNumbers 46 = .ok (.istore 4, 2) := by decide +kernel
theorem dX5_allNumbers_48 : decode cX5_allNumbers 48 = .ok (.iinc 5 1, 3) := by decide +kernel
theorem dX5_allNumbers_51 : decode cX5_allNumbers 51 = .ok (.goto (-39), 3) := by decide +kernel
theorem dX5_allNumbers_54 : decode cX5_allNumbers 54 = .ok (.iload 4, 2) := by decide +kernel
theorem dX5_allNumbers_56 : decode cX5_allNumbers 56 = .ok (.ireturn, 1) := by decide +kernel
set_option maxRecDepth 20000 in
theorem ggX5_nextEvent_X5_yearsOf : GoodIn wsX5_nextEvent wsX5_yearsOf := goodIn_r _ [15, 3, 16, 17, 18, 19, 20, 21, 22, 23, 24, 25, 26, 27, 28, 29, 30, 31] (by decide +kernel) (by decide +kernel)
set_option maxRecDepth 20000 in
theorem gX5_nextEvent_X5_yearsOf : GoodIn wsX5_nextEvent (wsV RX5 103 RX5 yX5_yearsOf wsX5_yearsOf) := goodIn_app (goodIn_of _ (by decide +kernel)) ggX5_nextEvent_X5_yearsOf
theorem dX5_nextEvent_0 : decode cX5_nextEvent 0 = .ok (.ldc 88, 2) := by decide +kernel
theorem dX5_nextEvent_2 : decode cX5_nextEvent 2 = .ok (.istore_n 2, 1) := by decide +kernel
theorem dX5_nextEvent_3 : decode cX5_nextEvent 3 = .ok (.iconst 0, 1) := by decide +kernel
theorem dX5_nextEvent_4 : decode cX5_nextEvent 4 = .ok (.istore_n 3, 1) := by decide +kernel
theorem dX5_nextEvent_5 : decode cX5_nextEvent 5 = .ok (.iload_n 3, 1) := by decide +kernel
theorem dX5_nextEvent_6 : decode cX5_nextEvent 6 = .ok (.aload_n 0, 1) := by decide +kernel
theorem dX5_nextEvent_7 : decode cX5_nextEvent 7 = .ok (.getfield 18, 3) := by decide +kernel
theorem dX5_nextEvent_10 : decode cX5_nextEvent 10 = .ok (.if_icmp .ge 88, 3) := by decide +kernel
theorem dX5_nextEvent_13 : decode cX5_nextEvent 13 = .ok (.iload_n 1, 1) := by decide +kernel
theorem dX5_nextEvent_14 : decode cX5_nextEvent 14 = .ok (.aload_n 0, 1) := by decide +kernel
theorem dX5_nextEvent_15 : decode cX5_nextEvent 15 = .ok (.getfield 25, 3) := by decide +kernel
theorem dX5_nextEvent_18 : decode cX5_nextEvent 18 = .ok (.iload_n 3, 1) := by decide +kernel
theorem dX5_nextEvent_19 : decode cX5_nextEvent 19 = .ok (.iaload, 1) := by decide +kernel
theorem dX5_nextEvent_20 : decode cX5_nextEvent 20 = .ok (.if_icmp .ge 12, 3) := by decide +kernel
theorem dX5_nextEvent_23 : decode cX5_nextEvent 23 = .ok (.aload_n 0, 1) := by decide +kernel
theorem dX5_nextEvent_24 : decode cX5_nextEvent 24 = .ok (.getfield 25, 3) := by decide +kernel
theorem dX5_nextEvent_27 : decode cX5_nextEvent 27 = .ok (.iload_n 3, 1) := by decide +kernel
theorem dX5_nextEvent_28 : decode cX5_nextEvent 28 = .ok (.iaload, 1) := by decide +kernel
theorem dX5_nextEvent_29 : decode cX5_nextEvent 29 = .ok (.goto 22, 3) := by decide +kernel
theorem dX5_nextEvent_32 : decode cX5_nextEvent 32 = .ok (.aload_n 0, 1) := by decide +kernel
theorem dX5_nextEvent_33 : decode cX5_nextEvent 33 = .ok (.getfield 25, 3) := by decide +kernel
theorem dX5_nextEvent_36 : decode cX5_nextEvent 36 = .ok (.iload_n 3, 1) := by decide +kernel
theorem dX5_nextEvent_37 : decode cX5_nextEvent 37 = .ok (.iaload, 1) := by decide +kernel
theorem dX5_nextEvent_38 : decode cX5_nextEvent 38 = .ok (.aload_n 0, 1) := by decide +kernel
theorem dX5_nextEvent_39 : decode cX5_nextEvent 39 = .ok (.iload_n 3, 1) := by decide +kernel
theorem dX5_nextEvent_40 : decode cX5_nextEvent 40 = .ok (.iload_n 1, 1) := by decide +kernel
theorem dX5_nextEvent_41 : decode cX5_nextEvent 41 = .ok (.invokevirtual 103, 3) := by decide +kernel
theorem dX5_nextEvent_44 : decode cX5_nextEvent 44 = .ok (.iconst 1, 1) := by decide +kernel
theorem dX5_nextEvent_45 : decode cX5_nextEvent 45 = .ok (.iadd, 1) := by decide +kernel
theorem dX5_nextEvent_46 : decode cX5_nextEvent 46 = .ok (.sipush 360, 3) := by decide +kernel
theorem dX5_nextEvent_49 : decode cX5_nextEvent 49 = .ok (.imul, 1) := by decide +kernel
theorem dX5_nextEvent_50 : decode cX5_nextEvent 50 = .ok (.iadd, 1) := by decide +kernel
theorem dX5_nextEvent_51 : decode cX5_nextEvent 51 = .ok (.istore 4, 2) := by decide +kernel
theorem dX5_nextEvent_53 : decode cX5_nextEvent 53 = .ok (.iload 4, 2) := by decide +kernel
theorem dX5_nextEvent_55 : decode cX5_nextEvent 55 = .ok (.aload_n 0, 1) := by decide +kernel
theorem dX5_nextEvent_56 : decode cX5_nextEvent 56 = .ok (.getfield 31, 3) := by decide +kernel
theorem dX5_nextEvent_59 : decode cX5_nextEvent 59 = .ok (.iload_n 3, 1) := by decide +kernel
theorem dX5_nextEvent_60 : decode cX5_nextEvent 60 = .ok (.iaload, 1) := by decide +kernel
theorem dX5_nextEvent_61 : decode cX5_nextEvent 61 = .ok (.if_icmp .ge 10, 3) := by decide +kernel
theorem dX5_nextEvent_64 : decode cX5_nextEvent 64 = .ok (.iload_n 2, 1) := by decide +kernel
theorem dX5_nextEvent_65 : decode cX5_nextEvent 65 = .ok (.iload 4, 2) := by decide +kernel
theorem dX5_nextEvent_67 : decode cX5_nextEvent 67 = .ok (.invokestatic 116, 3) := by decide +kernel
theorem dX5_nextEvent_70 : decode cX5_nextEvent 70 = .ok (.istore_n 2, 1) := by decide +kernel
theorem dX5_nextEvent_71 : decode cX5_nextEvent 71 = .ok (.aload_n 0, 1) := by decide +kernel
theorem dX5_nextEvent_72 : decode cX5_nextEvent 72 = .ok (.getfield 31, 3) := by decide +kernel
theorem dX5_nextEvent_75 : decode cX5_nextEvent 75 = .ok (.iload_n 3, 1) := by decide +kernel
theorem dX5_nextEvent_76 : decode cX5_nextEvent 76 = .ok (.iaload, 1) := by decide +kernel
theorem dX5_nextEvent_77 : decode cX5_nextEvent 77 = .ok (.iload_n 1, 1) := by decide +kernel
theorem dX5_nextEvent_78 : decode cX5_nextEvent 78 = .ok (.if_icmp .le 14, 3) := by decide +kernel
theorem dX5_nextEvent_81 : decode cX5_nextEvent 81 = .ok (.iload_n 2, 1) := by decide +kernel
theorem dX5_nextEvent_82 : decode cX5_nextEvent 82 = .ok (.aload_n 0, 1) := by decide +kernel
theorem dX5_nextEvent_83 : decode cX5_nextEvent 83 = .ok (.getfield 31, 3) := by decide +kernel
theorem dX5_nextEvent_86 : decode cX5_nextEvent 86 = .ok (.iload_n 3, 1) := by decide +kernel
theorem dX5_nextEvent_87 : decode cX5_nextEvent 87 = .ok (.iaload, 1) := by decide +kernel
theorem dX5_nextEvent_88 : decode cX5_nextEvent 88 = .ok (.invokestatic 116, 3) := by decide +kernel
theorem dX5_nextEvent_91 : decode cX5_nextEvent 91 = .ok (.istore_n 2, 1) := by decide +kernel
theorem dX5_nextEvent_92 : decode cX5_nextEvent 92 = .ok (.iinc 3 1, 3) := by decide +kernel
theorem dX5_nextEvent_95 : decode cX5_nextEvent 95 = .ok (.goto (-90), 3) := by decide +kernel
theorem dX5_nextEvent_98 : decode cX5_nextEvent 98 = .ok (.iconst 0, 1) := by decide +kernel
theorem dX5_nextEvent_99 : decode cX5_nextEvent 99 = .ok (.istore_n 3, 1) := by decide +kernel
theorem dX5_nextEvent_100 : decode cX5_nextEvent 100 = .ok (.iload_n 3, 1) := by decide +kernel
theorem dX5_nextEvent_101 : decode cX5_nextEvent 101 = .ok (.aload_n 0, 1) := by decide +kernel
theorem dX5_nextEvent_102 : decode cX5_nextEvent 102 = .ok (.getfield 34, 3) := by decide +kernel
theorem dX5_nextEvent_105 : decode cX5_nextEvent 105 = .ok (.if_icmp .ge 30, 3) := by decide +kernel
theorem dX5_nextEvent_108 : decode cX5_nextEvent 108 = .ok (.aload_n 0, 1) := by decide +kernel
theorem dX5_nextEvent_109 : decode cX5_nextEvent 109 = .ok (.getfield 37, 3) := by decide +kernel
theorem dX5_nextEvent_112 : decode cX5_nextEvent 112 = .ok (.iload_n 3, 1) := by decide +kernel
theorem dX5_nextEvent_113 : decode cX5_nextEvent 113 = .ok (.iaload, 1) := by decide +kernel
theorem dX5_nextEvent_114 : decode cX5_nextEvent 114 = .ok (.iload_n 1, 1) := by decide +kernel
theorem dX5_nextEvent_115 : decode cX5_nextEvent 115 = .ok (.if_icmp .le 14, 3) := by decide +kernel
theorem dX5_nextEvent_118 : decode cX5_nextEvent 118 = .ok (.iload_n 2, 1) := by decide +kernel
theorem dX5_nextEvent_119 : decode cX5_nextEvent 119 = .ok (.aload_n 0, 1) := by decide +kernel
theorem dX5_nextEvent_120 : decode cX5_nextEvent 120 = .ok (.getfield 37, 3) := by decide +kernel
theorem dX5_nextEvent_123 : decode cX5_nextEvent 123 = .ok (.iload_n 3, 1) := by decide +kernel
theorem dX5_nextEvent_124 : decode cX5_nextEvent 124 = .ok (.iaload, 1) := by decide +kernel
theorem dX5_nextEvent_125 : decode cX5_nextEvent 125 = .ok (.invokestatic 116, 3) := by decide +kernel
theorem dX5_nextEvent_128 : decode cX5_nextEvent 128 = .ok (.istore_n 2, 1) := by decide +kernel
theorem dX5_nextEvent_129 : decode cX5_nextEvent 129 = .ok (.iinc 3 1, 3) := by decide +kernel
theorem dX5_nextEvent_132 : decode cX5_nextEvent 132 = .ok (.goto (-32), 3) := by decide +kernel
theorem dX5_nextEvent_135 : decode cX5_nextEvent 135 = .ok (.iload_n 2, 1) := by decide +kernel
theorem dX5_nextEvent_136 : decode cX5_nextEvent 136 = .ok (.ireturn, 1) := by decide +kernel
set_option maxRecDepth 20000 in
theorem ggX5_passYearEnd_X5_isAlive : GoodIn wsX5_passYearEnd wsX5_isAlive := goodIn_r _ [8, 9, 3, 14, 15, 16, 17, 18, 19, 20, 21, 22, 23, 24, 25, 26, 27, 28, 29] (by decide +kernel) (by decide +kernel)
set_option maxRecDepth 20000 in
theorem gX5_passYearEnd_X5_isAlive : GoodIn wsX5_passYearEnd (wsV RX5 89 RX5 yX5_isAlive wsX5_isAlive) := goodIn_app (goodIn_of _ (by decide +kernel)) ggX5_passYearEnd_X5_isAlive
set_option maxRecDepth 20000 in
theorem ggX5_passYearEnd_X5_yearsOf : GoodIn wsX5_passYearEnd wsX5_yearsOf := goodIn_r _ [13, 9, 14, 15, 16, 17, 18, 19, 20, 21, 22, 23, 24, 25, 26, 27, 28, 29] (by decide +kernel) (by decide +kernel)
set_option maxRecDepth 20000 in
theorem gX5_passYearEnd_X5_yearsOf : GoodIn wsX5_passYearEnd (wsV RX5 103 RX5 yX5_yearsOf wsX5_yearsOf) := goodIn_app (goodIn_of _ (by decide +kernel)) ggX5_passYearEnd_X5_yearsOf
theorem dX5_passYearEnd_0 : decode cX5_passYearEnd 0 = .ok (.iload_n 2, 1) := by decide +kernel
theorem dX5_passYearEnd_1 : decode cX5_passYearEnd 1 = .ok (.istore_n 3, 1) := by decide +kernel
theorem dX5_passYearEnd_2 : decode cX5_passYearEnd 2 = .ok (.iconst 0, 1) := by decide +kernel
theorem dX5_passYearEnd_3 : decode cX5_passYearEnd 3 = .ok (.istore 4, 2) := by decide +kernel
theorem dX5_passYearEnd_5 : decode cX5_passYearEnd 5 = .ok (.iload 4, 2) := by decide +kernel
theorem dX5_passYearEnd_7 : decode cX5_passYearEnd 7 = .ok (.aload_n 0, 1) := by decide +kernel
theorem dX5_passYearEnd_8 : decode cX5_passYearEnd 8 = .ok (.getfield 18, 3) := by decide +kernel
theorem dX5_passYearEnd_11 : decode cX5_passYearEnd 11 = .ok (.if_icmp .ge 57, 3) := by decide +kernel
theorem dX5_passYearEnd_14 : decode cX5_passYearEnd 14 = .ok (.aload_n 0, 1) := by decide +kernel
theorem dX5_passYearEnd_15 : decode cX5_passYearEnd 15 = .ok (.iload 4, 2) := by decide +kernel
theorem dX5_passYearEnd_17 : decode cX5_passYearEnd 17 = .ok (.iload_n 1, 1) := by decide +kernel
theorem dX5_passYearEnd_18 : decode cX5_passYearEnd 18 = .ok (.invokevirtual 89, 3) := by decide +kernel
theorem dX5_passYearEnd_21 : decode cX5_passYearEnd 21 = .ok (.ifCond .eq 41, 3) := by decide +kernel
theorem dX5_passYearEnd_24 : decode cX5_passYearEnd 24 = .ok (.iload_n 3, 1) := by decide +kernel
theorem dX5_passYearEnd_25 : decode cX5_passYearEnd 25 = .ok (.ldc 121, 2) := by decide +kernel
theorem dX5_passYearEnd_27 : decode cX5_passYearEnd 27 = .ok (.imul, 1) := by decide +kernel
theorem dX5_passYearEnd_28 : decode cX5_passYearEnd 28 = .ok (.sipush 12345, 3) := by decide +kernel
theorem dX5_passYearEnd_31 : decode cX5_passYearEnd 31 = .ok (.iadd, 1) := by decide +kernel
theorem dX5_passYearEnd_32 : decode cX5_passYearEnd 32 = .ok (.istore_n 3, 1) := by decide +kernel
theorem dX5_passYearEnd_33 : decode cX5_passYearEnd 33 = .ok (.iload_n 3, 1) := by decide +kernel
theorem dX5_passYearEnd_34 : decode cX5_passYearEnd 34 = .ok (.bipush 16, 2) := by decide +kernel
theorem dX5_passYearEnd_36 : decode cX5_passYearEnd 36 = .ok (.iushr, 1) := by decide +kernel
theorem dX5_passYearEnd_37 : decode cX5_passYearEnd 37 = .ok (.sipush 32767, 3) := by decide +kernel
theorem dX5_passYearEnd_40 : decode cX5_passYearEnd 40 = .ok (.iand, 1) := by decide +kernel
theorem dX5_passYearEnd_41 : decode cX5_passYearEnd 41 = .ok (.bipush 100, 2) := by decide +kernel
theorem dX5_passYearEnd_43 : decode cX5_passYearEnd 43 = .ok (.irem, 1) := by decide +kernel
theorem dX5_passYearEnd_44 : decode cX5_passYearEnd 44 = .ok (.aload_n 0, 1) := by decide +kernel
theorem dX5_passYearEnd_45 : decode cX5_passYearEnd 45 = .ok (.iload 4, 2) := by decide +kernel
theorem dX5_passYearEnd_47 : decode cX5_passYearEnd 47 = .ok (.iload_n 1, 1) := by decide +kernel
theorem dX5_passYearEnd_48 : decode cX5_passYearEnd 48 = .ok (.invokevirtual 103, 3) := by decide +kernel
theorem dX5_passYearEnd_51 : decode cX5_passYearEnd 51 = .ok (.if_icmp .ge 11, 3) := by decide +kernel
theorem dX5_passYearEnd_54 : decode cX5_passYearEnd 54 = .ok (.aload_n 0, 1) := by decide +kernel
theorem dX5_passYearEnd_55 : decode cX5_passYearEnd 55 = .ok (.getfield 31, 3) := by decide +kernel
theorem dX5_passYearEnd_58 : decode cX5_passYearEnd 58 = .ok (.iload 4, 2) := by decide +kernel
theorem dX5_passYearEnd_60 : decode cX5_passYearEnd 60 = .ok (.iload_n 1, 1) := by decide +kernel
theorem dX5_passYearEnd_61 : decode cX5_passYearEnd 61 = .ok (.iastore, 1) := by decide +kernel
theorem dX5_passYearEnd_62 : decode cX5_passYearEnd 62 = .ok (.iinc 4 1, 3) := by decide +kernel
theorem dX5_passYearEnd_65 : decode cX5_passYearEnd 65 = .ok (.goto (-60), 3) := by decide +kernel
theorem dX5_passYearEnd_68 : decode cX5_passYearEnd 68 = .ok (.iload_n 3, 1) := by decide +kernel
theorem dX5_passYearEnd_69 : decode cX5_passYearEnd 69 = .ok (.ireturn, 1) := by decide +kernel
set_option maxRecDepth 20000 in
theorem ggX5_bearExpected_X5_addOne : GoodIn wsX5_bearExpected wsX5_addOne := goodIn_r _ [9, 10, 11, 12, 13, 14, 15, 16, 17, 18, 19, 20, 21, 22, 23, 24, 25, 26, 27, 28, 29, 30] (by decide +kernel) (by decide +kernel)
set_option maxRecDepth 20000 in
theorem gX5_bearExpected_X5_addOne : GoodIn wsX5_bearExpected (wsV RX5 122 RX5 yX5_addOne wsX5_addOne) := goodIn_app (goodIn_of _ (by decide +kernel)) ggX5_bearExpected_X5_addOne
theorem dX5_bearExpected_0 : decode cX5_bearExpected 0 = .ok (.iconst 1, 1) := by decide +kernel
theorem dX5_bearExpected_1 : decode cX5_bearExpected 1 = .ok (.istore_n 2, 1) := by decide +kernel
theorem dX5_bearExpected_2 : decode cX5_bearExpected 2 = .ok (.iconst 0, 1) := by decide +kernel
theorem dX5_bearExpected_3 : decode cX5_bearExpected 3 = .ok (.istore_n 3, 1) := by decide +kernel
theorem dX5_bearExpected_4 : decode cX5_bearExpected 4 = .ok (.iload_n 3, 1) := by decide +kernel
theorem dX5_bearExpected_5 : decode cX5_bearExpected 5 = .ok (.aload_n 0, 1) := by decide +kernel
theorem dX5_bearExpected_6 : decode cX5_bearExpected 6 = .ok (.getfield 46, 3) := by decide +kernel
theorem dX5_bearExpected_9 : decode cX5_bearExpected 9 = .ok (.if_icmp .ge 37, 3) := by decide +kernel
theorem dX5_bearExpected_12 : decode cX5_bearExpected 12 = .ok (.aload_n 0, 1) := by decide +kernel
theorem dX5_bearExpected_13 : decode cX5_bearExpected 13 = .ok (.getfield 49, 3) := by decide +kernel
theorem dX5_bearExpected_16 : decode cX5_bearExpected 16 = .ok (.iload_n 3, 1) := by decide +kernel
theorem dX5_bearExpected_17 : decode cX5_bearExpected 17 = .ok (.iaload, 1) := by decide +kernel
theorem dX5_bearExpected_18 : decode cX5_bearExpected 18 = .ok (.iload_n 1, 1) := by decide +kernel
theorem dX5_bearExpected_19 : decode cX5_bearExpected 19 = .ok (.if_icmp .ne 21, 3) := by decide +kernel
theorem dX5_bearExpected_22 : decode cX5_bearExpected 22 = .ok (.aload_n 0, 1) := by decide +kernel
theorem dX5_bearExpected_23 : decode cX5_bearExpected 23 = .ok (.iconst 0, 1) := by decide +kernel
theorem dX5_bearExpected_24 : decode cX5_bearExpected 24 = .ok (.aload_n 0, 1) := by decide +kernel
theorem dX5_bearExpected_25 : decode cX5_bearExpected 25 = .ok (.getfield 52, 3) := by decide +kernel
theorem dX5_bearExpected_28 : decode cX5_bearExpected 28 = .ok (.iload_n 3, 1) := by decide +kernel
theorem dX5_bearExpected_29 : decode cX5_bearExpected 29 = .ok (.iaload, 1) := by decide +kernel
theorem dX5_bearExpected_30 : decode cX5_bearExpected 30 = .ok (.iload_n 1, 1) := by decide +kernel
theorem dX5_bearExpected_31 : decode cX5_bearExpected 31 = .ok (.ldc 88, 2) := by decide +kernel
theorem dX5_bearExpected_33 : decode cX5_bearExpected 33 = .ok (.invokevirtual 122, 3) := by decide +kernel
theorem dX5_bearExpected_36 : decode cX5_bearExpected 36 = .ok (.iload_n 2, 1) := by decide +kernel
theorem dX5_bearExpected_37 : decode cX5_bearExpected 37 = .ok (.iconst 3, 1) := by decide +kernel
theorem dX5_bearExpected_38 : decode cX5_bearExpected 38 = .ok (.imul, 1) := by decide +kernel
theorem dX5_bearExpected_39 : decode cX5_bearExpected 39 = .ok (.istore_n 2, 1) := by decide +kernel
theorem dX5_bearExpected_40 : decode cX5_bearExpected 40 = .ok (.iinc 3 1, 3) := by decide +kernel
theorem dX5_bearExpected_43 : decode cX5_bearExpected 43 = .ok (.goto (-39), 3) := by decide +kernel
theorem dX5_bearExpected_46 : decode cX5_bearExpected 46 = .ok (.iload_n 2, 1) := by decide +kernel
theorem dX5_bearExpected_47 : decode cX5_bearExpected 47 = .ok (.ireturn, 1) := by decide +kernel
theorem dX5_chooseBirths_0 : decode cX5_chooseBirths 0 = .ok (.iload 4, 2) := by decide +kernel
theorem dX5_chooseBirths_2 : decode cX5_chooseBirths 2 = .ok (.istore 5, 2) := by decide +kernel
theorem dX5_chooseBirths_4 : decode cX5_chooseBirths 4 = .ok (.aload_n 1, 1) := by decide +kernel
theorem dX5_chooseBirths_5 : decode cX5_chooseBirths 5 = .ok (.getfield 18, 3) := by decide +kernel
theorem dX5_chooseBirths_8 : decode cX5_chooseBirths 8 = .ok (.istore 6, 2) := by decide +kernel
theorem dX5_chooseBirths_10 : decode cX5_chooseBirths 10 = .ok (.iconst 0, 1) := by decide +kernel
theorem dX5_chooseBirths_11 : decode cX5_chooseBirths 11 = .ok (.istore 7, 2) := by decide +kernel
theorem dX5_chooseBirths_13 : decode cX5_chooseBirths 13 = .ok (.iload 7, 2) := by decide +kernel
theorem dX5_chooseBirths_15 : decode cX5_chooseBirths 15 = .ok (.aload_n 0, 1) := by decide +kernel
theorem dX5_chooseBirths_16 : decode cX5_chooseBirths 16 = .ok (.getfield 46, 3) := by decide +kernel
theorem dX5_chooseBirths_19 : decode cX5_chooseBirths 19 = .ok (.if_icmp .ge 105, 3) := by decide +kernel
theorem dX5_chooseBirths_22 : decode cX5_chooseBirths 22 = .ok (.aload_n 0, 1) := by decide +kernel
theorem dX5_chooseBirths_23 : decode cX5_chooseBirths 23 = .ok (.getfield 49, 3) := by decide +kernel
theorem dX5_chooseBirths_26 : decode cX5_chooseBirths 26 = .ok (.iload 7, 2) := by decide +kernel
theorem dX5_chooseBirths_28 : decode cX5_chooseBirths 28 = .ok (.iaload, 1) := by decide +kernel
theorem dX5_chooseBirths_29 : decode cX5_chooseBirths 29 = .ok (.iload_n 2, 1) := by decide +kernel
theorem dX5_chooseBirths_30 : decode cX5_chooseBirths 30 = .ok (.if_icmp .ne 88, 3) := by decide +kernel
theorem dX5_chooseBirths_33 : decode cX5_chooseBirths 33 = .ok (.iload 6, 2) := by decide +kernel
theorem dX5_chooseBirths_35 : decode cX5_chooseBirths 35 = .ok (.aload_n 0, 1) := by decide +kernel
theorem dX5_chooseBirths_36 : decode cX5_chooseBirths 36 = .ok (.getfield 18, 3) := by decide +kernel
theorem dX5_chooseBirths_39 : decode cX5_chooseBirths 39 = .ok (.if_icmp .ge 79, 3) := by decide +kernel
theorem dX5_chooseBirths_42 : decode cX5_chooseBirths 42 = .ok (.aload_n 0, 1) := by decide +kernel
theorem dX5_chooseBirths_43 : decode cX5_chooseBirths 43 = .ok (.getfield 52, 3) := by decide +kernel
theorem dX5_chooseBirths_46 : decode cX5_chooseBirths 46 = .ok (.iload 7, 2) := by decide +kernel
theorem dX5_chooseBirths_48 : decode cX5_chooseBirths 48 = .ok (.iaload, 1) := by decide +kernel
theorem dX5_chooseBirths_49 : decode cX5_chooseBirths 49 = .ok (.istore 8, 2) := by decide +kernel
theorem dX5_chooseBirths_51 : decode cX5_chooseBirths 51 = .ok (.aload_n 0, 1) := by decide +kernel
theorem dX5_chooseBirths_52 : decode cX5_chooseBirths 52 = .ok (.getfield 55, 3) := by decide +kernel
theorem dX5_chooseBirths_55 : decode cX5_chooseBirths 55 = .ok (.iload 7, 2) := by decide +kernel
theorem dX5_chooseBirths_57 : decode cX5_chooseBirths 57 = .ok (.iaload, 1) := by decide +kernel
theorem dX5_chooseBirths_58 : decode cX5_chooseBirths 58 = .ok (.istore 9, 2) := by decide +kernel
theorem dX5_chooseBirths_60 : decode cX5_chooseBirths 60 = .ok (.iload 8, 2) := by decide +kernel
theorem dX5_chooseBirths_62 : decode cX5_chooseBirths 62 = .ok (.iload 9, 2) := by decide +kernel
theorem dX5_chooseBirths_64 : decode cX5_chooseBirths 64 = .ok (.iload_n 3, 1) := by decide +kernel
theorem dX5_chooseBirths_65 : decode cX5_chooseBirths 65 = .ok (.invokestatic 116, 3) := by decide +kernel
theorem dX5_chooseBirths_68 : decode cX5_chooseBirths 68 = .ok (.invokestatic 126, 3) := by decide +kernel
theorem dX5_chooseBirths_71 : decode cX5_chooseBirths 71 = .ok (.istore 10, 2) := by decide +kernel
theorem dX5_chooseBirths_73 : decode cX5_chooseBirths 73 = .ok (.iload 5, 2) := by decide +kernel
theorem dX5_chooseBirths_75 : decode cX5_chooseBirths 75 = .ok (.iconst 3, 1) := by decide +kernel
theorem dX5_chooseBirths_76 : decode cX5_chooseBirths 76 = .ok (.irem, 1) := by decide +kernel
theorem dX5_chooseBirths_77 : decode cX5_chooseBirths 77 = .ok (.istore 11, 2) := by decide +kernel
theorem dX5_chooseBirths_79 : decode cX5_chooseBirths 79 = .ok (.aload_n 0, 1) := by decide +kernel
theorem dX5_chooseBirths_80 : decode cX5_chooseBirths 80 = .ok (.getfield 25, 3) := by decide +kernel
theorem dX5_chooseBirths_83 : decode cX5_chooseBirths 83 = .ok (.iload 6, 2) := by decide +kernel
theorem dX5_chooseBirths_85 : decode cX5_chooseBirths 85 = .ok (.iload 11, 2) := by decide +kernel
theorem dX5_chooseBirths_87 : decode cX5_chooseBirths 87 = .ok (.ifCond .ne 8, 3) := by decide +kernel
theorem dX5_chooseBirths_90 : decode cX5_chooseBirths 90 = .ok (.iload 8, 2) := by decide +kernel
theorem dX5_chooseBirths_92 : decode cX5_chooseBirths 92 = .ok (.goto 16, 3) := by decide +kernel
theorem dX5_chooseBirths_95 : decode cX5_chooseBirths 95 = .ok (.iload 11, 2) := by decide +kernel
theorem dX5_chooseBirths_97 : decode cX5_chooseBirths 97 = .ok (.iconst 1, 1) := by decide +kernel
theorem dX5_chooseBirths_98 : decode cX5_chooseBirths 98 = .ok (.if_icmp .ne 8, 3) := by decide +kernel
theorem dX5_chooseBirths_101 : decode cX5_chooseBirths 101 = .ok (.iload 10, 2) := by decide +kernel
theorem dX5_chooseBirths_103 : decode cX5_chooseBirths 103 = .ok (.goto 5, 3) := by decide +kernel
theorem dX5_chooseBirths_106 : decode cX5_chooseBirths 106 = .ok (.iload 9, 2) := by decide +kernel
theorem dX5_chooseBirths_108 : decode cX5_chooseBirths 108 = .ok (.iastore, 1) := by decide +kernel
theorem dX5_chooseBirths_109 : decode cX5_chooseBirths 109 = .ok (.iload 5, 2) := by decide +kernel
theorem dX5_chooseBirths_111 : decode cX5_chooseBirths 111 = .ok (.iconst 3, 1) := by decide +kernel
theorem dX5_chooseBirths_112 : decode cX5_chooseBirths 112 = .ok (.idiv, 1) := by decide +kernel
theorem dX5_chooseBirths_113 : decode cX5_chooseBirths 113 = .ok (.istore 5, 2) := by decide +kernel
theorem dX5_chooseBirths_115 : decode cX5_chooseBirths 115 = .ok (.iinc 6 1, 3) := by decide +kernel
theorem dX5_chooseBirths_118 : decode cX5_chooseBirths 118 = .ok (.iinc 7 1, 3) := by decide +kernel
theorem dX5_chooseBirths_121 : decode cX5_chooseBirths 121 = .ok (.goto (-108), 3) := by decide +kernel
theorem dX5_chooseBirths_124 : decode cX5_chooseBirths 124 = .ok (.return_, 1) := by decide +kernel
