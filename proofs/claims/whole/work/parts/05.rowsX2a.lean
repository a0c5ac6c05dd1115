theorem dX2_init_0 : decode cX2_init 0 = .ok (.aload_n 0, 1) := by decide +kernel
theorem dX2_init_1 : decode cX2_init 1 = .ok (.invokespecial 3, 3) := by decide +kernel
theorem dX2_init_4 : decode cX2_init 4 = .ok (.aload_n 0, 1) := by decide +kernel
theorem dX2_init_5 : decode cX2_init 5 = .ok (.bipush 8, 2) := by decide +kernel
theorem dX2_init_7 : decode cX2_init 7 = .ok (.newarray .int, 2) := by decide +kernel
theorem dX2_init_9 : decode cX2_init 9 = .ok (.putfield 9, 3) := by decide +kernel
theorem dX2_init_12 : decode cX2_init 12 = .ok (.aload_n 0, 1) := by decide +kernel
theorem dX2_init_13 : decode cX2_init 13 = .ok (.bipush 8, 2) := by decide +kernel
theorem dX2_init_15 : decode cX2_init 15 = .ok (.newarray .int, 2) := by decide +kernel
theorem dX2_init_17 : decode cX2_init 17 = .ok (.putfield 15, 3) := by decide +kernel
theorem dX2_init_20 : decode cX2_init 20 = .ok (.aload_n 0, 1) := by decide +kernel
theorem dX2_init_21 : decode cX2_init 21 = .ok (.bipush 8, 2) := by decide +kernel
theorem dX2_init_23 : decode cX2_init 23 = .ok (.newarray .int, 2) := by decide +kernel
theorem dX2_init_25 : decode cX2_init 25 = .ok (.putfield 18, 3) := by decide +kernel
theorem dX2_init_28 : decode cX2_init 28 = .ok (.aload_n 0, 1) := by decide +kernel
theorem dX2_init_29 : decode cX2_init 29 = .ok (.bipush 8, 2) := by decide +kernel
theorem dX2_init_31 : decode cX2_init 31 = .ok (.newarray .int, 2) := by decide +kernel
theorem dX2_init_33 : decode cX2_init 33 = .ok (.putfield 21, 3) := by decide +kernel
theorem dX2_init_36 : decode cX2_init 36 = .ok (.return_, 1) := by decide +kernel
theorem dX2_clear_0 : decode cX2_clear 0 = .ok (.iconst 0, 1) := by decide +kernel
theorem dX2_clear_1 : decode cX2_clear 1 = .ok (.istore_n 1, 1) := by decide +kernel
theorem dX2_clear_2 : decode cX2_clear 2 = .ok (.iload_n 1, 1) := by decide +kernel
theorem dX2_clear_3 : decode cX2_clear 3 = .ok (.bipush 8, 2) := by decide +kernel
theorem dX2_clear_5 : decode cX2_clear 5 = .ok (.if_icmp .ge 23, 3) := by decide +kernel
theorem dX2_clear_8 : decode cX2_clear 8 = .ok (.aload_n 0, 1) := by decide +kernel
theorem dX2_clear_9 : decode cX2_clear 9 = .ok (.getfield 9, 3) := by decide +kernel
theorem dX2_clear_12 : decode cX2_clear 12 = .ok (.iload_n 1, 1) := by decide +kernel
theorem dX2_clear_13 : decode cX2_clear 13 = .ok (.iconst 0, 1) := by decide +kernel
theorem dX2_clear_14 : decode cX2_clear 14 = .ok (.iastore, 1) := by decide +kernel
theorem dX2_clear_15 : decode cX2_clear 15 = .ok (.aload_n 0, 1) := by decide +kernel
theorem dX2_clear_16 : decode cX2_clear 16 = .ok (.getfield 15, 3) := by decide +kernel
theorem dX2_clear_19 : decode cX2_clear 19 = .ok (.iload_n 1, 1) := by decide +kernel
theorem dX2_clear_20 : decode cX2_clear 20 = .ok (.iconst 0, 1) := by decide +kernel
theorem dX2_clear_21 : decode cX2_clear 21 = .ok (.iastore, 1) := by decide +kernel
theorem dX2_clear_22 : decode cX2_clear 22 = .ok (.iinc 1 1, 3) := by decide +kernel
theorem dX2_clear_25 : decode cX2_clear 25 = .ok (.goto (-23), 3) := by decide +kernel
theorem dX2_clear_28 : decode cX2_clear 28 = .ok (.return_, 1) := by decide +kernel
theorem dX2_copyOf_0 : decode cX2_copyOf 0 = .ok (.aload_n 1, 1) := by decide +kernel
theorem dX2_copyOf_1 : decode cX2_copyOf 1 = .ok (.getfield 9, 3) := by decide +kernel
theorem dX2_copyOf_4 : decode cX2_copyOf 4 = .ok (.iconst 0, 1) := by decide +kernel
theorem dX2_copyOf_5 : decode cX2_copyOf 5 = .ok (.aload_n 0, 1) := by decide +kernel
theorem dX2_copyOf_6 : decode cX2_copyOf 6 = .ok (.getfield 9, 3) := by decide +kernel
theorem dX2_copyOf_9 : decode cX2_copyOf 9 = .ok (.iconst 0, 1) := by decide +kernel
theorem dX2_copyOf_10 : decode cX2_copyOf 10 = .ok (.bipush 8, 2) := by decide +kernel
theorem dX2_copyOf_12 : decode cX2_copyOf 12 = .ok (.invokestatic 24, 3) := by decide +kernel
theorem dX2_copyOf_15 : decode cX2_copyOf 15 = .ok (.aload_n 1, 1) := by decide +kernel
theorem dX2_copyOf_16 : decode cX2_copyOf 16 = .ok (.getfield 15, 3) := by decide +kernel
theorem dX2_copyOf_19 : decode cX2_copyOf 19 = .ok (.iconst 0, 1) := by decide +kernel
theorem dX2_copyOf_20 : decode cX2_copyOf 20 = .ok (.aload_n 0, 1) := by decide +kernel
theorem dX2_copyOf_21 : decode cX2_copyOf 21 = .ok (.getfield 15, 3) := by decide +kernel
theorem dX2_copyOf_24 : decode cX2_copyOf 24 = .ok (.iconst 0, 1) := by decide +kernel
theorem dX2_copyOf_25 : decode cX2_copyOf 25 = .ok (.bipush 8, 2) := by decide +kernel
theorem dX2_copyOf_27 : decode cX2_copyOf 27 = .ok (.invokestatic 24, 3) := by decide +kernel
theorem dX2_copyOf_30 : decode cX2_copyOf 30 = .ok (.aload_n 1, 1) := by decide +kernel
theorem dX2_copyOf_31 : decode cX2_copyOf 31 = .ok (.getfield 18, 3) := by decide +kernel
theorem dX2_copyOf_34 : decode cX2_copyOf 34 = .ok (.iconst 0, 1) := by decide +kernel
theorem dX2_copyOf_35 : decode cX2_copyOf 35 = .ok (.aload_n 0, 1) := by decide +kernel
theorem dX2_copyOf_36 : decode cX2_copyOf 36 = .ok (.getfield 18, 3) := by decide +kernel
theorem dX2_copyOf_39 : decode cX2_copyOf 39 = .ok (.iconst 0, 1) := by decide +kernel
theorem dX2_copyOf_40 : decode cX2_copyOf 40 = .ok (.bipush 8, 2) := by decide +kernel
theorem dX2_copyOf_42 : decode cX2_copyOf 42 = .ok (.invokestatic 24, 3) := by decide +kernel
theorem dX2_copyOf_45 : decode cX2_copyOf 45 = .ok (.aload_n 1, 1) := by decide +kernel
theorem dX2_copyOf_46 : decode cX2_copyOf 46 = .ok (.getfield 21, 3) := by decide +kernel
theorem dX2_copyOf_49 : decode cX2_copyOf 49 = .ok (.iconst 0, 1) := by decide +kernel
theorem dX2_copyOf_50 : decode cX2_copyOf 50 = .ok (.aload_n 0, 1) := by decide +kernel
theorem dX2_copyOf_51 : decode cX2_copyOf 51 = .ok (.getfield 21, 3) := by decide +kernel
theorem dX2_copyOf_54 : decode cX2_copyOf 54 = .ok (.iconst 0, 1) := by decide +kernel
theorem dX2_copyOf_55 : decode cX2_copyOf 55 = .ok (.bipush 8, 2) := by decide +kernel
theorem dX2_copyOf_57 : decode cX2_copyOf 57 = .ok (.invokestatic 24, 3) := by decide +kernel
theorem dX2_copyOf_60 : decode cX2_copyOf 60 = .ok (.return_, 1) := by decide +kernel
theorem dX2_add_0 : decode cX2_add 0 = .ok (.iload_n 2, 1) := by decide +kernel
theorem dX2_add_1 : decode cX2_add 1 = .ok (.iconst 4, 1) := by decide +kernel
theorem dX2_add_2 : decode cX2_add 2 = .ok (.if_icmp .eq 13, 3) := by decide +kernel
theorem dX2_add_5 : decode cX2_add 5 = .ok (.iload_n 1, 1) := by decide +kernel
theorem dX2_add_6 : decode cX2_add 6 = .ok (.ifCond .lt 9, 3) := by decide +kernel
theorem dX2_add_9 : decode cX2_add 9 = .ok (.iload_n 1, 1) := by decide +kernel
theorem dX2_add_10 : decode cX2_add 10 = .ok (.bipush 8, 2) := by decide +kernel
theorem dX2_add_12 : decode cX2_add 12 = .ok (.if_icmp .lt 4, 3) := by decide +kernel
theorem dX2_add_15 : decode cX2_add 15 = .ok (.return_, 1) := by decide +kernel
theorem dX2_add_16 : decode cX2_add 16 = .ok (.iload_n 2, 1) := by decide +kernel
theorem dX2_add_17 : decode cX2_add 17 = .ok (.iconst 2, 1) := by decide +kernel
theorem dX2_add_18 : decode cX2_add 18 = .ok (.if_icmp .ne 13, 3) := by decide +kernel
theorem dX2_add_21 : decode cX2_add 21 = .ok (.iconst 0, 1) := by decide +kernel
theorem dX2_add_22 : decode cX2_add 22 = .ok (.iload_n 3, 1) := by decide +kernel
theorem dX2_add_23 : decode cX2_add 23 = .ok (.iconst 3, 1) := by decide +kernel
theorem dX2_add_24 : decode cX2_add 24 = .ok (.isub, 1) := by decide +kernel
theorem dX2_add_25 : decode cX2_add 25 = .ok (.invokestatic 30, 3) := by decide +kernel
theorem dX2_add_28 : decode cX2_add 28 = .ok (.goto 4, 3) := by decide +kernel
theorem dX2_add_31 : decode cX2_add 31 = .ok (.iload_n 3, 1) := by decide +kernel
theorem dX2_add_32 : decode cX2_add 32 = .ok (.istore 4, 2) := by decide +kernel
theorem dX2_add_34 : decode cX2_add 34 = .ok (.iload_n 2, 1) := by decide +kernel
theorem dX2_add_35 : decode cX2_add 35 = .ok (.iconst 3, 1) := by decide +kernel
theorem dX2_add_36 : decode cX2_add 36 = .ok (.if_icmp .ne 7, 3) := by decide +kernel
theorem dX2_add_39 : decode cX2_add 39 = .ok (.iconst 2, 1) := by decide +kernel
theorem dX2_add_40 : decode cX2_add 40 = .ok (.goto 4, 3) := by decide +kernel
theorem dX2_add_43 : decode cX2_add 43 = .ok (.iconst 1, 1) := by decide +kernel
theorem dX2_add_44 : decode cX2_add 44 = .ok (.istore 5, 2) := by decide +kernel
theorem dX2_add_46 : decode cX2_add 46 = .ok (.aload_n 0, 1) := by decide +kernel
theorem dX2_add_47 : decode cX2_add 47 = .ok (.getfield 9, 3) := by decide +kernel
theorem dX2_add_50 : decode cX2_add 50 = .ok (.iload_n 1, 1) := by decide +kernel
theorem dX2_add_51 : decode cX2_add 51 = .ok (.iaload, 1) := by decide +kernel
theorem dX2_add_52 : decode cX2_add 52 = .ok (.ifCond .ne 7, 3) := by decide +kernel
theorem dX2_add_55 : decode cX2_add 55 = .ok (.iconst 1, 1) := by decide +kernel
theorem dX2_add_56 : decode cX2_add 56 = .ok (.goto 4, 3) := by decide +kernel
theorem dX2_add_59 : decode cX2_add 59 = .ok (.iconst 0, 1) := by decide +kernel
theorem dX2_add_60 : decode cX2_add 60 = .ok (.istore 6, 2) := by decide +kernel
theorem dX2_add_62 : decode cX2_add 62 = .ok (.aload_n 0, 1) := by decide +kernel
theorem dX2_add_63 : decode cX2_add 63 = .ok (.getfield 18, 3) := by decide +kernel
theorem dX2_add_66 : decode cX2_add 66 = .ok (.iload_n 1, 1) := by decide +kernel
theorem dX2_add_67 : decode cX2_add 67 = .ok (.iload 6, 2) := by decide +kernel
theorem dX2_add_69 : decode cX2_add 69 = .ok (.ifCond .eq 8, 3) := by decide +kernel
theorem dX2_add_72 : decode cX2_add 72 = .ok (.iload 4, 2) := by decide +kernel
theorem dX2_add_74 : decode cX2_add 74 = .ok (.goto 14, 3) := by decide +kernel
theorem dX2_add_77 : decode cX2_add 77 = .ok (.aload_n 0, 1) := by decide +kernel
theorem dX2_add_78 : decode cX2_add 78 = .ok (.getfield 18, 3) := by decide +kernel
theorem dX2_add_81 : decode cX2_add 81 = .ok (.iload_n 1, 1) := by decide +kernel
theorem dX2_add_82 : decode cX2_add 82 = .ok (.iaload, 1) := by decide +kernel
theorem dX2_add_83 : decode cX2_add 83 = .ok (.iload 4, 2) := by decide +kernel
theorem dX2_add_85 : decode cX2_add 85 = .ok (.invokestatic 30, 3) := by decide +kernel
theorem dX2_add_88 : decode cX2_add 88 = .ok (.iastore, 1) := by decide +kernel
theorem dX2_add_89 : decode cX2_add 89 = .ok (.aload_n 0, 1) := by decide +kernel
theorem dX2_add_90 : decode cX2_add 90 = .ok (.getfield 21, 3) := by decide +kernel
theorem dX2_add_93 : decode cX2_add 93 = .ok (.iload_n 1, 1) := by decide +kernel
theorem dX2_add_94 : decode cX2_add 94 = .ok (.iload 6, 2) := by decide +kernel
theorem dX2_add_96 : decode cX2_add 96 = .ok (.ifCond .eq 8, 3) := by decide +kernel
theorem dX2_add_99 : decode cX2_add 99 = .ok (.iload 4, 2) := by decide +kernel
theorem dX2_add_101 : decode cX2_add 101 = .ok (.goto 14, 3) := by decide +kernel
theorem dX2_add_104 : decode cX2_add 104 = .ok (.aload_n 0, 1) := by decide +kernel
theorem dX2_add_105 : decode cX2_add 105 = .ok (.getfield 21, 3) := by decide +kernel
theorem dX2_add_108 : decode cX2_add 108 = .ok (.iload_n 1, 1) := by decide +kernel
theorem dX2_add_109 : decode cX2_add 109 = .ok (.iaload, 1) := by decide +kernel
theorem dX2_add_110 : decode cX2_add 110 = .ok (.iload 4, 2) := by decide +kernel
theorem dX2_add_112 : decode cX2_add 112 = .ok (.invokestatic 36, 3) := by decide +kernel
theorem dX2_add_115 : decode cX2_add 115 = .ok (.iastore, 1) := by decide +kernel
theorem dX2_add_116 : decode cX2_add 116 = .ok (.aload_n 0, 1) := by decide +kernel
theorem dX2_add_117 : decode cX2_add 117 = .ok (.getfield 9, 3) := by decide +kernel
theorem dX2_add_120 : decode cX2_add 120 = .ok (.iload_n 1, 1) := by decide +kernel
theorem dX2_add_121 : decode cX2_add 121 = .ok (.dup2, 1) := by decide +kernel
theorem dX2_add_122 : decode cX2_add 122 = .ok (.iaload, 1) := by decide +kernel
theorem dX2_add_123 : decode cX2_add 123 = .ok (.iload 5, 2) := by decide +kernel
theorem dX2_add_125 : decode cX2_add 125 = .ok (.iadd, 1) := by decide +kernel
theorem dX2_add_126 : decode cX2_add 126 = .ok (.iastore, 1) := by decide +kernel
theorem dX2_add_127 : decode cX2_add 127 = .ok (.aload_n 0, 1) := by decide +kernel
theorem dX2_add_128 : decode cX2_add 128 = .ok (.getfield 15, 3) := by decide +kernel
theorem dX2_add_131 : decode cX2_add 131 = .ok (.iload_n 1, 1) := by decide +kernel
theorem dX2_add_132 : decode cX2_add 132 = .ok (.dup2, 1) := by decide +kernel
theorem dX2_add_133 : decode cX2_add 133 = .ok (.iaload, 1) := by decide +kernel
theorem dX2_add_134 : decode cX2_add 134 = .ok (.iload 5, 2) := by decide +kernel
theorem dX2_add_136 : decode cX2_add 136 = .ok (.iload 4, 2) := by decide +kernel
theorem dX2_add_138 : decode cX2_add 138 = .ok (.imul, 1) := by decide +kernel
theorem dX2_add_139 : decode cX2_add 139 = .ok (.iadd, 1) := by decide +kernel
theorem dX2_add_140 : decode cX2_add 140 = .ok (.iastore, 1) := by decide +kernel
theorem dX2_add_141 : decode cX2_add 141 = .ok (.return_, 1) := by decide +kernel
theorem dX2_valueOf_0 : decode cX2_valueOf 0 = .ok (.iload_n 1, 1) := by decide +kernel
theorem dX2_valueOf_1 : decode cX2_valueOf 1 = .ok (.ifCond .lt 18, 3) := by decide +kernel
theorem dX2_valueOf_4 : decode cX2_valueOf 4 = .ok (.iload_n 1, 1) := by decide +kernel
theorem dX2_valueOf_5 : decode cX2_valueOf 5 = .ok (.bipush 8, 2) := by decide +kernel
theorem dX2_valueOf_7 : decode cX2_valueOf 7 = .ok (.if_icmp .ge 12, 3) := by decide +kernel
theorem dX2_valueOf_10 : decode cX2_valueOf 10 = .ok (.aload_n 0, 1) := by decide +kernel
theorem dX2_valueOf_11 : decode cX2_valueOf 11 = .ok (.getfield 9, 3) := by decide +kernel
theorem dX2_valueOf_14 : decode cX2_valueOf 14 = .ok (.iload_n 1, 1) := by decide +kernel
theorem dX2_valueOf_15 : decode cX2_valueOf 15 = .ok (.iaload, 1) := by decide +kernel
theorem dX2_valueOf_16 : decode cX2_valueOf 16 = .ok (.ifCond .ne 6, 3) := by decide +kernel
theorem dX2_valueOf_19 : decode cX2_valueOf 19 = .ok (.bipush (-4), 2) := by decide +kernel
theorem dX2_valueOf_21 : decode cX2_valueOf 21 = .ok (.ireturn, 1) := by decide +kernel
theorem dX2_valueOf_22 : decode cX2_valueOf 22 = .ok (.iload_n 2, 1) := by decide +kernel
theorem dX2_valueOf_23 : decode cX2_valueOf 23 = .ok (.tableswitch 46 0 2 #[25, 32, 39], 25) := by decide +kernel
theorem dX2_valueOf_48 : decode cX2_valueOf 48 = .ok (.aload_n 0, 1) := by decide +kernel
theorem dX2_valueOf_49 : decode cX2_valueOf 49 = .ok (.getfield 18, 3) := by decide +kernel
theorem dX2_valueOf_52 : decode cX2_valueOf 52 = .ok (.iload_n 1, 1) := by decide +kernel
theorem dX2_valueOf_53 : decode cX2_valueOf 53 = .ok (.iaload, 1) := by decide +kernel
theorem dX2_valueOf_54 : decode cX2_valueOf 54 = .ok (.ireturn, 1) := by decide +kernel
theorem dX2_valueOf_55 : decode cX2_valueOf 55 = .ok (.aload_n 0, 1) := by decide +kernel
theorem dX2_valueOf_56 : decode cX2_valueOf 56 = .ok (.getfield 21, 3) := by decide +kernel
theorem dX2_valueOf_59 : decode cX2_valueOf 59 = .ok (.iload_n 1, 1) := by decide +kernel
theorem dX2_valueOf_60 : decode cX2_valueOf 60 = .ok (.iaload, 1) := by decide +kernel
theorem dX2_valueOf_61 : decode cX2_valueOf 61 = .ok (.ireturn, 1) := by decide +kernel
theorem dX2_valueOf_62 : decode cX2_valueOf 62 = .ok (.aload_n 0, 1) := by decide +kernel
theorem dX2_valueOf_63 : decode cX2_valueOf 63 = .ok (.getfield 15, 3) := by decide +kernel
theorem dX2_valueOf_66 : decode cX2_valueOf 66 = .ok (.iload_n 1, 1) := by decide +kernel
theorem dX2_valueOf_67 : decode cX2_valueOf 67 = .ok (.iaload, 1) := by decide +kernel
theorem dX2_valueOf_68 : decode cX2_valueOf 68 = .ok (.ireturn, 1) := by decide +kernel
theorem dX2_valueOf_69 : decode cX2_valueOf 69 = .ok (.aload_n 0, 1) := by decide +kernel
theorem dX2_valueOf_70 : decode cX2_valueOf 70 = .ok (.getfield 15, 3) := by decide +kernel
theorem dX2_valueOf_73 : decode cX2_valueOf 73 = .ok (.iload_n 1, 1) := by decide +kernel
theorem dX2_valueOf_74 : decode cX2_valueOf 74 = .ok (.iaload, 1) := by decide +kernel
theorem dX2_valueOf_75 : decode cX2_valueOf 75 = .ok (.aload_n 0, 1) := by decide +kernel
theorem dX2_valueOf_76 : decode cX2_valueOf 76 = .ok (.getfield 9, 3) := by decide +kernel
theorem dX2_valueOf_79 : decode cX2_valueOf 79 = .ok (.iload_n 1, 1) := by decide +kernel
theorem dX2_valueOf_80 : decode cX2_valueOf 80 = .ok (.iaload, 1) := by decide +kernel
theorem dX2_valueOf_81 : decode cX2_valueOf 81 = .ok (.idiv, 1) := by decide +kernel
theorem dX2_valueOf_82 : decode cX2_valueOf 82 = .ok (.ireturn, 1) := by decide +kernel
set_option maxRecDepth 20000 in
theorem ggX2_twinBits_X2_valueOf : GoodIn wsX2_twinBits wsX2_valueOf := goodIn_r _ [5, 6, 7, 8, 9, 10, 11, 12, 13] (by decide +kernel) (by decide +kernel)
set_option maxRecDepth 20000 in
theorem gX2_twinBits_X2_valueOf : GoodIn wsX2_twinBits (wsV RX2 39 RX2 yX2_valueOf wsX2_valueOf) := goodIn_app (goodIn_of _ (by decide +kernel)) ggX2_twinBits_X2_valueOf
theorem dX2_twinBits_0 : decode cX2_twinBits 0 = .ok (.iconst 0, 1) := by decide +kernel
theorem dX2_twinBits_1 : decode cX2_twinBits 1 = .ok (.istore_n 3, 1) := by decide +kernel
theorem dX2_twinBits_2 : decode cX2_twinBits 2 = .ok (.iconst 0, 1) := by decide +kernel
theorem dX2_twinBits_3 : decode cX2_twinBits 3 = .ok (.istore 4, 2) := by decide +kernel
theorem dX2_twinBits_5 : decode cX2_twinBits 5 = .ok (.iload 4, 2) := by decide +kernel
theorem dX2_twinBits_7 : decode cX2_twinBits 7 = .ok (.iload_n 1, 1) := by decide +kernel
theorem dX2_twinBits_8 : decode cX2_twinBits 8 = .ok (.if_icmp .ge 67, 3) := by decide +kernel
theorem dX2_twinBits_11 : decode cX2_twinBits 11 = .ok (.aload_n 0, 1) := by decide +kernel
theorem dX2_twinBits_12 : decode cX2_twinBits 12 = .ok (.iload 4, 2) := by decide +kernel
theorem dX2_twinBits_14 : decode cX2_twinBits 14 = .ok (.iload_n 2, 1) := by decide +kernel
theorem dX2_twinBits_15 : decode cX2_twinBits 15 = .ok (.invokevirtual 39, 3) := by decide +kernel
theorem dX2_twinBits_18 : decode cX2_twinBits 18 = .ok (.istore 5, 2) := by decide +kernel
theorem dX2_twinBits_20 : decode cX2_twinBits 20 = .ok (.iload 4, 2) := by decide +kernel
theorem dX2_twinBits_22 : decode cX2_twinBits 22 = .ok (.iconst 1, 1) := by decide +kernel
theorem dX2_twinBits_23 : decode cX2_twinBits 23 = .ok (.iadd, 1) := by decide +kernel
theorem dX2_twinBits_24 : decode cX2_twinBits 24 = .ok (.istore 6, 2) := by decide +kernel
theorem dX2_twinBits_26 : decode cX2_twinBits 26 = .ok (.iload 6, 2) := by decide +kernel
theorem dX2_twinBits_28 : decode cX2_twinBits 28 = .ok (.iload_n 1, 1) := by decide +kernel
theorem dX2_twinBits_29 : decode cX2_twinBits 29 = .ok (.if_icmp .ge 40, 3) := by decide +kernel
theorem dX2_twinBits_32 : decode cX2_twinBits 32 = .ok (.iload 5, 2) := by decide +kernel
theorem dX2_twinBits_34 : decode cX2_twinBits 34 = .ok (.bipush (-4), 2) := by decide +kernel
theorem dX2_twinBits_36 : decode cX2_twinBits 36 = .ok (.if_icmp .eq 33, 3) := by decide +kernel
theorem dX2_twinBits_39 : decode cX2_twinBits 39 = .ok (.aload_n 0, 1) := by decide +kernel
theorem dX2_twinBits_40 : decode cX2_twinBits 40 = .ok (.iload 6, 2) := by decide +kernel
theorem dX2_twinBits_42 : decode cX2_twinBits 42 = .ok (.iload_n 2, 1) := by decide +kernel
theorem dX2_twinBits_43 : decode cX2_twinBits 43 = .ok (.invokevirtual 39, 3) := by decide +kernel
theorem dX2_twinBits_46 : decode cX2_twinBits 46 = .ok (.iload 5, 2) := by decide +kernel
theorem dX2_twinBits_48 : decode cX2_twinBits 48 = .ok (.if_icmp .ne 15, 3) := by decide +kernel
theorem dX2_twinBits_51 : decode cX2_twinBits 51 = .ok (.iload_n 3, 1) := by decide +kernel
theorem dX2_twinBits_52 : decode cX2_twinBits 52 = .ok (.iconst 1, 1) := by decide +kernel
theorem dX2_twinBits_53 : decode cX2_twinBits 53 = .ok (.iload 4, 2) := by decide +kernel
theorem dX2_twinBits_55 : decode cX2_twinBits 55 = .ok (.ishl, 1) := by decide +kernel
theorem dX2_twinBits_56 : decode cX2_twinBits 56 = .ok (.iconst 1, 1) := by decide +kernel
theorem dX2_twinBits_57 : decode cX2_twinBits 57 = .ok (.iload 6, 2) := by decide +kernel
theorem dX2_twinBits_59 : decode cX2_twinBits 59 = .ok (.ishl, 1) := by decide +kernel
theorem dX2_twinBits_60 : decode cX2_twinBits 60 = .ok (.ior, 1) := by decide +kernel
theorem dX2_twinBits_61 : decode cX2_twinBits 61 = .ok (.ior, 1) := by decide +kernel
theorem dX2_twinBits_62 : decode cX2_twinBits 62 = .ok (.istore_n 3, 1) := by decide +kernel
theorem dX2_twinBits_63 : decode cX2_twinBits 63 = .ok (.iinc 6 1, 3) := by decide +kernel
theorem dX2_twinBits_66 : decode cX2_twinBits 66 = .ok (.goto (-40), 3) := by decide +kernel
theorem dX2_twinBits_69 : decode cX2_twinBits 69 = .ok (.iinc 4 1, 3) := by decide +kernel
theorem dX2_twinBits_72 : decode cX2_twinBits 72 = .ok (.goto (-67), 3) := by decide +kernel
theorem dX2_twinBits_75 : decode cX2_twinBits 75 = .ok (.iload_n 3, 1) := by decide +kernel
theorem dX2_twinBits_76 : decode cX2_twinBits 76 = .ok (.ireturn, 1) := by decide +kernel
set_option maxRecDepth 20000 in
theorem ggX2_rankOf_X2_valueOf : GoodIn wsX2_rankOf wsX2_valueOf := goodIn_r _ [5, 6, 7, 8, 9, 10, 11, 12, 13] (by decide +kernel) (by decide +kernel)
set_option maxRecDepth 20000 in
theorem gX2_rankOf_X2_valueOf : GoodIn wsX2_rankOf (wsV RX2 39 RX2 yX2_valueOf wsX2_valueOf) := goodIn_app (goodIn_of _ (by decide +kernel)) ggX2_rankOf_X2_valueOf
theorem dX2_rankOf_0 : decode cX2_rankOf 0 = .ok (.aload_n 0, 1) := by decide +kernel
theorem dX2_rankOf_1 : decode cX2_rankOf 1 = .ok (.iload_n 1, 1) := by decide +kernel
theorem dX2_rankOf_2 : decode cX2_rankOf 2 = .ok (.iload_n 3, 1) := by decide +kernel
theorem dX2_rankOf_3 : decode cX2_rankOf 3 = .ok (.invokevirtual 39, 3) := by decide +kernel
theorem dX2_rankOf_6 : decode cX2_rankOf 6 = .ok (.istore 4, 2) := by decide +kernel
theorem dX2_rankOf_8 : decode cX2_rankOf 8 = .ok (.iconst 0, 1) := by decide +kernel
theorem dX2_rankOf_9 : decode cX2_rankOf 9 = .ok (.istore 5, 2) := by decide +kernel
theorem dX2_rankOf_11 : decode cX2_rankOf 11 = .ok (.iconst 0, 1) := by decide +kernel
theorem dX2_rankOf_12 : decode cX2_rankOf 12 = .ok (.istore 6, 2) := by decide +kernel
theorem dX2_rankOf_14 : decode cX2_rankOf 14 = .ok (.iload 6, 2) := by decide +kernel
theorem dX2_rankOf_16 : decode cX2_rankOf 16 = .ok (.iload_n 2, 1) := by decide +kernel
theorem dX2_rankOf_17 : decode cX2_rankOf 17 = .ok (.if_icmp .ge 41, 3) := by decide +kernel
theorem dX2_rankOf_20 : decode cX2_rankOf 20 = .ok (.aload_n 0, 1) := by decide +kernel
theorem dX2_rankOf_21 : decode cX2_rankOf 21 = .ok (.iload 6, 2) := by decide +kernel
theorem dX2_rankOf_23 : decode cX2_rankOf 23 = .ok (.iload_n 3, 1) := by decide +kernel
theorem dX2_rankOf_24 : decode cX2_rankOf 24 = .ok (.invokevirtual 39, 3) := by decide +kernel
theorem dX2_rankOf_27 : decode cX2_rankOf 27 = .ok (.istore 7, 2) := by decide +kernel
theorem dX2_rankOf_29 : decode cX2_rankOf 29 = .ok (.iload 7, 2) := by decide +kernel
theorem dX2_rankOf_31 : decode cX2_rankOf 31 = .ok (.iload 4, 2) := by decide +kernel
theorem dX2_rankOf_33 : decode cX2_rankOf 33 = .ok (.if_icmp .gt 16, 3) := by decide +kernel
theorem dX2_rankOf_36 : decode cX2_rankOf 36 = .ok (.iload 7, 2) := by decide +kernel
theorem dX2_rankOf_38 : decode cX2_rankOf 38 = .ok (.iload 4, 2) := by decide +kernel
theorem dX2_rankOf_40 : decode cX2_rankOf 40 = .ok (.if_icmp .ne 12, 3) := by decide +kernel
theorem dX2_rankOf_43 : decode cX2_rankOf 43 = .ok (.iload 6, 2) := by decide +kernel
theorem dX2_rankOf_45 : decode cX2_rankOf 45 = .ok (.iload_n 1, 1) := by decide +kernel
theorem dX2_rankOf_46 : decode cX2_rankOf 46 = .ok (.if_icmp .ge 6, 3) := by decide +kernel
theorem dX2_rankOf_49 : decode cX2_rankOf 49 = .ok (.iinc 5 1, 3) := by decide +kernel
theorem dX2_rankOf_52 : decode cX2_rankOf 52 = .ok (.iinc 6 1, 3) := by decide +kernel
theorem dX2_rankOf_55 : decode cX2_rankOf 55 = .ok (.goto (-41), 3) := by decide +kernel
theorem dX2_rankOf_58 : decode cX2_rankOf 58 = .ok (.iload 5, 2) := by decide +kernel
theorem dX2_rankOf_60 : decode cX2_rankOf 60 = .ok (.ireturn, 1) := by decide +kernel
set_option maxRecDepth 20000 in
theorem ggX2_greatest_X2_valueOf : GoodIn wsX2_greatest wsX2_valueOf := goodIn_r _ [5, 6, 7, 8, 9, 10, 11, 12, 13] (by decide +kernel) (by decide +kernel)
set_option maxRecDepth 20000 in
theorem gX2_greatest_X2_valueOf : GoodIn wsX2_greatest (wsV RX2 39 RX2 yX2_valueOf wsX2_valueOf) := goodIn_app (goodIn_of _ (by decide +kernel)) ggX2_greatest_X2_valueOf
theorem dX2_greatest_0 : decode cX2_greatest 0 = .ok (.bipush (-4), 2) := by decide +kernel
theorem dX2_greatest_2 : decode cX2_greatest 2 = .ok (.istore 4, 2) := by decide +kernel
theorem dX2_greatest_4 : decode cX2_greatest 4 = .ok (.bipush (-4), 2) := by decide +kernel
theorem dX2_greatest_6 : decode cX2_greatest 6 = .ok (.istore 5, 2) := by decide +kernel
theorem dX2_greatest_8 : decode cX2_greatest 8 = .ok (.iconst 0, 1) := by decide +kernel
theorem dX2_greatest_9 : decode cX2_greatest 9 = .ok (.istore 6, 2) := by decide +kernel
theorem dX2_greatest_11 : decode cX2_greatest 11 = .ok (.iload 6, 2) := by decide +kernel
theorem dX2_greatest_13 : decode cX2_greatest 13 = .ok (.iload_n 1, 1) := by decide +kernel
theorem dX2_greatest_14 : decode cX2_greatest 14 = .ok (.if_icmp .ge 42, 3) := by decide +kernel
theorem dX2_greatest_17 : decode cX2_greatest 17 = .ok (.aload_n 0, 1) := by decide +kernel
theorem dX2_greatest_18 : decode cX2_greatest 18 = .ok (.iload 6, 2) := by decide +kernel
theorem dX2_greatest_20 : decode cX2_greatest 20 = .ok (.iload_n 2, 1) := by decide +kernel
theorem dX2_greatest_21 : decode cX2_greatest 21 = .ok (.invokevirtual 39, 3) := by decide +kernel
theorem dX2_greatest_24 : decode cX2_greatest 24 = .ok (.istore 7, 2) := by decide +kernel
theorem dX2_greatest_26 : decode cX2_greatest 26 = .ok (.iload_n 3, 1) := by decide +kernel
theorem dX2_greatest_27 : decode cX2_greatest 27 = .ok (.iconst 1, 1) := by decide +kernel
theorem dX2_greatest_28 : decode cX2_greatest 28 = .ok (.iload 6, 2) := by decide +kernel
theorem dX2_greatest_30 : decode cX2_greatest 30 = .ok (.ishl, 1) := by decide +kernel
theorem dX2_greatest_31 : decode cX2_greatest 31 = .ok (.iand, 1) := by decide +kernel
theorem dX2_greatest_32 : decode cX2_greatest 32 = .ok (.ifCond .ne 18, 3) := by decide +kernel
theorem dX2_greatest_35 : decode cX2_greatest 35 = .ok (.iload 7, 2) := by decide +kernel
theorem dX2_greatest_37 : decode cX2_greatest 37 = .ok (.iload 5, 2) := by decide +kernel
theorem dX2_greatest_39 : decode cX2_greatest 39 = .ok (.if_icmp .le 11, 3) := by decide +kernel
theorem dX2_greatest_42 : decode cX2_greatest 42 = .ok (.iload 6, 2) := by decide +kernel
theorem dX2_greatest_44 : decode cX2_greatest 44 = .ok (.istore 4, 2) := by decide +kernel
theorem dX2_greatest_46 : decode cX2_greatest 46 = .ok (.iload 7, 2) := by decide +kernel
theorem dX2_greatest_48 : decode cX2_greatest 48 = .ok (.istore 5, 2) := by decide +kernel
theorem dX2_greatest_50 : decode cX2_greatest 50 = .ok (.iinc 6 1, 3) := by decide +kernel
theorem dX2_greatest_53 : decode cX2_greatest 53 = .ok (.goto (-42), 3) := by decide +kernel
theorem dX2_greatest_56 : decode cX2_greatest 56 = .ok (.iload 4, 2) := by decide +kernel
theorem dX2_greatest_58 : decode cX2_greatest 58 = .ok (.ireturn, 1) := by decide +kernel
