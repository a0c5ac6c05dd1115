set_option maxRecDepth 20000 in
theorem ggX6_init_X5_init : GoodIn wsX6_init wsX5_init := goodIn_r _ [32, 33, 2, 3, 34, 35, 36, 37, 38, 39, 40, 41, 42, 43, 44, 45, 46, 47, 48, 49, 50, 51, 52, 53, 54, 55, 56, 57, 58, 59, 60, 108, 109, 110, 111, 112, 113, 114, 115, 116, 117, 118, 119, 120, 121, 122, 123, 163, 164, 165, 166] (by decide +kernel) (by decide +kernel)
set_option maxRecDepth 20000 in
theorem gX6_init_X5_init_n11 : GoodIn wsX6_init (wsX5_init) := ggX6_init_X5_init
set_option maxRecDepth 20000 in
theorem ggX6_init_X3_init : GoodIn wsX6_init wsX3_init := goodIn_r _ [62, 63, 2, 3, 37, 64, 65, 66, 67, 68, 69, 70, 71, 72, 73, 74, 75, 135, 136, 137, 138, 139, 140, 141, 142, 143, 144, 145, 146] (by decide +kernel) (by decide +kernel)
set_option maxRecDepth 20000 in
theorem gX6_init_X3_init_n29 : GoodIn wsX6_init (wsX3_init) := ggX6_init_X3_init
set_option maxRecDepth 20000 in
theorem ggX6_init_X4_init : GoodIn wsX6_init wsX4_init := goodIn_r _ [78, 79, 2, 3, 80, 81, 82, 83, 84, 85, 37, 86, 87, 88, 147, 148, 149, 150, 151] (by decide +kernel) (by decide +kernel)
set_option maxRecDepth 20000 in
theorem gX6_init_X4_init : GoodIn wsX6_init (wsX4_init) := ggX6_init_X4_init
set_option maxRecDepth 20000 in
theorem ggX6_init_X0_init : GoodIn wsX6_init wsX0_init := goodIn_r _ [90, 91, 2, 3, 92, 37, 93, 94, 95, 96, 97, 98, 51, 52, 99, 100, 54, 55, 56, 57, 58, 59, 60, 152, 153, 154, 155, 156, 157, 158, 159, 163, 164, 165, 166] (by decide +kernel) (by decide +kernel)
set_option maxRecDepth 20000 in
theorem gX6_init_X0_init_n48 : GoodIn wsX6_init (wsX0_init) := ggX6_init_X0_init
set_option maxRecDepth 20000 in
theorem ggX6_init_X1_init : GoodIn wsX6_init wsX1_init := goodIn_r _ [102, 103, 2, 3, 104, 37, 105, 106, 107, 160, 161, 162] (by decide +kernel) (by decide +kernel)
set_option maxRecDepth 20000 in
theorem gX6_init_X1_init_n55 : GoodIn wsX6_init (wsX1_init) := ggX6_init_X1_init
theorem dX6_init_0 : decode cX6_init 0 = .ok (.aload_n 0, 1) := by decide +kernel
theorem dX6_init_1 : decode cX6_init 1 = .ok (.invokespecial 3, 3) := by decide +kernel
theorem dX6_init_4 : decode cX6_init 4 = .ok (.aload_n 0, 1) := by decide +kernel
theorem dX6_init_5 : decode cX6_init 5 = .ok (.new 9, 3) := by decide +kernel
theorem dX6_init_8 : decode cX6_init 8 = .ok (.dup, 1) := by decide +kernel
theorem dX6_init_9 : decode cX6_init 9 = .ok (.invokespecial 11, 3) := by decide +kernel
theorem dX6_init_12 : decode cX6_init 12 = .ok (.putfield 12, 3) := by decide +kernel
theorem dX6_init_15 : decode cX6_init 15 = .ok (.aload_n 0, 1) := by decide +kernel
theorem dX6_init_16 : decode cX6_init 16 = .ok (.new 9, 3) := by decide +kernel
theorem dX6_init_19 : decode cX6_init 19 = .ok (.dup, 1) := by decide +kernel
theorem dX6_init_20 : decode cX6_init 20 = .ok (.invokespecial 11, 3) := by decide +kernel
theorem dX6_init_23 : decode cX6_init 23 = .ok (.putfield 16, 3) := by decide +kernel
theorem dX6_init_26 : decode cX6_init 26 = .ok (.aload_n 0, 1) := by decide +kernel
theorem dX6_init_27 : decode cX6_init 27 = .ok (.iconst 2, 1) := by decide +kernel
theorem dX6_init_28 : decode cX6_init 28 = .ok (.anewarray 9, 3) := by decide +kernel
theorem dX6_init_31 : decode cX6_init 31 = .ok (.putfield 19, 3) := by decide +kernel
theorem dX6_init_34 : decode cX6_init 34 = .ok (.aload_n 0, 1) := by decide +kernel
theorem dX6_init_35 : decode cX6_init 35 = .ok (.iconst 2, 1) := by decide +kernel
theorem dX6_init_36 : decode cX6_init 36 = .ok (.newarray .boolean, 2) := by decide +kernel
theorem dX6_init_38 : decode cX6_init 38 = .ok (.putfield 23, 3) := by decide +kernel
theorem dX6_init_41 : decode cX6_init 41 = .ok (.aload_n 0, 1) := by decide +kernel
theorem dX6_init_42 : decode cX6_init 42 = .ok (.new 27, 3) := by decide +kernel
theorem dX6_init_45 : decode cX6_init 45 = .ok (.dup, 1) := by decide +kernel
theorem dX6_init_46 : decode cX6_init 46 = .ok (.invokespecial 29, 3) := by decide +kernel
theorem dX6_init_49 : decode cX6_init 49 = .ok (.putfield 30, 3) := by decide +kernel
theorem dX6_init_52 : decode cX6_init 52 = .ok (.aload_n 0, 1) := by decide +kernel
theorem dX6_init_53 : decode cX6_init 53 = .ok (.new 34, 3) := by decide +kernel
theorem dX6_init_56 : decode cX6_init 56 = .ok (.dup, 1) := by decide +kernel
theorem dX6_init_57 : decode cX6_init 57 = .ok (.iconst 4, 1) := by decide +kernel
theorem dX6_init_58 : decode cX6_init 58 = .ok (.invokespecial 36, 3) := by decide +kernel
theorem dX6_init_61 : decode cX6_init 61 = .ok (.putfield 39, 3) := by decide +kernel
theorem dX6_init_64 : decode cX6_init 64 = .ok (.aload_n 0, 1) := by decide +kernel
theorem dX6_init_65 : decode cX6_init 65 = .ok (.new 34, 3) := by decide +kernel
theorem dX6_init_68 : decode cX6_init 68 = .ok (.dup, 1) := by decide +kernel
theorem dX6_init_69 : decode cX6_init 69 = .ok (.bipush 8, 2) := by decide +kernel
theorem dX6_init_71 : decode cX6_init 71 = .ok (.invokespecial 36, 3) := by decide +kernel
theorem dX6_init_74 : decode cX6_init 74 = .ok (.putfield 43, 3) := by decide +kernel
theorem dX6_init_77 : decode cX6_init 77 = .ok (.aload_n 0, 1) := by decide +kernel
theorem dX6_init_78 : decode cX6_init 78 = .ok (.new 46, 3) := by decide +kernel
theorem dX6_init_81 : decode cX6_init 81 = .ok (.dup, 1) := by decide +kernel
theorem dX6_init_82 : decode cX6_init 82 = .ok (.invokespecial 48, 3) := by decide +kernel
theorem dX6_init_85 : decode cX6_init 85 = .ok (.putfield 49, 3) := by decide +kernel
theorem dX6_init_88 : decode cX6_init 88 = .ok (.aload_n 0, 1) := by decide +kernel
theorem dX6_init_89 : decode cX6_init 89 = .ok (.new 53, 3) := by decide +kernel
theorem dX6_init_92 : decode cX6_init 92 = .ok (.dup, 1) := by decide +kernel
theorem dX6_init_93 : decode cX6_init 93 = .ok (.invokespecial 55, 3) := by decide +kernel
theorem dX6_init_96 : decode cX6_init 96 = .ok (.putfield 56, 3) := by decide +kernel
theorem dX6_init_99 : decode cX6_init 99 = .ok (.aload_n 0, 1) := by decide +kernel
theorem dX6_init_100 : decode cX6_init 100 = .ok (.iconst 0, 1) := by decide +kernel
theorem dX6_init_101 : decode cX6_init 101 = .ok (.putfield 60, 3) := by decide +kernel
theorem dX6_init_104 : decode cX6_init 104 = .ok (.aload_n 0, 1) := by decide +kernel
theorem dX6_init_105 : decode cX6_init 105 = .ok (.iconst 0, 1) := by decide +kernel
theorem dX6_init_106 : decode cX6_init 106 = .ok (.putfield 64, 3) := by decide +kernel
theorem dX6_init_109 : decode cX6_init 109 = .ok (.iconst 0, 1) := by decide +kernel
theorem dX6_init_110 : decode cX6_init 110 = .ok (.istore_n 1, 1) := by decide +kernel
theorem dX6_init_111 : decode cX6_init 111 = .ok (.iload_n 1, 1) := by decide +kernel
theorem dX6_init_112 : decode cX6_init 112 = .ok (.iconst 2, 1) := by decide +kernel
theorem dX6_init_113 : decode cX6_init 113 = .ok (.if_icmp .ge 22, 3) := by decide +kernel
theorem dX6_init_116 : decode cX6_init 116 = .ok (.aload_n 0, 1) := by decide +kernel
theorem dX6_init_117 : decode cX6_init 117 = .ok (.getfield 19, 3) := by decide +kernel
theorem dX6_init_120 : decode cX6_init 120 = .ok (.iload_n 1, 1) := by decide +kernel
theorem dX6_init_121 : decode cX6_init 121 = .ok (.new 9, 3) := by decide +kernel
theorem dX6_init_124 : decode cX6_init 124 = .ok (.dup, 1) := by decide +kernel
theorem dX6_init_125 : decode cX6_init 125 = .ok (.invokespecial 11, 3) := by decide +kernel
theorem dX6_init_128 : decode cX6_init 128 = .ok (.aastore, 1) := by decide +kernel
theorem dX6_init_129 : decode cX6_init 129 = .ok (.iinc 1 1, 3) := by decide +kernel
theorem dX6_init_132 : decode cX6_init 132 = .ok (.goto (-21), 3) := by decide +kernel
theorem dX6_init_135 : decode cX6_init 135 = .ok (.return_, 1) := by decide +kernel
set_option maxRecDepth 20000 in
theorem ggX6_feed_X3_append : GoodIn wsX6_feed wsX3_append := goodIn_r _ [7, 8, 9, 21, 22, 23, 24, 25, 26, 27, 28, 29, 30, 31, 32] (by decide +kernel) (by decide +kernel)
set_option maxRecDepth 20000 in
theorem gX6_feed_X3_append : GoodIn wsX6_feed (wsV RX6 67 RX3 yX3_append wsX3_append) := goodIn_app (goodIn_of _ (by decide +kernel)) ggX6_feed_X3_append
theorem dX6_feed_0 : decode cX6_feed 0 = .ok (.aload_n 0, 1) := by decide +kernel
theorem dX6_feed_1 : decode cX6_feed 1 = .ok (.getfield 30, 3) := by decide +kernel
theorem dX6_feed_4 : decode cX6_feed 4 = .ok (.lload_n 1, 1) := by decide +kernel
theorem dX6_feed_5 : decode cX6_feed 5 = .ok (.invokevirtual 67, 3) := by decide +kernel
theorem dX6_feed_8 : decode cX6_feed 8 = .ok (.ifCond .eq 13, 3) := by decide +kernel
theorem dX6_feed_11 : decode cX6_feed 11 = .ok (.aload_n 0, 1) := by decide +kernel
theorem dX6_feed_12 : decode cX6_feed 12 = .ok (.getfield 30, 3) := by decide +kernel
theorem dX6_feed_15 : decode cX6_feed 15 = .ok (.getfield 71, 3) := by decide +kernel
theorem dX6_feed_18 : decode cX6_feed 18 = .ok (.goto 5, 3) := by decide +kernel
theorem dX6_feed_21 : decode cX6_feed 21 = .ok (.bipush (-3), 2) := by decide +kernel
theorem dX6_feed_23 : decode cX6_feed 23 = .ok (.ireturn, 1) := by decide +kernel
theorem dX6_end_0 : decode cX6_end 0 = .ok (.iload_n 1, 1) := by decide +kernel
theorem dX6_end_1 : decode cX6_end 1 = .ok (.ifCond .lt 14, 3) := by decide +kernel
theorem dX6_end_4 : decode cX6_end 4 = .ok (.iload_n 1, 1) := by decide +kernel
theorem dX6_end_5 : decode cX6_end 5 = .ok (.aload_n 0, 1) := by decide +kernel
theorem dX6_end_6 : decode cX6_end 6 = .ok (.getfield 30, 3) := by decide +kernel
theorem dX6_end_9 : decode cX6_end 9 = .ok (.getfield 71, 3) := by decide +kernel
theorem dX6_end_12 : decode cX6_end 12 = .ok (.if_icmp .le 5, 3) := by decide +kernel
theorem dX6_end_15 : decode cX6_end 15 = .ok (.iconst (-1), 1) := by decide +kernel
theorem dX6_end_16 : decode cX6_end 16 = .ok (.ireturn, 1) := by decide +kernel
theorem dX6_end_17 : decode cX6_end 17 = .ok (.aload_n 0, 1) := by decide +kernel
theorem dX6_end_18 : decode cX6_end 18 = .ok (.getfield 30, 3) := by decide +kernel
theorem dX6_end_21 : decode cX6_end 21 = .ok (.getfield 71, 3) := by decide +kernel
theorem dX6_end_24 : decode cX6_end 24 = .ok (.istore_n 2, 1) := by decide +kernel
theorem dX6_end_25 : decode cX6_end 25 = .ok (.aload_n 0, 1) := by decide +kernel
theorem dX6_end_26 : decode cX6_end 26 = .ok (.getfield 30, 3) := by decide +kernel
theorem dX6_end_29 : decode cX6_end 29 = .ok (.iload_n 1, 1) := by decide +kernel
theorem dX6_end_30 : decode cX6_end 30 = .ok (.putfield 71, 3) := by decide +kernel
theorem dX6_end_33 : decode cX6_end 33 = .ok (.iload_n 2, 1) := by decide +kernel
theorem dX6_end_34 : decode cX6_end 34 = .ok (.ireturn, 1) := by decide +kernel
set_option maxRecDepth 20000 in
theorem ggX6_street_X3_tell : GoodIn wsX6_street wsX3_tell := goodIn_r _ [17, 18, 19, 20, 21, 22, 23, 24, 25, 26, 27, 28, 29, 30, 31, 32, 33, 34, 35, 36, 37, 38, 16, 39, 40, 41, 42, 43, 44, 45, 46, 47, 48, 49, 50, 51, 52, 53, 54, 55, 56, 57, 58, 59, 60, 61, 62, 63, 64, 65, 66, 67, 68, 69, 70, 71, 72, 73, 74, 75, 76, 77, 78, 79, 80, 81, 82, 83, 84, 85, 86, 87, 88, 89, 90, 91, 92, 93, 94, 95, 96, 97, 98, 99, 100, 101, 102, 103, 104, 105, 106, 107, 108, 109, 110, 111, 112, 113, 114, 115, 116, 117, 118, 119, 120, 121, 122, 123, 124, 125, 126, 127, 128, 129, 130, 131, 132, 133, 134, 135, 136, 137, 138, 139, 140, 141, 142, 143, 144, 145, 146, 147, 148, 149, 150, 151, 152, 153, 154, 155, 156, 157, 158, 159, 160, 161, 162, 163, 164, 165, 166, 167, 168, 169, 170, 171, 172, 173, 174, 175, 176, 177, 178, 179, 180, 181, 182, 183, 184, 185, 186, 187, 188, 189, 190, 191, 192, 193, 194, 195, 196, 197, 198, 199, 219, 220, 221, 222, 223, 224, 225, 226, 227, 228, 229, 230, 236, 237, 238, 239, 240, 241, 242, 243, 244, 245, 246, 247, 248, 249, 250, 251] (by decide +kernel) (by decide +kernel)
set_option maxRecDepth 20000 in
theorem gX6_street_X3_tell : GoodIn wsX6_street (wsV RX6 74 RX3 yX3_tell wsX3_tell) := goodIn_app (goodIn_of _ (by decide +kernel)) ggX6_street_X3_tell
set_option maxRecDepth 20000 in
theorem ggX6_street_X5_copyOf : GoodIn wsX6_street wsX5_copyOf := goodIn_r _ [203, 31, 32, 33, 34, 35, 170, 204, 205, 206, 207, 171, 172, 173, 182, 187, 188, 197, 198, 199, 236, 237, 238, 239, 240, 241, 242, 243, 244, 245, 246, 247, 248, 249, 250, 251] (by decide +kernel) (by decide +kernel)
set_option maxRecDepth 20000 in
theorem gX6_street_X5_copyOf : GoodIn wsX6_street (wsV RX6 84 RX5 yX5_copyOf wsX5_copyOf) := goodIn_app (goodIn_of _ (by decide +kernel)) ggX6_street_X5_copyOf
theorem dX6_street_0 : decode cX6_street 0 = .ok (.aload_n 0, 1) := by decide +kernel
theorem dX6_street_1 : decode cX6_street 1 = .ok (.getfield 30, 3) := by decide +kernel
theorem dX6_street_4 : decode cX6_street 4 = .ok (.aload_n 0, 1) := by decide +kernel
theorem dX6_street_5 : decode cX6_street 5 = .ok (.getfield 16, 3) := by decide +kernel
theorem dX6_street_8 : decode cX6_street 8 = .ok (.invokevirtual 74, 3) := by decide +kernel
theorem dX6_street_11 : decode cX6_street 11 = .ok (.istore_n 1, 1) := by decide +kernel
theorem dX6_street_12 : decode cX6_street 12 = .ok (.aload_n 0, 1) := by decide +kernel
theorem dX6_street_13 : decode cX6_street 13 = .ok (.getfield 30, 3) := by decide +kernel
theorem dX6_street_16 : decode cX6_street 16 = .ok (.iconst 0, 1) := by decide +kernel
theorem dX6_street_17 : decode cX6_street 17 = .ok (.putfield 71, 3) := by decide +kernel
theorem dX6_street_20 : decode cX6_street 20 = .ok (.aload_n 0, 1) := by decide +kernel
theorem dX6_street_21 : decode cX6_street 21 = .ok (.aload_n 0, 1) := by decide +kernel
theorem dX6_street_22 : decode cX6_street 22 = .ok (.getfield 30, 3) := by decide +kernel
theorem dX6_street_25 : decode cX6_street 25 = .ok (.getfield 78, 3) := by decide +kernel
theorem dX6_street_28 : decode cX6_street 28 = .ok (.putfield 60, 3) := by decide +kernel
theorem dX6_street_31 : decode cX6_street 31 = .ok (.iload_n 1, 1) := by decide +kernel
theorem dX6_street_32 : decode cX6_street 32 = .ok (.ifCond .ne 14, 3) := by decide +kernel
theorem dX6_street_35 : decode cX6_street 35 = .ok (.bipush (-10), 2) := by decide +kernel
theorem dX6_street_37 : decode cX6_street 37 = .ok (.aload_n 0, 1) := by decide +kernel
theorem dX6_street_38 : decode cX6_street 38 = .ok (.getfield 30, 3) := by decide +kernel
theorem dX6_street_41 : decode cX6_street 41 = .ok (.getfield 81, 3) := by decide +kernel
theorem dX6_street_44 : decode cX6_street 44 = .ok (.isub, 1) := by decide +kernel
theorem dX6_street_45 : decode cX6_street 45 = .ok (.ireturn, 1) := by decide +kernel
theorem dX6_street_46 : decode cX6_street 46 = .ok (.aload_n 0, 1) := by decide +kernel
theorem dX6_street_47 : decode cX6_street 47 = .ok (.getfield 12, 3) := by decide +kernel
theorem dX6_street_50 : decode cX6_street 50 = .ok (.aload_n 0, 1) := by decide +kernel
theorem dX6_street_51 : decode cX6_street 51 = .ok (.getfield 16, 3) := by decide +kernel
theorem dX6_street_54 : decode cX6_street 54 = .ok (.invokevirtual 84, 3) := by decide +kernel
theorem dX6_street_57 : decode cX6_street 57 = .ok (.aload_n 0, 1) := by decide +kernel
theorem dX6_street_58 : decode cX6_street 58 = .ok (.getfield 39, 3) := by decide +kernel
theorem dX6_street_61 : decode cX6_street 61 = .ok (.iconst 0, 1) := by decide +kernel
theorem dX6_street_62 : decode cX6_street 62 = .ok (.putfield 88, 3) := by decide +kernel
theorem dX6_street_65 : decode cX6_street 65 = .ok (.aload_n 0, 1) := by decide +kernel
theorem dX6_street_66 : decode cX6_street 66 = .ok (.getfield 43, 3) := by decide +kernel
theorem dX6_street_69 : decode cX6_street 69 = .ok (.iconst 0, 1) := by decide +kernel
theorem dX6_street_70 : decode cX6_street 70 = .ok (.putfield 88, 3) := by decide +kernel
theorem dX6_street_73 : decode cX6_street 73 = .ok (.iconst 0, 1) := by decide +kernel
theorem dX6_street_74 : decode cX6_street 74 = .ok (.istore_n 2, 1) := by decide +kernel
theorem dX6_street_75 : decode cX6_street 75 = .ok (.iload_n 2, 1) := by decide +kernel
theorem dX6_street_76 : decode cX6_street 76 = .ok (.iconst 2, 1) := by decide +kernel
theorem dX6_street_77 : decode cX6_street 77 = .ok (.if_icmp .ge 16, 3) := by decide +kernel
theorem dX6_street_80 : decode cX6_street 80 = .ok (.aload_n 0, 1) := by decide +kernel
theorem dX6_street_81 : decode cX6_street 81 = .ok (.getfield 23, 3) := by decide +kernel
theorem dX6_street_84 : decode cX6_street 84 = .ok (.iload_n 2, 1) := by decide +kernel
theorem dX6_street_85 : decode cX6_street 85 = .ok (.iconst 0, 1) := by decide +kernel
theorem dX6_street_86 : decode cX6_street 86 = .ok (.bastore, 1) := by decide +kernel
theorem dX6_street_87 : decode cX6_street 87 = .ok (.iinc 2 1, 3) := by decide +kernel
theorem dX6_street_90 : decode cX6_street 90 = .ok (.goto (-15), 3) := by decide +kernel
theorem dX6_street_93 : decode cX6_street 93 = .ok (.aload_n 0, 1) := by decide +kernel
theorem dX6_street_94 : decode cX6_street 94 = .ok (.getfield 30, 3) := by decide +kernel
theorem dX6_street_97 : decode cX6_street 97 = .ok (.getfield 91, 3) := by decide +kernel
theorem dX6_street_100 : decode cX6_street 100 = .ok (.ireturn, 1) := by decide +kernel
theorem dX6_fault_0 : decode cX6_fault 0 = .ok (.aload_n 0, 1) := by decide +kernel
theorem dX6_fault_1 : decode cX6_fault 1 = .ok (.getfield 60, 3) := by decide +kernel
theorem dX6_fault_4 : decode cX6_fault 4 = .ok (.ireturn, 1) := by decide +kernel
theorem dX6_rule_0 : decode cX6_rule 0 = .ok (.iload_n 1, 1) := by decide +kernel
theorem dX6_rule_1 : decode cX6_rule 1 = .ok (.tableswitch 75 0 4 #[35, 43, 51, 59, 67], 35) := by decide +kernel
theorem dX6_rule_36 : decode cX6_rule 36 = .ok (.aload_n 0, 1) := by decide +kernel
theorem dX6_rule_37 : decode cX6_rule 37 = .ok (.getfield 12, 3) := by decide +kernel
theorem dX6_rule_40 : decode cX6_rule 40 = .ok (.getfield 94, 3) := by decide +kernel
theorem dX6_rule_43 : decode cX6_rule 43 = .ok (.ireturn, 1) := by decide +kernel
theorem dX6_rule_44 : decode cX6_rule 44 = .ok (.aload_n 0, 1) := by decide +kernel
theorem dX6_rule_45 : decode cX6_rule 45 = .ok (.getfield 12, 3) := by decide +kernel
theorem dX6_rule_48 : decode cX6_rule 48 = .ok (.getfield 97, 3) := by decide +kernel
theorem dX6_rule_51 : decode cX6_rule 51 = .ok (.ireturn, 1) := by decide +kernel
theorem dX6_rule_52 : decode cX6_rule 52 = .ok (.aload_n 0, 1) := by decide +kernel
theorem dX6_rule_53 : decode cX6_rule 53 = .ok (.getfield 12, 3) := by decide +kernel
theorem dX6_rule_56 : decode cX6_rule 56 = .ok (.getfield 100, 3) := by decide +kernel
theorem dX6_rule_59 : decode cX6_rule 59 = .ok (.ireturn, 1) := by decide +kernel
theorem dX6_rule_60 : decode cX6_rule 60 = .ok (.aload_n 0, 1) := by decide +kernel
theorem dX6_rule_61 : decode cX6_rule 61 = .ok (.getfield 12, 3) := by decide +kernel
theorem dX6_rule_64 : decode cX6_rule 64 = .ok (.getfield 103, 3) := by decide +kernel
theorem dX6_rule_67 : decode cX6_rule 67 = .ok (.ireturn, 1) := by decide +kernel
theorem dX6_rule_68 : decode cX6_rule 68 = .ok (.aload_n 0, 1) := by decide +kernel
theorem dX6_rule_69 : decode cX6_rule 69 = .ok (.getfield 12, 3) := by decide +kernel
theorem dX6_rule_72 : decode cX6_rule 72 = .ok (.getfield 106, 3) := by decide +kernel
theorem dX6_rule_75 : decode cX6_rule 75 = .ok (.ireturn, 1) := by decide +kernel
theorem dX6_rule_76 : decode cX6_rule 76 = .ok (.iconst (-1), 1) := by decide +kernel
theorem dX6_rule_77 : decode cX6_rule 77 = .ok (.ireturn, 1) := by decide +kernel
set_option maxRecDepth 20000 in
theorem ggX6_one_X5_isOne : GoodIn wsX6_one wsX5_isOne := goodIn_r _ [9, 10, 28, 29, 30, 31, 32, 33, 34, 35, 36, 37, 38, 39, 40, 41, 42, 43] (by decide +kernel) (by decide +kernel)
set_option maxRecDepth 20000 in
theorem gX6_one_X5_isOne : GoodIn wsX6_one (wsV RX6 109 RX5 yX5_isOne wsX5_isOne) := goodIn_app (goodIn_of _ (by decide +kernel)) ggX6_one_X5_isOne
set_option maxRecDepth 20000 in
theorem ggX6_one_X5_deathOf : GoodIn wsX6_one wsX5_deathOf := goodIn_r _ [14, 15, 16, 28, 29, 30, 31, 32, 33, 34, 35, 36, 37, 38, 39, 40, 41, 42, 43] (by decide +kernel) (by decide +kernel)
set_option maxRecDepth 20000 in
theorem gX6_one_X5_deathOf : GoodIn wsX6_one (wsV RX6 123 RX5 yX5_deathOf wsX5_deathOf) := goodIn_app (goodIn_of _ (by decide +kernel)) ggX6_one_X5_deathOf
theorem dX6_one_0 : decode cX6_one 0 = .ok (.aload_n 0, 1) := by decide +kernel
theorem dX6_one_1 : decode cX6_one 1 = .ok (.getfield 12, 3) := by decide +kernel
theorem dX6_one_4 : decode cX6_one 4 = .ok (.iload_n 1, 1) := by decide +kernel
theorem dX6_one_5 : decode cX6_one 5 = .ok (.invokevirtual 109, 3) := by decide +kernel
theorem dX6_one_8 : decode cX6_one 8 = .ok (.ifCond .ne 5, 3) := by decide +kernel
theorem dX6_one_11 : decode cX6_one 11 = .ok (.iconst (-1), 1) := by decide +kernel
theorem dX6_one_12 : decode cX6_one 12 = .ok (.ireturn, 1) := by decide +kernel
theorem dX6_one_13 : decode cX6_one 13 = .ok (.iload_n 2, 1) := by decide +kernel
theorem dX6_one_14 : decode cX6_one 14 = .ok (.tableswitch 69 0 3 #[30, 40, 50, 60], 30) := by decide +kernel
theorem dX6_one_44 : decode cX6_one 44 = .ok (.aload_n 0, 1) := by decide +kernel
theorem dX6_one_45 : decode cX6_one 45 = .ok (.getfield 12, 3) := by decide +kernel
theorem dX6_one_48 : decode cX6_one 48 = .ok (.getfield 113, 3) := by decide +kernel
theorem dX6_one_51 : decode cX6_one 51 = .ok (.iload_n 1, 1) := by decide +kernel
theorem dX6_one_52 : decode cX6_one 52 = .ok (.iaload, 1) := by decide +kernel
theorem dX6_one_53 : decode cX6_one 53 = .ok (.ireturn, 1) := by decide +kernel
theorem dX6_one_54 : decode cX6_one 54 = .ok (.aload_n 0, 1) := by decide +kernel
theorem dX6_one_55 : decode cX6_one 55 = .ok (.getfield 12, 3) := by decide +kernel
theorem dX6_one_58 : decode cX6_one 58 = .ok (.getfield 117, 3) := by decide +kernel
theorem dX6_one_61 : decode cX6_one 61 = .ok (.iload_n 1, 1) := by decide +kernel
theorem dX6_one_62 : decode cX6_one 62 = .ok (.iaload, 1) := by decide +kernel
theorem dX6_one_63 : decode cX6_one 63 = .ok (.ireturn, 1) := by decide +kernel
theorem dX6_one_64 : decode cX6_one 64 = .ok (.aload_n 0, 1) := by decide +kernel
theorem dX6_one_65 : decode cX6_one 65 = .ok (.getfield 12, 3) := by decide +kernel
theorem dX6_one_68 : decode cX6_one 68 = .ok (.getfield 120, 3) := by decide +kernel
theorem dX6_one_71 : decode cX6_one 71 = .ok (.iload_n 1, 1) := by decide +kernel
theorem dX6_one_72 : decode cX6_one 72 = .ok (.iaload, 1) := by decide +kernel
theorem dX6_one_73 : decode cX6_one 73 = .ok (.ireturn, 1) := by decide +kernel
theorem dX6_one_74 : decode cX6_one 74 = .ok (.aload_n 0, 1) := by decide +kernel
theorem dX6_one_75 : decode cX6_one 75 = .ok (.getfield 12, 3) := by decide +kernel
theorem dX6_one_78 : decode cX6_one 78 = .ok (.iload_n 1, 1) := by decide +kernel
theorem dX6_one_79 : decode cX6_one 79 = .ok (.invokevirtual 123, 3) := by decide +kernel
theorem dX6_one_82 : decode cX6_one 82 = .ok (.ireturn, 1) := by decide +kernel
theorem dX6_one_83 : decode cX6_one 83 = .ok (.iconst (-1), 1) := by decide +kernel
theorem dX6_one_84 : decode cX6_one 84 = .ok (.ireturn, 1) := by decide +kernel
theorem dX6_moved_0 : decode cX6_moved 0 = .ok (.iload_n 1, 1) := by decide +kernel
theorem dX6_moved_1 : decode cX6_moved 1 = .ok (.ifCond .lt 14, 3) := by decide +kernel
theorem dX6_moved_4 : decode cX6_moved 4 = .ok (.iload_n 1, 1) := by decide +kernel
theorem dX6_moved_5 : decode cX6_moved 5 = .ok (.aload_n 0, 1) := by decide +kernel
theorem dX6_moved_6 : decode cX6_moved 6 = .ok (.getfield 12, 3) := by decide +kernel
theorem dX6_moved_9 : decode cX6_moved 9 = .ok (.getfield 103, 3) := by decide +kernel
theorem dX6_moved_12 : decode cX6_moved 12 = .ok (.if_icmp .lt 5, 3) := by decide +kernel
theorem dX6_moved_15 : decode cX6_moved 15 = .ok (.iconst (-1), 1) := by decide +kernel
theorem dX6_moved_16 : decode cX6_moved 16 = .ok (.ireturn, 1) := by decide +kernel
theorem dX6_moved_17 : decode cX6_moved 17 = .ok (.iload_n 2, 1) := by decide +kernel
theorem dX6_moved_18 : decode cX6_moved 18 = .ok (.tableswitch 56 0 2 #[26, 36, 46], 26) := by decide +kernel
theorem dX6_moved_44 : decode cX6_moved 44 = .ok (.aload_n 0, 1) := by decide +kernel
theorem dX6_moved_45 : decode cX6_moved 45 = .ok (.getfield 12, 3) := by decide +kernel
theorem dX6_moved_48 : decode cX6_moved 48 = .ok (.getfield 127, 3) := by decide +kernel
theorem dX6_moved_51 : decode cX6_moved 51 = .ok (.iload_n 1, 1) := by decide +kernel
theorem dX6_moved_52 : decode cX6_moved 52 = .ok (.iaload, 1) := by decide +kernel
theorem dX6_moved_53 : decode cX6_moved 53 = .ok (.ireturn, 1) := by decide +kernel
theorem dX6_moved_54 : decode cX6_moved 54 = .ok (.aload_n 0, 1) := by decide +kernel
theorem dX6_moved_55 : decode cX6_moved 55 = .ok (.getfield 12, 3) := by decide +kernel
theorem dX6_moved_58 : decode cX6_moved 58 = .ok (.getfield 130, 3) := by decide +kernel
theorem dX6_moved_61 : decode cX6_moved 61 = .ok (.iload_n 1, 1) := by decide +kernel
theorem dX6_moved_62 : decode cX6_moved 62 = .ok (.iaload, 1) := by decide +kernel
theorem dX6_moved_63 : decode cX6_moved 63 = .ok (.ireturn, 1) := by decide +kernel
theorem dX6_moved_64 : decode cX6_moved 64 = .ok (.aload_n 0, 1) := by decide +kernel
theorem dX6_moved_65 : decode cX6_moved 65 = .ok (.getfield 12, 3) := by decide +kernel
theorem dX6_moved_68 : decode cX6_moved 68 = .ok (.getfield 133, 3) := by decide +kernel
theorem dX6_moved_71 : decode cX6_moved 71 = .ok (.iload_n 1, 1) := by decide +kernel
theorem dX6_moved_72 : decode cX6_moved 72 = .ok (.iaload, 1) := by decide +kernel
theorem dX6_moved_73 : decode cX6_moved 73 = .ok (.ireturn, 1) := by decide +kernel
theorem dX6_moved_74 : decode cX6_moved 74 = .ok (.iconst (-1), 1) := by decide +kernel
theorem dX6_moved_75 : decode cX6_moved 75 = .ok (.ireturn, 1) := by decide +kernel
theorem dX6_expected_0 : decode cX6_expected 0 = .ok (.iload_n 1, 1) := by decide +kernel
theorem dX6_expected_1 : decode cX6_expected 1 = .ok (.ifCond .lt 14, 3) := by decide +kernel
theorem dX6_expected_4 : decode cX6_expected 4 = .ok (.iload_n 1, 1) := by decide +kernel
theorem dX6_expected_5 : decode cX6_expected 5 = .ok (.aload_n 0, 1) := by decide +kernel
theorem dX6_expected_6 : decode cX6_expected 6 = .ok (.getfield 12, 3) := by decide +kernel
theorem dX6_expected_9 : decode cX6_expected 9 = .ok (.getfield 106, 3) := by decide +kernel
theorem dX6_expected_12 : decode cX6_expected 12 = .ok (.if_icmp .lt 5, 3) := by decide +kernel
theorem dX6_expected_15 : decode cX6_expected 15 = .ok (.iconst (-1), 1) := by decide +kernel
theorem dX6_expected_16 : decode cX6_expected 16 = .ok (.ireturn, 1) := by decide +kernel
theorem dX6_expected_17 : decode cX6_expected 17 = .ok (.iload_n 2, 1) := by decide +kernel
theorem dX6_expected_18 : decode cX6_expected 18 = .ok (.tableswitch 56 0 2 #[26, 36, 46], 26) := by decide +kernel
theorem dX6_expected_44 : decode cX6_expected 44 = .ok (.aload_n 0, 1) := by decide +kernel
theorem dX6_expected_45 : decode cX6_expected 45 = .ok (.getfield 12, 3) := by decide +kernel
theorem dX6_expected_48 : decode cX6_expected 48 = .ok (.getfield 136, 3) := by decide +kernel
theorem dX6_expected_51 : decode cX6_expected 51 = .ok (.iload_n 1, 1) := by decide +kernel
theorem dX6_expected_52 : decode cX6_expected 52 = .ok (.iaload, 1) := by decide +kernel
theorem dX6_expected_53 : decode cX6_expected 53 = .ok (.ireturn, 1) := by decide +kernel
theorem dX6_expected_54 : decode cX6_expected 54 = .ok (.aload_n 0, 1) := by decide +kernel
theorem dX6_expected_55 : decode cX6_expected 55 = .ok (.getfield 12, 3) := by decide +kernel
theorem dX6_expected_58 : decode cX6_expected 58 = .ok (.getfield 139, 3) := by decide +kernel
theorem dX6_expected_61 : decode cX6_expected 61 = .ok (.iload_n 1, 1) := by decide +kernel
theorem dX6_expected_62 : decode cX6_expected 62 = .ok (.iaload, 1) := by decide +kernel
theorem dX6_expected_63 : decode cX6_expected 63 = .ok (.ireturn, 1) := by decide +kernel
theorem dX6_expected_64 : decode cX6_expected 64 = .ok (.aload_n 0, 1) := by decide +kernel
theorem dX6_expected_65 : decode cX6_expected 65 = .ok (.getfield 12, 3) := by decide +kernel
theorem dX6_expected_68 : decode cX6_expected 68 = .ok (.getfield 142, 3) := by decide +kernel
theorem dX6_expected_71 : decode cX6_expected 71 = .ok (.iload_n 1, 1) := by decide +kernel
theorem dX6_expected_72 : decode cX6_expected 72 = .ok (.iaload, 1) := by decide +kernel
theorem dX6_expected_73 : decode cX6_expected 73 = .ok (.ireturn, 1) := by decide +kernel
theorem dX6_expected_74 : decode cX6_expected 74 = .ok (.iconst (-1), 1) := by decide +kernel
theorem dX6_expected_75 : decode cX6_expected 75 = .ok (.ireturn, 1) := by decide +kernel
set_option maxRecDepth 20000 in
theorem ggX6_law_X6_isLaw : GoodIn wsX6_law wsX6_isLaw := goodIn_r _ [6] (by decide +kernel) (by decide +kernel)
set_option maxRecDepth 20000 in
theorem gX6_law_X6_isLaw : GoodIn wsX6_law (va_wsS RX6 145 yX6_isLaw wsX6_isLaw) := goodIn_app (goodIn_of _ (by decide +kernel)) ggX6_law_X6_isLaw
theorem dX6_law_0 : decode cX6_law 0 = .ok (.iload_n 1, 1) := by decide +kernel
theorem dX6_law_1 : decode cX6_law 1 = .ok (.invokestatic 145, 3) := by decide +kernel
theorem dX6_law_4 : decode cX6_law 4 = .ok (.ifCond .ne 5, 3) := by decide +kernel
theorem dX6_law_7 : decode cX6_law 7 = .ok (.iconst (-1), 1) := by decide +kernel
theorem dX6_law_8 : decode cX6_law 8 = .ok (.ireturn, 1) := by decide +kernel
theorem dX6_law_9 : decode cX6_law 9 = .ok (.aload_n 0, 1) := by decide +kernel
theorem dX6_law_10 : decode cX6_law 10 = .ok (.getfield 12, 3) := by decide +kernel
theorem dX6_law_13 : decode cX6_law 13 = .ok (.getfield 97, 3) := by decide +kernel
theorem dX6_law_16 : decode cX6_law 16 = .ok (.istore_n 2, 1) := by decide +kernel
theorem dX6_law_17 : decode cX6_law 17 = .ok (.aload_n 0, 1) := by decide +kernel
theorem dX6_law_18 : decode cX6_law 18 = .ok (.getfield 12, 3) := by decide +kernel
theorem dX6_law_21 : decode cX6_law 21 = .ok (.iload_n 1, 1) := by decide +kernel
theorem dX6_law_22 : decode cX6_law 22 = .ok (.putfield 97, 3) := by decide +kernel
theorem dX6_law_25 : decode cX6_law 25 = .ok (.iload_n 2, 1) := by decide +kernel
theorem dX6_law_26 : decode cX6_law 26 = .ok (.ireturn, 1) := by decide +kernel
set_option maxRecDepth 20000 in
theorem ggX6_bear_X6_isDay : GoodIn wsX6_bear wsX6_isDay := goodIn_r _ [7, 3] (by decide +kernel) (by decide +kernel)
set_option maxRecDepth 20000 in
theorem gX6_bear_X6_isDay : GoodIn wsX6_bear (va_wsS RX6 148 yX6_isDay wsX6_isDay) := goodIn_app (goodIn_of _ (by decide +kernel)) ggX6_bear_X6_isDay
set_option maxRecDepth 20000 in
theorem ggX6_bear_X5_isHouse : GoodIn wsX6_bear wsX5_isHouse := goodIn_r _ [12, 13, 34, 35, 36, 37, 38, 39, 40, 41, 42, 43, 44, 45, 46, 47, 48, 49] (by decide +kernel) (by decide +kernel)
set_option maxRecDepth 20000 in
theorem gX6_bear_X5_isHouse : GoodIn wsX6_bear (wsV RX6 151 RX5 yX5_isHouse wsX5_isHouse) := goodIn_app (goodIn_of _ (by decide +kernel)) ggX6_bear_X5_isHouse
set_option maxRecDepth 20000 in
theorem ggX6_bear_X5_addOne : GoodIn wsX6_bear wsX5_addOne := goodIn_r _ [17, 18, 19, 20, 21, 22, 34, 35, 36, 37, 38, 39, 40, 41, 42, 43, 44, 45, 46, 47, 48, 49] (by decide +kernel) (by decide +kernel)
set_option maxRecDepth 20000 in
theorem gX6_bear_X5_addOne : GoodIn wsX6_bear (wsV RX6 155 RX5 yX5_addOne wsX5_addOne) := goodIn_app (goodIn_of _ (by decide +kernel)) ggX6_bear_X5_addOne
theorem dX6_bear_0 : decode cX6_bear 0 = .ok (.iload_n 1, 1) := by decide +kernel
theorem dX6_bear_1 : decode cX6_bear 1 = .ok (.ifCond .lt 26, 3) := by decide +kernel
theorem dX6_bear_4 : decode cX6_bear 4 = .ok (.iload_n 1, 1) := by decide +kernel
theorem dX6_bear_5 : decode cX6_bear 5 = .ok (.iconst 5, 1) := by decide +kernel
theorem dX6_bear_6 : decode cX6_bear 6 = .ok (.if_icmp .ge 21, 3) := by decide +kernel
theorem dX6_bear_9 : decode cX6_bear 9 = .ok (.iload_n 2, 1) := by decide +kernel
theorem dX6_bear_10 : decode cX6_bear 10 = .ok (.invokestatic 148, 3) := by decide +kernel
theorem dX6_bear_13 : decode cX6_bear 13 = .ok (.ifCond .eq 14, 3) := by decide +kernel
theorem dX6_bear_16 : decode cX6_bear 16 = .ok (.aload_n 0, 1) := by decide +kernel
theorem dX6_bear_17 : decode cX6_bear 17 = .ok (.getfield 12, 3) := by decide +kernel
theorem dX6_bear_20 : decode cX6_bear 20 = .ok (.iload_n 3, 1) := by decide +kernel
theorem dX6_bear_21 : decode cX6_bear 21 = .ok (.invokevirtual 151, 3) := by decide +kernel
theorem dX6_bear_24 : decode cX6_bear 24 = .ok (.ifCond .ne 5, 3) := by decide +kernel
theorem dX6_bear_27 : decode cX6_bear 27 = .ok (.iconst (-1), 1) := by decide +kernel
theorem dX6_bear_28 : decode cX6_bear 28 = .ok (.ireturn, 1) := by decide +kernel
theorem dX6_bear_29 : decode cX6_bear 29 = .ok (.aload_n 0, 1) := by decide +kernel
theorem dX6_bear_30 : decode cX6_bear 30 = .ok (.getfield 12, 3) := by decide +kernel
theorem dX6_bear_33 : decode cX6_bear 33 = .ok (.getfield 100, 3) := by decide +kernel
theorem dX6_bear_36 : decode cX6_bear 36 = .ok (.bipush 10, 2) := by decide +kernel
theorem dX6_bear_38 : decode cX6_bear 38 = .ok (.if_icmp .lt 6, 3) := by decide +kernel
theorem dX6_bear_41 : decode cX6_bear 41 = .ok (.bipush (-3), 2) := by decide +kernel
theorem dX6_bear_43 : decode cX6_bear 43 = .ok (.ireturn, 1) := by decide +kernel
theorem dX6_bear_44 : decode cX6_bear 44 = .ok (.aload_n 0, 1) := by decide +kernel
theorem dX6_bear_45 : decode cX6_bear 45 = .ok (.getfield 12, 3) := by decide +kernel
theorem dX6_bear_48 : decode cX6_bear 48 = .ok (.iload_n 1, 1) := by decide +kernel
theorem dX6_bear_49 : decode cX6_bear 49 = .ok (.iload_n 2, 1) := by decide +kernel
theorem dX6_bear_50 : decode cX6_bear 50 = .ok (.iload_n 3, 1) := by decide +kernel
theorem dX6_bear_51 : decode cX6_bear 51 = .ok (.ldc 154, 2) := by decide +kernel
theorem dX6_bear_53 : decode cX6_bear 53 = .ok (.invokevirtual 155, 3) := by decide +kernel
theorem dX6_bear_56 : decode cX6_bear 56 = .ok (.aload_n 0, 1) := by decide +kernel
theorem dX6_bear_57 : decode cX6_bear 57 = .ok (.getfield 12, 3) := by decide +kernel
theorem dX6_bear_60 : decode cX6_bear 60 = .ok (.getfield 100, 3) := by decide +kernel
theorem dX6_bear_63 : decode cX6_bear 63 = .ok (.iconst 1, 1) := by decide +kernel
theorem dX6_bear_64 : decode cX6_bear 64 = .ok (.isub, 1) := by decide +kernel
theorem dX6_bear_65 : decode cX6_bear 65 = .ok (.ireturn, 1) := by decide +kernel
set_option maxRecDepth 20000 in
theorem ggX6_die_X5_isOne : GoodIn wsX6_die wsX5_isOne := goodIn_r _ [8, 9, 32, 33, 34, 35, 36, 37, 38, 39, 40, 41, 42, 43, 44, 45, 46, 47] (by decide +kernel) (by decide +kernel)
set_option maxRecDepth 20000 in
theorem gX6_die_X5_isOne : GoodIn wsX6_die (wsV RX6 109 RX5 yX5_isOne wsX5_isOne) := goodIn_app (goodIn_of _ (by decide +kernel)) ggX6_die_X5_isOne
set_option maxRecDepth 20000 in
theorem ggX6_die_X6_isDay : GoodIn wsX6_die wsX6_isDay := goodIn_r _ [13, 14] (by decide +kernel) (by decide +kernel)
set_option maxRecDepth 20000 in
theorem gX6_die_X6_isDay : GoodIn wsX6_die (va_wsS RX6 148 yX6_isDay wsX6_isDay) := goodIn_app (goodIn_of _ (by decide +kernel)) ggX6_die_X6_isDay
set_option maxRecDepth 20000 in
theorem ggX6_die_X5_deathOf : GoodIn wsX6_die wsX5_deathOf := goodIn_r _ [18, 19, 20, 32, 33, 34, 35, 36, 37, 38, 39, 40, 41, 42, 43, 44, 45, 46, 47] (by decide +kernel) (by decide +kernel)
set_option maxRecDepth 20000 in
theorem gX6_die_X5_deathOf : GoodIn wsX6_die (wsV RX6 123 RX5 yX5_deathOf wsX5_deathOf) := goodIn_app (goodIn_of _ (by decide +kernel)) ggX6_die_X5_deathOf
theorem dX6_die_0 : decode cX6_die 0 = .ok (.aload_n 0, 1) := by decide +kernel
theorem dX6_die_1 : decode cX6_die 1 = .ok (.getfield 12, 3) := by decide +kernel
theorem dX6_die_4 : decode cX6_die 4 = .ok (.iload_n 1, 1) := by decide +kernel
theorem dX6_die_5 : decode cX6_die 5 = .ok (.invokevirtual 109, 3) := by decide +kernel
theorem dX6_die_8 : decode cX6_die 8 = .ok (.ifCond .eq 23, 3) := by decide +kernel
theorem dX6_die_11 : decode cX6_die 11 = .ok (.iload_n 2, 1) := by decide +kernel
theorem dX6_die_12 : decode cX6_die 12 = .ok (.invokestatic 148, 3) := by decide +kernel
theorem dX6_die_15 : decode cX6_die 15 = .ok (.ifCond .eq 16, 3) := by decide +kernel
theorem dX6_die_18 : decode cX6_die 18 = .ok (.iload_n 2, 1) := by decide +kernel
theorem dX6_die_19 : decode cX6_die 19 = .ok (.aload_n 0, 1) := by decide +kernel
theorem dX6_die_20 : decode cX6_die 20 = .ok (.getfield 12, 3) := by decide +kernel
theorem dX6_die_23 : decode cX6_die 23 = .ok (.getfield 117, 3) := by decide +kernel
theorem dX6_die_26 : decode cX6_die 26 = .ok (.iload_n 1, 1) := by decide +kernel
theorem dX6_die_27 : decode cX6_die 27 = .ok (.iaload, 1) := by decide +kernel
theorem dX6_die_28 : decode cX6_die 28 = .ok (.if_icmp .gt 5, 3) := by decide +kernel
theorem dX6_die_31 : decode cX6_die 31 = .ok (.iconst (-1), 1) := by decide +kernel
theorem dX6_die_32 : decode cX6_die 32 = .ok (.ireturn, 1) := by decide +kernel
theorem dX6_die_33 : decode cX6_die 33 = .ok (.aload_n 0, 1) := by decide +kernel
theorem dX6_die_34 : decode cX6_die 34 = .ok (.getfield 12, 3) := by decide +kernel
theorem dX6_die_37 : decode cX6_die 37 = .ok (.iload_n 1, 1) := by decide +kernel
theorem dX6_die_38 : decode cX6_die 38 = .ok (.invokevirtual 123, 3) := by decide +kernel
theorem dX6_die_41 : decode cX6_die 41 = .ok (.istore_n 3, 1) := by decide +kernel
theorem dX6_die_42 : decode cX6_die 42 = .ok (.aload_n 0, 1) := by decide +kernel
theorem dX6_die_43 : decode cX6_die 43 = .ok (.getfield 12, 3) := by decide +kernel
theorem dX6_die_46 : decode cX6_die 46 = .ok (.getfield 159, 3) := by decide +kernel
theorem dX6_die_49 : decode cX6_die 49 = .ok (.iload_n 1, 1) := by decide +kernel
theorem dX6_die_50 : decode cX6_die 50 = .ok (.iload_n 2, 1) := by decide +kernel
theorem dX6_die_51 : decode cX6_die 51 = .ok (.iastore, 1) := by decide +kernel
theorem dX6_die_52 : decode cX6_die 52 = .ok (.iload_n 3, 1) := by decide +kernel
theorem dX6_die_53 : decode cX6_die 53 = .ok (.ireturn, 1) := by decide +kernel
set_option maxRecDepth 20000 in
theorem ggX6_move_X5_addMove : GoodIn wsX6_move wsX5_addMove := goodIn_r _ [6, 7, 8, 9, 10, 11, 12, 13, 14, 5, 15, 16, 17, 18, 19, 20, 21, 22, 23, 24, 25, 26, 27, 28, 29, 30, 31, 32, 44, 45, 46, 47, 48, 49, 50, 51, 52, 53, 54, 55, 56, 57, 58, 59] (by decide +kernel) (by decide +kernel)
set_option maxRecDepth 20000 in
theorem gX6_move_X5_addMove : GoodIn wsX6_move (wsV RX6 162 RX5 yX5_addMove wsX5_addMove) := goodIn_app (goodIn_of _ (by decide +kernel)) ggX6_move_X5_addMove
theorem dX6_move_0 : decode cX6_move 0 = .ok (.aload_n 0, 1) := by decide +kernel
theorem dX6_move_1 : decode cX6_move 1 = .ok (.getfield 12, 3) := by decide +kernel
theorem dX6_move_4 : decode cX6_move 4 = .ok (.iload_n 1, 1) := by decide +kernel
theorem dX6_move_5 : decode cX6_move 5 = .ok (.iload_n 2, 1) := by decide +kernel
theorem dX6_move_6 : decode cX6_move 6 = .ok (.iload_n 3, 1) := by decide +kernel
theorem dX6_move_7 : decode cX6_move 7 = .ok (.invokevirtual 162, 3) := by decide +kernel
theorem dX6_move_10 : decode cX6_move 10 = .ok (.ireturn, 1) := by decide +kernel
theorem dX6_undo_0 : decode cX6_undo 0 = .ok (.iload_n 1, 1) := by decide +kernel
theorem dX6_undo_1 : decode cX6_undo 1 = .ok (.ifCond .lt 14, 3) := by decide +kernel
theorem dX6_undo_4 : decode cX6_undo 4 = .ok (.iload_n 1, 1) := by decide +kernel
theorem dX6_undo_5 : decode cX6_undo 5 = .ok (.aload_n 0, 1) := by decide +kernel
theorem dX6_undo_6 : decode cX6_undo 6 = .ok (.getfield 12, 3) := by decide +kernel
theorem dX6_undo_9 : decode cX6_undo 9 = .ok (.getfield 103, 3) := by decide +kernel
theorem dX6_undo_12 : decode cX6_undo 12 = .ok (.if_icmp .le 5, 3) := by decide +kernel
theorem dX6_undo_15 : decode cX6_undo 15 = .ok (.iconst (-1), 1) := by decide +kernel
theorem dX6_undo_16 : decode cX6_undo 16 = .ok (.ireturn, 1) := by decide +kernel
theorem dX6_undo_17 : decode cX6_undo 17 = .ok (.aload_n 0, 1) := by decide +kernel
theorem dX6_undo_18 : decode cX6_undo 18 = .ok (.getfield 12, 3) := by decide +kernel
theorem dX6_undo_21 : decode cX6_undo 21 = .ok (.getfield 103, 3) := by decide +kernel
theorem dX6_undo_24 : decode cX6_undo 24 = .ok (.istore_n 2, 1) := by decide +kernel
theorem dX6_undo_25 : decode cX6_undo 25 = .ok (.aload_n 0, 1) := by decide +kernel
theorem dX6_undo_26 : decode cX6_undo 26 = .ok (.getfield 12, 3) := by decide +kernel
theorem dX6_undo_29 : decode cX6_undo 29 = .ok (.iload_n 1, 1) := by decide +kernel
theorem dX6_undo_30 : decode cX6_undo 30 = .ok (.putfield 103, 3) := by decide +kernel
theorem dX6_undo_33 : decode cX6_undo 33 = .ok (.iload_n 2, 1) := by decide +kernel
theorem dX6_undo_34 : decode cX6_undo 34 = .ok (.ireturn, 1) := by decide +kernel
set_option maxRecDepth 20000 in
theorem ggX6_years_X5_isOne : GoodIn wsX6_years wsX5_isOne := goodIn_r _ [6, 7, 34, 35, 36, 37, 38, 39, 40, 41, 42, 43, 44, 45, 46, 47, 48, 49] (by decide +kernel) (by decide +kernel)
set_option maxRecDepth 20000 in
theorem gX6_years_X5_isOne : GoodIn wsX6_years (wsV RX6 109 RX5 yX5_isOne wsX5_isOne) := goodIn_app (goodIn_of _ (by decide +kernel)) ggX6_years_X5_isOne
set_option maxRecDepth 20000 in
theorem ggX6_years_X6_isDay : GoodIn wsX6_years wsX6_isDay := goodIn_r _ [11, 12] (by decide +kernel) (by decide +kernel)
set_option maxRecDepth 20000 in
theorem gX6_years_X6_isDay : GoodIn wsX6_years (va_wsS RX6 148 yX6_isDay wsX6_isDay) := goodIn_app (goodIn_of _ (by decide +kernel)) ggX6_years_X6_isDay
set_option maxRecDepth 20000 in
theorem ggX6_years_X5_isAlive : GoodIn wsX6_years wsX5_isAlive := goodIn_r _ [16, 17, 18, 34, 35, 36, 37, 38, 39, 40, 41, 42, 43, 44, 45, 46, 47, 48, 49] (by decide +kernel) (by decide +kernel)
set_option maxRecDepth 20000 in
theorem gX6_years_X5_isAlive : GoodIn wsX6_years (wsV RX6 166 RX5 yX5_isAlive wsX5_isAlive) := goodIn_app (goodIn_of _ (by decide +kernel)) ggX6_years_X5_isAlive
set_option maxRecDepth 20000 in
theorem ggX6_years_X5_yearsOf : GoodIn wsX6_years wsX5_yearsOf := goodIn_r _ [22, 17, 34, 35, 36, 37, 38, 39, 40, 41, 42, 43, 44, 45, 46, 47, 48, 49] (by decide +kernel) (by decide +kernel)
set_option maxRecDepth 20000 in
theorem gX6_years_X5_yearsOf : GoodIn wsX6_years (wsV RX6 170 RX5 yX5_yearsOf wsX5_yearsOf) := goodIn_app (goodIn_of _ (by decide +kernel)) ggX6_years_X5_yearsOf
theorem dX6_years_0 : decode cX6_years 0 = .ok (.aload_n 0, 1) := by decide +kernel
theorem dX6_years_1 : decode cX6_years 1 = .ok (.getfield 12, 3) := by decide +kernel
theorem dX6_years_4 : decode cX6_years 4 = .ok (.iload_n 1, 1) := by decide +kernel
theorem dX6_years_5 : decode cX6_years 5 = .ok (.invokevirtual 109, 3) := by decide +kernel
theorem dX6_years_8 : decode cX6_years 8 = .ok (.ifCond .eq 10, 3) := by decide +kernel
theorem dX6_years_11 : decode cX6_years 11 = .ok (.iload_n 2, 1) := by decide +kernel
theorem dX6_years_12 : decode cX6_years 12 = .ok (.invokestatic 148, 3) := by decide +kernel
theorem dX6_years_15 : decode cX6_years 15 = .ok (.ifCond .ne 5, 3) := by decide +kernel
theorem dX6_years_18 : decode cX6_years 18 = .ok (.iconst (-1), 1) := by decide +kernel
theorem dX6_years_19 : decode cX6_years 19 = .ok (.ireturn, 1) := by decide +kernel
theorem dX6_years_20 : decode cX6_years 20 = .ok (.aload_n 0, 1) := by decide +kernel
theorem dX6_years_21 : decode cX6_years 21 = .ok (.getfield 12, 3) := by decide +kernel
theorem dX6_years_24 : decode cX6_years 24 = .ok (.iload_n 1, 1) := by decide +kernel
theorem dX6_years_25 : decode cX6_years 25 = .ok (.iload_n 2, 1) := by decide +kernel
theorem dX6_years_26 : decode cX6_years 26 = .ok (.invokevirtual 166, 3) := by decide +kernel
theorem dX6_years_29 : decode cX6_years 29 = .ok (.ifCond .eq 15, 3) := by decide +kernel
theorem dX6_years_32 : decode cX6_years 32 = .ok (.aload_n 0, 1) := by decide +kernel
theorem dX6_years_33 : decode cX6_years 33 = .ok (.getfield 12, 3) := by decide +kernel
theorem dX6_years_36 : decode cX6_years 36 = .ok (.iload_n 1, 1) := by decide +kernel
theorem dX6_years_37 : decode cX6_years 37 = .ok (.iload_n 2, 1) := by decide +kernel
theorem dX6_years_38 : decode cX6_years 38 = .ok (.invokevirtual 170, 3) := by decide +kernel
theorem dX6_years_41 : decode cX6_years 41 = .ok (.goto 5, 3) := by decide +kernel
theorem dX6_years_44 : decode cX6_years 44 = .ok (.bipush (-4), 2) := by decide +kernel
theorem dX6_years_46 : decode cX6_years 46 = .ok (.ireturn, 1) := by decide +kernel
set_option maxRecDepth 20000 in
theorem ggX6_lives_X5_isOne : GoodIn wsX6_lives wsX5_isOne := goodIn_r _ [6, 7, 39, 40, 41, 42, 43, 44, 45, 46, 47, 48, 49, 50, 51, 52, 53, 54] (by decide +kernel) (by decide +kernel)
set_option maxRecDepth 20000 in
theorem gX6_lives_X5_isOne : GoodIn wsX6_lives (wsV RX6 109 RX5 yX5_isOne wsX5_isOne) := goodIn_app (goodIn_of _ (by decide +kernel)) ggX6_lives_X5_isOne
set_option maxRecDepth 20000 in
theorem ggX6_lives_X6_isDay : GoodIn wsX6_lives wsX6_isDay := goodIn_r _ [11, 12] (by decide +kernel) (by decide +kernel)
set_option maxRecDepth 20000 in
theorem gX6_lives_X6_isDay : GoodIn wsX6_lives (va_wsS RX6 148 yX6_isDay wsX6_isDay) := goodIn_app (goodIn_of _ (by decide +kernel)) ggX6_lives_X6_isDay
set_option maxRecDepth 20000 in
theorem ggX6_lives_X5_isAlive : GoodIn wsX6_lives wsX5_isAlive := goodIn_r _ [16, 17, 18, 39, 40, 41, 42, 43, 44, 45, 46, 47, 48, 49, 50, 51, 52, 53, 54] (by decide +kernel) (by decide +kernel)
set_option maxRecDepth 20000 in
theorem gX6_lives_X5_isAlive : GoodIn wsX6_lives (wsV RX6 166 RX5 yX5_isAlive wsX5_isAlive) := goodIn_app (goodIn_of _ (by decide +kernel)) ggX6_lives_X5_isAlive
set_option maxRecDepth 20000 in
theorem ggX6_lives_X5_homeOf : GoodIn wsX6_lives wsX5_homeOf := goodIn_r _ [22, 23, 24, 25, 26, 27, 39, 40, 41, 42, 43, 44, 45, 46, 47, 48, 49, 50, 51, 52, 53, 54] (by decide +kernel) (by decide +kernel)
set_option maxRecDepth 20000 in
theorem gX6_lives_X5_homeOf : GoodIn wsX6_lives (wsV RX6 174 RX5 yX5_homeOf wsX5_homeOf) := goodIn_app (goodIn_of _ (by decide +kernel)) ggX6_lives_X5_homeOf
theorem dX6_lives_0 : decode cX6_lives 0 = .ok (.aload_n 0, 1) := by decide +kernel
theorem dX6_lives_1 : decode cX6_lives 1 = .ok (.getfield 12, 3) := by decide +kernel
theorem dX6_lives_4 : decode cX6_lives 4 = .ok (.iload_n 1, 1) := by decide +kernel
theorem dX6_lives_5 : decode cX6_lives 5 = .ok (.invokevirtual 109, 3) := by decide +kernel
theorem dX6_lives_8 : decode cX6_lives 8 = .ok (.ifCond .eq 10, 3) := by decide +kernel
theorem dX6_lives_11 : decode cX6_lives 11 = .ok (.iload_n 2, 1) := by decide +kernel
theorem dX6_lives_12 : decode cX6_lives 12 = .ok (.invokestatic 148, 3) := by decide +kernel
theorem dX6_lives_15 : decode cX6_lives 15 = .ok (.ifCond .ne 5, 3) := by decide +kernel
theorem dX6_lives_18 : decode cX6_lives 18 = .ok (.iconst (-1), 1) := by decide +kernel
theorem dX6_lives_19 : decode cX6_lives 19 = .ok (.ireturn, 1) := by decide +kernel
theorem dX6_lives_20 : decode cX6_lives 20 = .ok (.aload_n 0, 1) := by decide +kernel
theorem dX6_lives_21 : decode cX6_lives 21 = .ok (.getfield 12, 3) := by decide +kernel
theorem dX6_lives_24 : decode cX6_lives 24 = .ok (.iload_n 1, 1) := by decide +kernel
theorem dX6_lives_25 : decode cX6_lives 25 = .ok (.iload_n 2, 1) := by decide +kernel
theorem dX6_lives_26 : decode cX6_lives 26 = .ok (.invokevirtual 166, 3) := by decide +kernel
theorem dX6_lives_29 : decode cX6_lives 29 = .ok (.ifCond .eq 15, 3) := by decide +kernel
theorem dX6_lives_32 : decode cX6_lives 32 = .ok (.aload_n 0, 1) := by decide +kernel
theorem dX6_lives_33 : decode cX6_lives 33 = .ok (.getfield 12, 3) := by decide +kernel
theorem dX6_lives_36 : decode cX6_lives 36 = .ok (.iload_n 1, 1) := by decide +kernel
theorem dX6_lives_37 : decode cX6_lives 37 = .ok (.iload_n 2, 1) := by decide +kernel
theorem dX6_lives_38 : decode cX6_lives 38 = .ok (.invokevirtual 174, 3) := by decide +kernel
theorem dX6_lives_41 : decode cX6_lives 41 = .ok (.goto 5, 3) := by decide +kernel
theorem dX6_lives_44 : decode cX6_lives 44 = .ok (.bipush (-4), 2) := by decide +kernel
theorem dX6_lives_46 : decode cX6_lives 46 = .ok (.ireturn, 1) := by decide +kernel
set_option maxRecDepth 20000 in
theorem ggX6_number_X5_isHouse : GoodIn wsX6_number wsX5_isHouse := goodIn_r _ [6, 7, 79, 80, 81, 82, 83, 84, 85, 86, 87, 88, 89, 90, 91, 92, 93, 94] (by decide +kernel) (by decide +kernel)
set_option maxRecDepth 20000 in
theorem gX6_number_X5_isHouse : GoodIn wsX6_number (wsV RX6 151 RX5 yX5_isHouse wsX5_isHouse) := goodIn_app (goodIn_of _ (by decide +kernel)) ggX6_number_X5_isHouse
set_option maxRecDepth 20000 in
theorem ggX6_number_X6_isDay : GoodIn wsX6_number wsX6_isDay := goodIn_r _ [11, 12] (by decide +kernel) (by decide +kernel)
set_option maxRecDepth 20000 in
theorem gX6_number_X6_isDay : GoodIn wsX6_number (va_wsS RX6 148 yX6_isDay wsX6_isDay) := goodIn_app (goodIn_of _ (by decide +kernel)) ggX6_number_X6_isDay
set_option maxRecDepth 20000 in
theorem ggX6_number_X5_numberOf : GoodIn wsX6_number wsX5_numberOf := goodIn_r _ [16, 17, 18, 19, 20, 5, 21, 22, 23, 24, 25, 26, 27, 28, 29, 30, 31, 32, 33, 34, 35, 36, 37, 38, 39, 40, 41, 42, 43, 44, 45, 46, 47, 48, 49, 50, 51, 52, 53, 54, 55, 56, 57, 58, 59, 60, 61, 62, 63, 64, 65, 66, 67, 79, 80, 81, 82, 83, 84, 85, 86, 87, 88, 89, 90, 91, 92, 93, 94, 95, 96, 97, 98] (by decide +kernel) (by decide +kernel)
set_option maxRecDepth 20000 in
theorem gX6_number_X5_numberOf : GoodIn wsX6_number (wsV RX6 177 RX5 yX5_numberOf wsX5_numberOf) := goodIn_app (goodIn_of _ (by decide +kernel)) ggX6_number_X5_numberOf
theorem dX6_number_0 : decode cX6_number 0 = .ok (.aload_n 0, 1) := by decide +kernel
theorem dX6_number_1 : decode cX6_number 1 = .ok (.getfield 12, 3) := by decide +kernel
theorem dX6_number_4 : decode cX6_number 4 = .ok (.iload_n 1, 1) := by decide +kernel
theorem dX6_number_5 : decode cX6_number 5 = .ok (.invokevirtual 151, 3) := by decide +kernel
theorem dX6_number_8 : decode cX6_number 8 = .ok (.ifCond .eq 10, 3) := by decide +kernel
theorem dX6_number_11 : decode cX6_number 11 = .ok (.iload_n 2, 1) := by decide +kernel
theorem dX6_number_12 : decode cX6_number 12 = .ok (.invokestatic 148, 3) := by decide +kernel
theorem dX6_number_15 : decode cX6_number 15 = .ok (.ifCond .ne 5, 3) := by decide +kernel
theorem dX6_number_18 : decode cX6_number 18 = .ok (.iconst (-1), 1) := by decide +kernel
theorem dX6_number_19 : decode cX6_number 19 = .ok (.ireturn, 1) := by decide +kernel
theorem dX6_number_20 : decode cX6_number 20 = .ok (.aload_n 0, 1) := by decide +kernel
theorem dX6_number_21 : decode cX6_number 21 = .ok (.getfield 12, 3) := by decide +kernel
theorem dX6_number_24 : decode cX6_number 24 = .ok (.iload_n 1, 1) := by decide +kernel
theorem dX6_number_25 : decode cX6_number 25 = .ok (.iload_n 2, 1) := by decide +kernel
theorem dX6_number_26 : decode cX6_number 26 = .ok (.invokevirtual 177, 3) := by decide +kernel
theorem dX6_number_29 : decode cX6_number 29 = .ok (.ireturn, 1) := by decide +kernel
set_option maxRecDepth 20000 in
theorem ggX6_at_X6_isDay : GoodIn wsX6_at wsX6_isDay := goodIn_r _ [5, 6] (by decide +kernel) (by decide +kernel)
set_option maxRecDepth 20000 in
theorem gX6_at_X6_isDay : GoodIn wsX6_at (va_wsS RX6 148 yX6_isDay wsX6_isDay) := goodIn_app (goodIn_of _ (by decide +kernel)) ggX6_at_X6_isDay
set_option maxRecDepth 20000 in
theorem ggX6_at_X5_having : GoodIn wsX6_at wsX5_having := goodIn_r _ [11, 12, 13, 14, 15, 16, 10, 17, 18, 19, 20, 21, 22, 23, 24, 25, 26, 27, 28, 29, 30, 31, 32, 33, 34, 35, 36, 37, 38, 39, 40, 41, 42, 43, 44, 45, 46, 47, 48, 49, 50, 51, 52, 53, 54, 55, 56, 57, 58, 59, 60, 61, 62, 63, 75, 76, 77, 78, 79, 80, 81, 82, 83, 84, 85, 86, 87, 88, 89, 90, 91, 92, 93, 94] (by decide +kernel) (by decide +kernel)
set_option maxRecDepth 20000 in
theorem gX6_at_X5_having : GoodIn wsX6_at (wsV RX6 180 RX5 yX5_having wsX5_having) := goodIn_app (goodIn_of _ (by decide +kernel)) ggX6_at_X5_having
theorem dX6_at_0 : decode cX6_at 0 = .ok (.iload_n 2, 1) := by decide +kernel
theorem dX6_at_1 : decode cX6_at 1 = .ok (.invokestatic 148, 3) := by decide +kernel
theorem dX6_at_4 : decode cX6_at 4 = .ok (.ifCond .ne 5, 3) := by decide +kernel
theorem dX6_at_7 : decode cX6_at 7 = .ok (.iconst (-1), 1) := by decide +kernel
theorem dX6_at_8 : decode cX6_at 8 = .ok (.ireturn, 1) := by decide +kernel
theorem dX6_at_9 : decode cX6_at 9 = .ok (.aload_n 0, 1) := by decide +kernel
theorem dX6_at_10 : decode cX6_at 10 = .ok (.getfield 12, 3) := by decide +kernel
theorem dX6_at_13 : decode cX6_at 13 = .ok (.iload_n 1, 1) := by decide +kernel
theorem dX6_at_14 : decode cX6_at 14 = .ok (.ifCond .ge 8, 3) := by decide +kernel
theorem dX6_at_17 : decode cX6_at 17 = .ok (.bipush (-4), 2) := by decide +kernel
theorem dX6_at_19 : decode cX6_at 19 = .ok (.goto 4, 3) := by decide +kernel
theorem dX6_at_22 : decode cX6_at 22 = .ok (.iload_n 1, 1) := by decide +kernel
theorem dX6_at_23 : decode cX6_at 23 = .ok (.iload_n 2, 1) := by decide +kernel
theorem dX6_at_24 : decode cX6_at 24 = .ok (.invokevirtual 180, 3) := by decide +kernel
theorem dX6_at_27 : decode cX6_at 27 = .ok (.ireturn, 1) := by decide +kernel
set_option maxRecDepth 20000 in
theorem ggX6_twins_X6_isDay : GoodIn wsX6_twins wsX6_isDay := goodIn_r _ [7, 8] (by decide +kernel) (by decide +kernel)
set_option maxRecDepth 20000 in
theorem gX6_twins_X6_isDay : GoodIn wsX6_twins (va_wsS RX6 148 yX6_isDay wsX6_isDay) := goodIn_app (goodIn_of _ (by decide +kernel)) ggX6_twins_X6_isDay
set_option maxRecDepth 20000 in
theorem ggX6_twins_X5_tallyOn : GoodIn wsX6_twins wsX5_tallyOn := goodIn_r _ [13, 14, 15, 16, 17, 18, 19, 20, 21, 22, 23, 24, 25, 26, 12, 27, 28, 29, 30, 31, 32, 33, 34, 35, 36, 37, 38, 39, 40, 41, 42, 43, 44, 45, 46, 47, 48, 49, 50, 51, 52, 53, 54, 55, 75, 76, 77, 78, 79, 80, 81, 82, 83, 84, 85, 86, 87, 88, 89, 90, 91, 92, 93, 94] (by decide +kernel) (by decide +kernel)
set_option maxRecDepth 20000 in
theorem gX6_twins_X5_tallyOn : GoodIn wsX6_twins (wsV RX6 183 RX5 yX5_tallyOn wsX5_tallyOn) := goodIn_app (goodIn_of _ (by decide +kernel)) ggX6_twins_X5_tallyOn
set_option maxRecDepth 20000 in
theorem ggX6_twins_X2_twinBits : GoodIn wsX6_twins wsX2_twinBits := goodIn_r _ [59, 60, 61, 62, 20, 63, 22, 51, 52, 23, 91, 92, 93, 94] (by decide +kernel) (by decide +kernel)
set_option maxRecDepth 20000 in
theorem gX6_twins_X2_twinBits : GoodIn wsX6_twins (wsV RX6 187 RX2 yX2_twinBits wsX2_twinBits) := goodIn_app (goodIn_of _ (by decide +kernel)) ggX6_twins_X2_twinBits
theorem dX6_twins_0 : decode cX6_twins 0 = .ok (.iload_n 1, 1) := by decide +kernel
theorem dX6_twins_1 : decode cX6_twins 1 = .ok (.invokestatic 148, 3) := by decide +kernel
theorem dX6_twins_4 : decode cX6_twins 4 = .ok (.ifCond .ne 5, 3) := by decide +kernel
theorem dX6_twins_7 : decode cX6_twins 7 = .ok (.iconst (-1), 1) := by decide +kernel
theorem dX6_twins_8 : decode cX6_twins 8 = .ok (.ireturn, 1) := by decide +kernel
theorem dX6_twins_9 : decode cX6_twins 9 = .ok (.aload_n 0, 1) := by decide +kernel
theorem dX6_twins_10 : decode cX6_twins 10 = .ok (.getfield 12, 3) := by decide +kernel
theorem dX6_twins_13 : decode cX6_twins 13 = .ok (.iload_n 1, 1) := by decide +kernel
theorem dX6_twins_14 : decode cX6_twins 14 = .ok (.invokevirtual 183, 3) := by decide +kernel
theorem dX6_twins_17 : decode cX6_twins 17 = .ok (.aload_n 0, 1) := by decide +kernel
theorem dX6_twins_18 : decode cX6_twins 18 = .ok (.getfield 12, 3) := by decide +kernel
theorem dX6_twins_21 : decode cX6_twins 21 = .ok (.getfield 94, 3) := by decide +kernel
theorem dX6_twins_24 : decode cX6_twins 24 = .ok (.aload_n 0, 1) := by decide +kernel
theorem dX6_twins_25 : decode cX6_twins 25 = .ok (.getfield 12, 3) := by decide +kernel
theorem dX6_twins_28 : decode cX6_twins 28 = .ok (.getfield 97, 3) := by decide +kernel
theorem dX6_twins_31 : decode cX6_twins 31 = .ok (.invokevirtual 187, 3) := by decide +kernel
theorem dX6_twins_34 : decode cX6_twins 34 = .ok (.ireturn, 1) := by decide +kernel
set_option maxRecDepth 20000 in
theorem ggX6_changes_X5_isHouse : GoodIn wsX6_changes wsX5_isHouse := goodIn_r _ [7, 8, 85, 86, 87, 88, 89, 90, 91, 92, 93, 94, 95, 96, 97, 98, 99, 100] (by decide +kernel) (by decide +kernel)
set_option maxRecDepth 20000 in
theorem gX6_changes_X5_isHouse : GoodIn wsX6_changes (wsV RX6 151 RX5 yX5_isHouse wsX5_isHouse) := goodIn_app (goodIn_of _ (by decide +kernel)) ggX6_changes_X5_isHouse
set_option maxRecDepth 20000 in
theorem ggX6_changes_X6_isDay : GoodIn wsX6_changes wsX6_isDay := goodIn_r _ [12, 2] (by decide +kernel) (by decide +kernel)
set_option maxRecDepth 20000 in
theorem gX6_changes_X6_isDay : GoodIn wsX6_changes (va_wsS RX6 148 yX6_isDay wsX6_isDay) := goodIn_app (goodIn_of _ (by decide +kernel)) ggX6_changes_X6_isDay
set_option maxRecDepth 20000 in
theorem ggX6_changes_X5_numberOf : GoodIn wsX6_changes wsX5_numberOf := goodIn_r _ [16, 17, 18, 19, 20, 6, 21, 22, 23, 24, 25, 26, 27, 28, 29, 30, 31, 32, 33, 34, 35, 36, 37, 38, 39, 40, 41, 42, 43, 44, 45, 46, 47, 48, 49, 50, 51, 52, 53, 54, 55, 56, 57, 58, 59, 60, 61, 62, 63, 64, 65, 66, 67, 85, 86, 87, 88, 89, 90, 91, 92, 93, 94, 95, 96, 97, 98, 99, 100, 101, 102, 103, 104] (by decide +kernel) (by decide +kernel)
set_option maxRecDepth 20000 in
theorem gX6_changes_X5_numberOf : GoodIn wsX6_changes (wsV RX6 177 RX5 yX5_numberOf wsX5_numberOf) := goodIn_app (goodIn_of _ (by decide +kernel)) ggX6_changes_X5_numberOf
set_option maxRecDepth 20000 in
theorem ggX6_changes_X5_nextEvent : GoodIn wsX6_changes wsX5_nextEvent := goodIn_r _ [71, 72, 23, 36, 37, 73, 62, 57, 63, 42, 44, 47, 48, 49, 6, 50, 85, 86, 87, 88, 89, 90, 91, 92, 93, 94, 95, 96, 97, 98, 99, 100] (by decide +kernel) (by decide +kernel)
set_option maxRecDepth 20000 in
theorem gX6_changes_X5_nextEvent : GoodIn wsX6_changes (wsV RX6 192 RX5 yX5_nextEvent wsX5_nextEvent) := goodIn_app (goodIn_of _ (by decide +kernel)) ggX6_changes_X5_nextEvent
theorem dX6_changes_0 : decode cX6_changes 0 = .ok (.aload_n 0, 1) := by decide +kernel
theorem dX6_changes_1 : decode cX6_changes 1 = .ok (.getfield 12, 3) := by decide +kernel
theorem dX6_changes_4 : decode cX6_changes 4 = .ok (.iload_n 1, 1) := by decide +kernel
theorem dX6_changes_5 : decode cX6_changes 5 = .ok (.invokevirtual 151, 3) := by decide +kernel
theorem dX6_changes_8 : decode cX6_changes 8 = .ok (.ifCond .eq 10, 3) := by decide +kernel
theorem dX6_changes_11 : decode cX6_changes 11 = .ok (.iload_n 2, 1) := by decide +kernel
theorem dX6_changes_12 : decode cX6_changes 12 = .ok (.invokestatic 148, 3) := by decide +kernel
theorem dX6_changes_15 : decode cX6_changes 15 = .ok (.ifCond .ne 5, 3) := by decide +kernel
theorem dX6_changes_18 : decode cX6_changes 18 = .ok (.iconst (-1), 1) := by decide +kernel
theorem dX6_changes_19 : decode cX6_changes 19 = .ok (.ireturn, 1) := by decide +kernel
theorem dX6_changes_20 : decode cX6_changes 20 = .ok (.aload_n 0, 1) := by decide +kernel
theorem dX6_changes_21 : decode cX6_changes 21 = .ok (.getfield 12, 3) := by decide +kernel
theorem dX6_changes_24 : decode cX6_changes 24 = .ok (.iload_n 1, 1) := by decide +kernel
theorem dX6_changes_25 : decode cX6_changes 25 = .ok (.iload_n 2, 1) := by decide +kernel
theorem dX6_changes_26 : decode cX6_changes 26 = .ok (.invokevirtual 177, 3) := by decide +kernel
theorem dX6_changes_29 : decode cX6_changes 29 = .ok (.istore_n 3, 1) := by decide +kernel
theorem dX6_changes_30 : decode cX6_changes 30 = .ok (.aload_n 0, 1) := by decide +kernel
theorem dX6_changes_31 : decode cX6_changes 31 = .ok (.getfield 12, 3) := by decide +kernel
theorem dX6_changes_34 : decode cX6_changes 34 = .ok (.iload_n 2, 1) := by decide +kernel
theorem dX6_changes_35 : decode cX6_changes 35 = .ok (.invokevirtual 192, 3) := by decide +kernel
theorem dX6_changes_38 : decode cX6_changes 38 = .ok (.istore 4, 2) := by decide +kernel
theorem dX6_changes_40 : decode cX6_changes 40 = .ok (.iconst 0, 1) := by decide +kernel
theorem dX6_changes_41 : decode cX6_changes 41 = .ok (.istore 5, 2) := by decide +kernel
theorem dX6_changes_43 : decode cX6_changes 43 = .ok (.iload 5, 2) := by decide +kernel
theorem dX6_changes_45 : decode cX6_changes 45 = .ok (.ldc 154, 2) := by decide +kernel
theorem dX6_changes_47 : decode cX6_changes 47 = .ok (.if_icmp .ge 44, 3) := by decide +kernel
theorem dX6_changes_50 : decode cX6_changes 50 = .ok (.iload 4, 2) := by decide +kernel
theorem dX6_changes_52 : decode cX6_changes 52 = .ok (.ldc 154, 2) := by decide +kernel
theorem dX6_changes_54 : decode cX6_changes 54 = .ok (.if_icmp .ge 37, 3) := by decide +kernel
theorem dX6_changes_57 : decode cX6_changes 57 = .ok (.aload_n 0, 1) := by decide +kernel
theorem dX6_changes_58 : decode cX6_changes 58 = .ok (.getfield 12, 3) := by decide +kernel
theorem dX6_changes_61 : decode cX6_changes 61 = .ok (.iload_n 1, 1) := by decide +kernel
theorem dX6_changes_62 : decode cX6_changes 62 = .ok (.iload 4, 2) := by decide +kernel
theorem dX6_changes_64 : decode cX6_changes 64 = .ok (.invokevirtual 177, 3) := by decide +kernel
theorem dX6_changes_67 : decode cX6_changes 67 = .ok (.iload_n 3, 1) := by decide +kernel
theorem dX6_changes_68 : decode cX6_changes 68 = .ok (.if_icmp .eq 6, 3) := by decide +kernel
theorem dX6_changes_71 : decode cX6_changes 71 = .ok (.iload 4, 2) := by decide +kernel
theorem dX6_changes_73 : decode cX6_changes 73 = .ok (.ireturn, 1) := by decide +kernel
theorem dX6_changes_74 : decode cX6_changes 74 = .ok (.aload_n 0, 1) := by decide +kernel
theorem dX6_changes_75 : decode cX6_changes 75 = .ok (.getfield 12, 3) := by decide +kernel
theorem dX6_changes_78 : decode cX6_changes 78 = .ok (.iload 4, 2) := by decide +kernel
theorem dX6_changes_80 : decode cX6_changes 80 = .ok (.invokevirtual 192, 3) := by decide +kernel
theorem dX6_changes_83 : decode cX6_changes 83 = .ok (.istore 4, 2) := by decide +kernel
theorem dX6_changes_85 : decode cX6_changes 85 = .ok (.iinc 5 1, 3) := by decide +kernel
theorem dX6_changes_88 : decode cX6_changes 88 = .ok (.goto (-45), 3) := by decide +kernel
theorem dX6_changes_91 : decode cX6_changes 91 = .ok (.bipush (-4), 2) := by decide +kernel
theorem dX6_changes_93 : decode cX6_changes 93 = .ok (.ireturn, 1) := by decide +kernel
set_option maxRecDepth 20000 in
theorem ggX6_descending_X6_isDay : GoodIn wsX6_descending wsX6_isDay := goodIn_r _ [7, 8] (by decide +kernel) (by decide +kernel)
set_option maxRecDepth 20000 in
theorem gX6_descending_X6_isDay : GoodIn wsX6_descending (va_wsS RX6 148 yX6_isDay wsX6_isDay) := goodIn_app (goodIn_of _ (by decide +kernel)) ggX6_descending_X6_isDay
set_option maxRecDepth 20000 in
theorem ggX6_descending_X5_isHouse : GoodIn wsX6_descending wsX5_isHouse := goodIn_r _ [13, 14, 80, 81, 82, 83, 84, 85, 86, 87, 88, 89, 90, 91, 92, 93, 94, 95] (by decide +kernel) (by decide +kernel)
set_option maxRecDepth 20000 in
theorem gX6_descending_X5_isHouse : GoodIn wsX6_descending (wsV RX6 151 RX5 yX5_isHouse wsX5_isHouse) := goodIn_app (goodIn_of _ (by decide +kernel)) ggX6_descending_X5_isHouse
set_option maxRecDepth 20000 in
theorem ggX6_descending_X5_tallyOn : GoodIn wsX6_descending wsX5_tallyOn := goodIn_r _ [18, 19, 20, 21, 22, 23, 24, 25, 26, 27, 28, 29, 30, 31, 12, 32, 33, 34, 35, 36, 37, 38, 39, 40, 41, 42, 43, 44, 45, 46, 47, 48, 49, 50, 51, 52, 53, 54, 55, 56, 57, 58, 59, 60, 80, 81, 82, 83, 84, 85, 86, 87, 88, 89, 90, 91, 92, 93, 94, 95, 96, 97, 98, 99] (by decide +kernel) (by decide +kernel)
set_option maxRecDepth 20000 in
theorem gX6_descending_X5_tallyOn : GoodIn wsX6_descending (wsV RX6 183 RX5 yX5_tallyOn wsX5_tallyOn) := goodIn_app (goodIn_of _ (by decide +kernel)) ggX6_descending_X5_tallyOn
set_option maxRecDepth 20000 in
theorem ggX6_descending_X2_rankOf : GoodIn wsX6_descending wsX2_rankOf := goodIn_r _ [64, 65, 66, 67, 25, 68, 27, 56, 57, 28, 96, 97, 98, 99] (by decide +kernel) (by decide +kernel)
set_option maxRecDepth 20000 in
theorem gX6_descending_X2_rankOf : GoodIn wsX6_descending (wsV RX6 195 RX2 yX2_rankOf wsX2_rankOf) := goodIn_app (goodIn_of _ (by decide +kernel)) ggX6_descending_X2_rankOf
theorem dX6_descending_0 : decode cX6_descending 0 = .ok (.iload_n 1, 1) := by decide +kernel
theorem dX6_descending_1 : decode cX6_descending 1 = .ok (.invokestatic 148, 3) := by decide +kernel
theorem dX6_descending_4 : decode cX6_descending 4 = .ok (.ifCond .eq 14, 3) := by decide +kernel
theorem dX6_descending_7 : decode cX6_descending 7 = .ok (.aload_n 0, 1) := by decide +kernel
theorem dX6_descending_8 : decode cX6_descending 8 = .ok (.getfield 12, 3) := by decide +kernel
theorem dX6_descending_11 : decode cX6_descending 11 = .ok (.iload_n 2, 1) := by decide +kernel
theorem dX6_descending_12 : decode cX6_descending 12 = .ok (.invokevirtual 151, 3) := by decide +kernel
theorem dX6_descending_15 : decode cX6_descending 15 = .ok (.ifCond .ne 5, 3) := by decide +kernel
theorem dX6_descending_18 : decode cX6_descending 18 = .ok (.iconst (-1), 1) := by decide +kernel
theorem dX6_descending_19 : decode cX6_descending 19 = .ok (.ireturn, 1) := by decide +kernel
theorem dX6_descending_20 : decode cX6_descending 20 = .ok (.aload_n 0, 1) := by decide +kernel
theorem dX6_descending_21 : decode cX6_descending 21 = .ok (.getfield 12, 3) := by decide +kernel
theorem dX6_descending_24 : decode cX6_descending 24 = .ok (.iload_n 1, 1) := by decide +kernel
theorem dX6_descending_25 : decode cX6_descending 25 = .ok (.invokevirtual 183, 3) := by decide +kernel
theorem dX6_descending_28 : decode cX6_descending 28 = .ok (.astore_n 3, 1) := by decide +kernel
theorem dX6_descending_29 : decode cX6_descending 29 = .ok (.iconst 0, 1) := by decide +kernel
theorem dX6_descending_30 : decode cX6_descending 30 = .ok (.istore 4, 2) := by decide +kernel
theorem dX6_descending_32 : decode cX6_descending 32 = .ok (.iload 4, 2) := by decide +kernel
theorem dX6_descending_34 : decode cX6_descending 34 = .ok (.aload_n 0, 1) := by decide +kernel
theorem dX6_descending_35 : decode cX6_descending 35 = .ok (.getfield 12, 3) := by decide +kernel
theorem dX6_descending_38 : decode cX6_descending 38 = .ok (.getfield 94, 3) := by decide +kernel
theorem dX6_descending_41 : decode cX6_descending 41 = .ok (.if_icmp .ge 36, 3) := by decide +kernel
theorem dX6_descending_44 : decode cX6_descending 44 = .ok (.aload_n 3, 1) := by decide +kernel
theorem dX6_descending_45 : decode cX6_descending 45 = .ok (.iload 4, 2) := by decide +kernel
theorem dX6_descending_47 : decode cX6_descending 47 = .ok (.aload_n 0, 1) := by decide +kernel
theorem dX6_descending_48 : decode cX6_descending 48 = .ok (.getfield 12, 3) := by decide +kernel
theorem dX6_descending_51 : decode cX6_descending 51 = .ok (.getfield 94, 3) := by decide +kernel
theorem dX6_descending_54 : decode cX6_descending 54 = .ok (.aload_n 0, 1) := by decide +kernel
theorem dX6_descending_55 : decode cX6_descending 55 = .ok (.getfield 12, 3) := by decide +kernel
theorem dX6_descending_58 : decode cX6_descending 58 = .ok (.getfield 97, 3) := by decide +kernel
theorem dX6_descending_61 : decode cX6_descending 61 = .ok (.invokevirtual 195, 3) := by decide +kernel
theorem dX6_descending_64 : decode cX6_descending 64 = .ok (.iload_n 2, 1) := by decide +kernel
theorem dX6_descending_65 : decode cX6_descending 65 = .ok (.if_icmp .ne 6, 3) := by decide +kernel
theorem dX6_descending_68 : decode cX6_descending 68 = .ok (.iload 4, 2) := by decide +kernel
theorem dX6_descending_70 : decode cX6_descending 70 = .ok (.ireturn, 1) := by decide +kernel
theorem dX6_descending_71 : decode cX6_descending 71 = .ok (.iinc 4 1, 3) := by decide +kernel
theorem dX6_descending_74 : decode cX6_descending 74 = .ok (.goto (-42), 3) := by decide +kernel
theorem dX6_descending_77 : decode cX6_descending 77 = .ok (.iconst (-1), 1) := by decide +kernel
theorem dX6_descending_78 : decode cX6_descending 78 = .ok (.ireturn, 1) := by decide +kernel
set_option maxRecDepth 20000 in
theorem ggX6_all_X6_isDay : GoodIn wsX6_all wsX6_isDay := goodIn_r _ [5, 6] (by decide +kernel) (by decide +kernel)
set_option maxRecDepth 20000 in
theorem gX6_all_X6_isDay : GoodIn wsX6_all (va_wsS RX6 148 yX6_isDay wsX6_isDay) := goodIn_app (goodIn_of _ (by decide +kernel)) ggX6_all_X6_isDay
set_option maxRecDepth 20000 in
theorem ggX6_all_X6_isLaw : GoodIn wsX6_all wsX6_isLaw := goodIn_r _ [9] (by decide +kernel) (by decide +kernel)
set_option maxRecDepth 20000 in
theorem gX6_all_X6_isLaw : GoodIn wsX6_all (va_wsS RX6 145 yX6_isLaw wsX6_isLaw) := goodIn_app (goodIn_of _ (by decide +kernel)) ggX6_all_X6_isLaw
set_option maxRecDepth 20000 in
theorem ggX6_all_X5_allNumbers : GoodIn wsX6_all wsX5_allNumbers := goodIn_r _ [14, 15, 16, 17, 18, 13, 19, 20, 21, 22, 23, 24, 25, 26, 27, 28, 29, 30, 31, 32, 33, 34, 35, 36, 37, 38, 39, 40, 41, 42, 43, 44, 45, 46, 47, 48, 49, 50, 51, 52, 53, 54, 55, 56, 57, 58, 59, 60, 61, 62, 63, 64, 65, 77, 78, 79, 80, 81, 82, 83, 84, 85, 86, 87, 88, 89, 90, 91, 92, 93, 94, 95, 96] (by decide +kernel) (by decide +kernel)
set_option maxRecDepth 20000 in
theorem gX6_all_X5_allNumbers : GoodIn wsX6_all (wsV RX6 198 RX5 yX5_allNumbers wsX5_allNumbers) := goodIn_app (goodIn_of _ (by decide +kernel)) ggX6_all_X5_allNumbers
theorem dX6_all_0 : decode cX6_all 0 = .ok (.iload_n 1, 1) := by decide +kernel
theorem dX6_all_1 : decode cX6_all 1 = .ok (.invokestatic 148, 3) := by decide +kernel
theorem dX6_all_4 : decode cX6_all 4 = .ok (.ifCond .eq 10, 3) := by decide +kernel
theorem dX6_all_7 : decode cX6_all 7 = .ok (.iload_n 2, 1) := by decide +kernel
theorem dX6_all_8 : decode cX6_all 8 = .ok (.invokestatic 145, 3) := by decide +kernel
theorem dX6_all_11 : decode cX6_all 11 = .ok (.ifCond .ne 5, 3) := by decide +kernel
theorem dX6_all_14 : decode cX6_all 14 = .ok (.iconst (-1), 1) := by decide +kernel
theorem dX6_all_15 : decode cX6_all 15 = .ok (.ireturn, 1) := by decide +kernel
theorem dX6_all_16 : decode cX6_all 16 = .ok (.aload_n 0, 1) := by decide +kernel
theorem dX6_all_17 : decode cX6_all 17 = .ok (.getfield 12, 3) := by decide +kernel
theorem dX6_all_20 : decode cX6_all 20 = .ok (.iload_n 1, 1) := by decide +kernel
theorem dX6_all_21 : decode cX6_all 21 = .ok (.iload_n 2, 1) := by decide +kernel
theorem dX6_all_22 : decode cX6_all 22 = .ok (.invokevirtual 198, 3) := by decide +kernel
theorem dX6_all_25 : decode cX6_all 25 = .ok (.ireturn, 1) := by decide +kernel
set_option maxRecDepth 20000 in
theorem ggX6_letter_X6_isNumber : GoodIn wsX6_letter wsX6_isNumber := goodIn_r _ [5] (by decide +kernel) (by decide +kernel)
set_option maxRecDepth 20000 in
theorem gX6_letter_X6_isNumber : GoodIn wsX6_letter (va_wsS RX6 201 yX6_isNumber wsX6_isNumber) := goodIn_app (goodIn_of _ (by decide +kernel)) ggX6_letter_X6_isNumber
set_option maxRecDepth 20000 in
theorem ggX6_letter_X6_isDay : GoodIn wsX6_letter wsX6_isDay := goodIn_r _ [8, 9] (by decide +kernel) (by decide +kernel)
set_option maxRecDepth 20000 in
theorem gX6_letter_X6_isDay : GoodIn wsX6_letter (va_wsS RX6 148 yX6_isDay wsX6_isDay) := goodIn_app (goodIn_of _ (by decide +kernel)) ggX6_letter_X6_isDay
set_option maxRecDepth 20000 in
theorem ggX6_letter_X5_having : GoodIn wsX6_letter wsX5_having := goodIn_r _ [14, 15, 16, 17, 18, 19, 13, 20, 21, 22, 23, 24, 25, 26, 27, 28, 29, 30, 31, 32, 33, 34, 35, 36, 37, 38, 39, 40, 41, 42, 43, 44, 45, 46, 47, 48, 49, 50, 51, 52, 53, 54, 55, 56, 57, 58, 59, 60, 61, 62, 63, 64, 65, 66, 78, 79, 80, 81, 82, 83, 84, 85, 86, 87, 88, 89, 90, 91, 92, 93, 94, 95, 96, 97] (by decide +kernel) (by decide +kernel)
set_option maxRecDepth 20000 in
theorem gX6_letter_X5_having : GoodIn wsX6_letter (wsV RX6 180 RX5 yX5_having wsX5_having) := goodIn_app (goodIn_of _ (by decide +kernel)) ggX6_letter_X5_having
theorem dX6_letter_0 : decode cX6_letter 0 = .ok (.iload_n 1, 1) := by decide +kernel
theorem dX6_letter_1 : decode cX6_letter 1 = .ok (.invokestatic 201, 3) := by decide +kernel
theorem dX6_letter_4 : decode cX6_letter 4 = .ok (.ifCond .eq 28, 3) := by decide +kernel
theorem dX6_letter_7 : decode cX6_letter 7 = .ok (.iload_n 2, 1) := by decide +kernel
theorem dX6_letter_8 : decode cX6_letter 8 = .ok (.invokestatic 148, 3) := by decide +kernel
theorem dX6_letter_11 : decode cX6_letter 11 = .ok (.ifCond .eq 21, 3) := by decide +kernel
theorem dX6_letter_14 : decode cX6_letter 14 = .ok (.iload_n 3, 1) := by decide +kernel
theorem dX6_letter_15 : decode cX6_letter 15 = .ok (.invokestatic 148, 3) := by decide +kernel
theorem dX6_letter_18 : decode cX6_letter 18 = .ok (.ifCond .eq 14, 3) := by decide +kernel
theorem dX6_letter_21 : decode cX6_letter 21 = .ok (.iload 4, 2) := by decide +kernel
theorem dX6_letter_23 : decode cX6_letter 23 = .ok (.ifCond .lt 9, 3) := by decide +kernel
theorem dX6_letter_26 : decode cX6_letter 26 = .ok (.iload 4, 2) := by decide +kernel
theorem dX6_letter_28 : decode cX6_letter 28 = .ok (.iconst 2, 1) := by decide +kernel
theorem dX6_letter_29 : decode cX6_letter 29 = .ok (.if_icmp .le 5, 3) := by decide +kernel
theorem dX6_letter_32 : decode cX6_letter 32 = .ok (.iconst (-1), 1) := by decide +kernel
theorem dX6_letter_33 : decode cX6_letter 33 = .ok (.ireturn, 1) := by decide +kernel
theorem dX6_letter_34 : decode cX6_letter 34 = .ok (.aload_n 0, 1) := by decide +kernel
theorem dX6_letter_35 : decode cX6_letter 35 = .ok (.getfield 12, 3) := by decide +kernel
theorem dX6_letter_38 : decode cX6_letter 38 = .ok (.iload_n 1, 1) := by decide +kernel
theorem dX6_letter_39 : decode cX6_letter 39 = .ok (.iload_n 2, 1) := by decide +kernel
theorem dX6_letter_40 : decode cX6_letter 40 = .ok (.invokevirtual 180, 3) := by decide +kernel
theorem dX6_letter_43 : decode cX6_letter 43 = .ok (.istore 5, 2) := by decide +kernel
theorem dX6_letter_45 : decode cX6_letter 45 = .ok (.aload_n 0, 1) := by decide +kernel
theorem dX6_letter_46 : decode cX6_letter 46 = .ok (.getfield 12, 3) := by decide +kernel
theorem dX6_letter_49 : decode cX6_letter 49 = .ok (.iload_n 1, 1) := by decide +kernel
theorem dX6_letter_50 : decode cX6_letter 50 = .ok (.iload_n 3, 1) := by decide +kernel
theorem dX6_letter_51 : decode cX6_letter 51 = .ok (.invokevirtual 180, 3) := by decide +kernel
theorem dX6_letter_54 : decode cX6_letter 54 = .ok (.istore 6, 2) := by decide +kernel
theorem dX6_letter_56 : decode cX6_letter 56 = .ok (.iload 4, 2) := by decide +kernel
theorem dX6_letter_58 : decode cX6_letter 58 = .ok (.ifCond .ne 6, 3) := by decide +kernel
theorem dX6_letter_61 : decode cX6_letter 61 = .ok (.iload 5, 2) := by decide +kernel
theorem dX6_letter_63 : decode cX6_letter 63 = .ok (.ireturn, 1) := by decide +kernel
theorem dX6_letter_64 : decode cX6_letter 64 = .ok (.iload 4, 2) := by decide +kernel
theorem dX6_letter_66 : decode cX6_letter 66 = .ok (.iconst 1, 1) := by decide +kernel
theorem dX6_letter_67 : decode cX6_letter 67 = .ok (.if_icmp .ne 8, 3) := by decide +kernel
theorem dX6_letter_70 : decode cX6_letter 70 = .ok (.iload 6, 2) := by decide +kernel
theorem dX6_letter_72 : decode cX6_letter 72 = .ok (.goto 10, 3) := by decide +kernel
theorem dX6_letter_75 : decode cX6_letter 75 = .ok (.iload 5, 2) := by decide +kernel
theorem dX6_letter_77 : decode cX6_letter 77 = .ok (.iload 6, 2) := by decide +kernel
theorem dX6_letter_79 : decode cX6_letter 79 = .ok (.iconst (-1), 1) := by decide +kernel
theorem dX6_letter_80 : decode cX6_letter 80 = .ok (.ixor, 1) := by decide +kernel
theorem dX6_letter_81 : decode cX6_letter 81 = .ok (.iand, 1) := by decide +kernel
theorem dX6_letter_82 : decode cX6_letter 82 = .ok (.ireturn, 1) := by decide +kernel
set_option maxRecDepth 20000 in
theorem ggX6_round_X6_isDay : GoodIn wsX6_round wsX6_isDay := goodIn_r _ [8, 1] (by decide +kernel) (by decide +kernel)
set_option maxRecDepth 20000 in
theorem gX6_round_X6_isDay : GoodIn wsX6_round (va_wsS RX6 148 yX6_isDay wsX6_isDay) := goodIn_app (goodIn_of _ (by decide +kernel)) ggX6_round_X6_isDay
set_option maxRecDepth 20000 in
theorem ggX6_round_X5_tallyOn : GoodIn wsX6_round wsX5_tallyOn := goodIn_r _ [13, 14, 15, 16, 17, 18, 19, 20, 21, 22, 23, 24, 25, 26, 12, 27, 28, 29, 30, 31, 32, 33, 34, 35, 36, 37, 38, 39, 40, 41, 42, 43, 44, 45, 46, 47, 48, 49, 50, 51, 52, 53, 54, 55, 75, 76, 77, 78, 79, 80, 81, 82, 83, 84, 85, 86, 87, 88, 89, 90, 91, 92, 93, 94] (by decide +kernel) (by decide +kernel)
set_option maxRecDepth 20000 in
theorem gX6_round_X5_tallyOn : GoodIn wsX6_round (wsV RX6 183 RX5 yX5_tallyOn wsX5_tallyOn) := goodIn_app (goodIn_of _ (by decide +kernel)) ggX6_round_X5_tallyOn
set_option maxRecDepth 20000 in
theorem ggX6_round_X2_greatest : GoodIn wsX6_round wsX2_greatest := goodIn_r _ [59, 60, 61, 62, 20, 63, 22, 51, 52, 23, 91, 92, 93, 94] (by decide +kernel) (by decide +kernel)
set_option maxRecDepth 20000 in
theorem gX6_round_X2_greatest : GoodIn wsX6_round (wsV RX6 204 RX2 yX2_greatest wsX2_greatest) := goodIn_app (goodIn_of _ (by decide +kernel)) ggX6_round_X2_greatest
theorem dX6_round_0 : decode cX6_round 0 = .ok (.iload_n 1, 1) := by decide +kernel
theorem dX6_round_1 : decode cX6_round 1 = .ok (.invokestatic 148, 3) := by decide +kernel
theorem dX6_round_4 : decode cX6_round 4 = .ok (.ifCond .eq 13, 3) := by decide +kernel
theorem dX6_round_7 : decode cX6_round 7 = .ok (.iload_n 2, 1) := by decide +kernel
theorem dX6_round_8 : decode cX6_round 8 = .ok (.ifCond .lt 9, 3) := by decide +kernel
theorem dX6_round_11 : decode cX6_round 11 = .ok (.iload_n 2, 1) := by decide +kernel
theorem dX6_round_12 : decode cX6_round 12 = .ok (.bipush 8, 2) := by decide +kernel
theorem dX6_round_14 : decode cX6_round 14 = .ok (.if_icmp .lt 5, 3) := by decide +kernel
theorem dX6_round_17 : decode cX6_round 17 = .ok (.iconst (-1), 1) := by decide +kernel
theorem dX6_round_18 : decode cX6_round 18 = .ok (.ireturn, 1) := by decide +kernel
theorem dX6_round_19 : decode cX6_round 19 = .ok (.iconst 0, 1) := by decide +kernel
theorem dX6_round_20 : decode cX6_round 20 = .ok (.istore_n 3, 1) := by decide +kernel
theorem dX6_round_21 : decode cX6_round 21 = .ok (.iconst 0, 1) := by decide +kernel
theorem dX6_round_22 : decode cX6_round 22 = .ok (.istore 4, 2) := by decide +kernel
theorem dX6_round_24 : decode cX6_round 24 = .ok (.iload 4, 2) := by decide +kernel
theorem dX6_round_26 : decode cX6_round 26 = .ok (.iload_n 2, 1) := by decide +kernel
theorem dX6_round_27 : decode cX6_round 27 = .ok (.if_icmp .gt 75, 3) := by decide +kernel
theorem dX6_round_30 : decode cX6_round 30 = .ok (.iload_n 1, 1) := by decide +kernel
theorem dX6_round_31 : decode cX6_round 31 = .ok (.iload 4, 2) := by decide +kernel
theorem dX6_round_33 : decode cX6_round 33 = .ok (.iadd, 1) := by decide +kernel
theorem dX6_round_34 : decode cX6_round 34 = .ok (.ldc 154, 2) := by decide +kernel
theorem dX6_round_36 : decode cX6_round 36 = .ok (.if_icmp .ge 66, 3) := by decide +kernel
theorem dX6_round_39 : decode cX6_round 39 = .ok (.aload_n 0, 1) := by decide +kernel
theorem dX6_round_40 : decode cX6_round 40 = .ok (.getfield 12, 3) := by decide +kernel
theorem dX6_round_43 : decode cX6_round 43 = .ok (.iload_n 1, 1) := by decide +kernel
theorem dX6_round_44 : decode cX6_round 44 = .ok (.iload 4, 2) := by decide +kernel
theorem dX6_round_46 : decode cX6_round 46 = .ok (.iadd, 1) := by decide +kernel
theorem dX6_round_47 : decode cX6_round 47 = .ok (.invokevirtual 183, 3) := by decide +kernel
theorem dX6_round_50 : decode cX6_round 50 = .ok (.aload_n 0, 1) := by decide +kernel
theorem dX6_round_51 : decode cX6_round 51 = .ok (.getfield 12, 3) := by decide +kernel
theorem dX6_round_54 : decode cX6_round 54 = .ok (.getfield 94, 3) := by decide +kernel
theorem dX6_round_57 : decode cX6_round 57 = .ok (.aload_n 0, 1) := by decide +kernel
theorem dX6_round_58 : decode cX6_round 58 = .ok (.getfield 12, 3) := by decide +kernel
theorem dX6_round_61 : decode cX6_round 61 = .ok (.getfield 97, 3) := by decide +kernel
theorem dX6_round_64 : decode cX6_round 64 = .ok (.iload_n 3, 1) := by decide +kernel
theorem dX6_round_65 : decode cX6_round 65 = .ok (.invokevirtual 204, 3) := by decide +kernel
theorem dX6_round_68 : decode cX6_round 68 = .ok (.istore 5, 2) := by decide +kernel
theorem dX6_round_70 : decode cX6_round 70 = .ok (.iload 5, 2) := by decide +kernel
theorem dX6_round_72 : decode cX6_round 72 = .ok (.bipush (-4), 2) := by decide +kernel
theorem dX6_round_74 : decode cX6_round 74 = .ok (.if_icmp .ne 6, 3) := by decide +kernel
theorem dX6_round_77 : decode cX6_round 77 = .ok (.bipush (-4), 2) := by decide +kernel
theorem dX6_round_79 : decode cX6_round 79 = .ok (.ireturn, 1) := by decide +kernel
theorem dX6_round_80 : decode cX6_round 80 = .ok (.iload 4, 2) := by decide +kernel
theorem dX6_round_82 : decode cX6_round 82 = .ok (.iload_n 2, 1) := by decide +kernel
theorem dX6_round_83 : decode cX6_round 83 = .ok (.if_icmp .ne 6, 3) := by decide +kernel
theorem dX6_round_86 : decode cX6_round 86 = .ok (.iload 5, 2) := by decide +kernel
theorem dX6_round_88 : decode cX6_round 88 = .ok (.ireturn, 1) := by decide +kernel
theorem dX6_round_89 : decode cX6_round 89 = .ok (.iload_n 3, 1) := by decide +kernel
theorem dX6_round_90 : decode cX6_round 90 = .ok (.iconst 1, 1) := by decide +kernel
theorem dX6_round_91 : decode cX6_round 91 = .ok (.iload 5, 2) := by decide +kernel
theorem dX6_round_93 : decode cX6_round 93 = .ok (.ishl, 1) := by decide +kernel
theorem dX6_round_94 : decode cX6_round 94 = .ok (.ior, 1) := by decide +kernel
theorem dX6_round_95 : decode cX6_round 95 = .ok (.istore_n 3, 1) := by decide +kernel
theorem dX6_round_96 : decode cX6_round 96 = .ok (.iinc 4 1, 3) := by decide +kernel
theorem dX6_round_99 : decode cX6_round 99 = .ok (.goto (-75), 3) := by decide +kernel
theorem dX6_round_102 : decode cX6_round 102 = .ok (.bipush (-4), 2) := by decide +kernel
theorem dX6_round_104 : decode cX6_round 104 = .ok (.ireturn, 1) := by decide +kernel
set_option maxRecDepth 20000 in
theorem ggX6_want_X5_isHouse : GoodIn wsX6_want wsX5_isHouse := goodIn_r _ [8, 9, 40, 41, 42, 43, 44, 45, 46, 47, 48, 49, 50, 51, 52, 53, 54, 55] (by decide +kernel) (by decide +kernel)
set_option maxRecDepth 20000 in
theorem gX6_want_X5_isHouse : GoodIn wsX6_want (wsV RX6 151 RX5 yX5_isHouse wsX5_isHouse) := goodIn_app (goodIn_of _ (by decide +kernel)) ggX6_want_X5_isHouse
set_option maxRecDepth 20000 in
theorem ggX6_want_X6_isNumber : GoodIn wsX6_want wsX6_isNumber := goodIn_r _ [13] (by decide +kernel) (by decide +kernel)
set_option maxRecDepth 20000 in
theorem gX6_want_X6_isNumber : GoodIn wsX6_want (va_wsS RX6 201 yX6_isNumber wsX6_isNumber) := goodIn_app (goodIn_of _ (by decide +kernel)) ggX6_want_X6_isNumber
set_option maxRecDepth 20000 in
theorem ggX6_want_X4_add : GoodIn wsX6_want wsX4_add := goodIn_r _ [18, 19, 20, 21, 22, 23, 35, 36, 37, 38, 39] (by decide +kernel) (by decide +kernel)
set_option maxRecDepth 20000 in
theorem gX6_want_X4_add : GoodIn wsX6_want (wsV RX6 207 RX4 yX4_add wsX4_add) := goodIn_app (goodIn_of _ (by decide +kernel)) ggX6_want_X4_add
theorem dX6_want_0 : decode cX6_want 0 = .ok (.aload_n 0, 1) := by decide +kernel
theorem dX6_want_1 : decode cX6_want 1 = .ok (.getfield 12, 3) := by decide +kernel
theorem dX6_want_4 : decode cX6_want 4 = .ok (.iload_n 1, 1) := by decide +kernel
theorem dX6_want_5 : decode cX6_want 5 = .ok (.invokevirtual 151, 3) := by decide +kernel
theorem dX6_want_8 : decode cX6_want 8 = .ok (.ifCond .eq 10, 3) := by decide +kernel
theorem dX6_want_11 : decode cX6_want 11 = .ok (.iload_n 2, 1) := by decide +kernel
theorem dX6_want_12 : decode cX6_want 12 = .ok (.invokestatic 201, 3) := by decide +kernel
theorem dX6_want_15 : decode cX6_want 15 = .ok (.ifCond .ne 5, 3) := by decide +kernel
theorem dX6_want_18 : decode cX6_want 18 = .ok (.iconst (-1), 1) := by decide +kernel
theorem dX6_want_19 : decode cX6_want 19 = .ok (.ireturn, 1) := by decide +kernel
theorem dX6_want_20 : decode cX6_want 20 = .ok (.aload_n 0, 1) := by decide +kernel
theorem dX6_want_21 : decode cX6_want 21 = .ok (.getfield 39, 3) := by decide +kernel
theorem dX6_want_24 : decode cX6_want 24 = .ok (.iload_n 1, 1) := by decide +kernel
theorem dX6_want_25 : decode cX6_want 25 = .ok (.iconst 0, 1) := by decide +kernel
theorem dX6_want_26 : decode cX6_want 26 = .ok (.iload_n 2, 1) := by decide +kernel
theorem dX6_want_27 : decode cX6_want 27 = .ok (.invokevirtual 207, 3) := by decide +kernel
theorem dX6_want_30 : decode cX6_want 30 = .ok (.ifCond .eq 13, 3) := by decide +kernel
theorem dX6_want_33 : decode cX6_want 33 = .ok (.aload_n 0, 1) := by decide +kernel
theorem dX6_want_34 : decode cX6_want 34 = .ok (.getfield 39, 3) := by decide +kernel
theorem dX6_want_37 : decode cX6_want 37 = .ok (.getfield 88, 3) := by decide +kernel
theorem dX6_want_40 : decode cX6_want 40 = .ok (.goto 5, 3) := by decide +kernel
theorem dX6_want_43 : decode cX6_want 43 = .ok (.bipush (-3), 2) := by decide +kernel
theorem dX6_want_45 : decode cX6_want 45 = .ok (.ireturn, 1) := by decide +kernel
theorem dX6_content_0 : decode cX6_content 0 = .ok (.aload_n 0, 1) := by decide +kernel
theorem dX6_content_1 : decode cX6_content 1 = .ok (.getfield 39, 3) := by decide +kernel
theorem dX6_content_4 : decode cX6_content 4 = .ok (.getfield 88, 3) := by decide +kernel
theorem dX6_content_7 : decode cX6_content 7 = .ok (.istore_n 1, 1) := by decide +kernel
theorem dX6_content_8 : decode cX6_content 8 = .ok (.aload_n 0, 1) := by decide +kernel
theorem dX6_content_9 : decode cX6_content 9 = .ok (.getfield 39, 3) := by decide +kernel
theorem dX6_content_12 : decode cX6_content 12 = .ok (.iconst 0, 1) := by decide +kernel
theorem dX6_content_13 : decode cX6_content 13 = .ok (.putfield 88, 3) := by decide +kernel
theorem dX6_content_16 : decode cX6_content 16 = .ok (.iload_n 1, 1) := by decide +kernel
theorem dX6_content_17 : decode cX6_content 17 = .ok (.ireturn, 1) := by decide +kernel
set_option maxRecDepth 20000 in
theorem ggX6_fetch_X6_isDay : GoodIn wsX6_fetch wsX6_isDay := goodIn_r _ [7, 8] (by decide +kernel) (by decide +kernel)
set_option maxRecDepth 20000 in
theorem gX6_fetch_X6_isDay : GoodIn wsX6_fetch (va_wsS RX6 148 yX6_isDay wsX6_isDay) := goodIn_app (goodIn_of _ (by decide +kernel)) ggX6_fetch_X6_isDay
set_option maxRecDepth 20000 in
theorem ggX6_fetch_X5_isAuntOn : GoodIn wsX6_fetch wsX5_isAuntOn := goodIn_r _ [13, 14, 15, 16, 17, 12, 18, 19, 20, 21, 22, 23, 24, 25, 131, 132, 133, 134, 135, 136, 137, 138, 139, 140, 141, 142, 143, 144, 145, 146] (by decide +kernel) (by decide +kernel)
set_option maxRecDepth 20000 in
theorem gX6_fetch_X5_isAuntOn : GoodIn wsX6_fetch (wsV RX6 211 RX5 yX5_isAuntOn wsX5_isAuntOn) := goodIn_app (goodIn_of _ (by decide +kernel)) ggX6_fetch_X5_isAuntOn
set_option maxRecDepth 20000 in
theorem ggX6_fetch_X5_auntsOn : GoodIn wsX6_fetch wsX5_auntsOn := goodIn_r _ [29, 19, 30, 10, 11, 12, 13, 14, 15, 16, 17, 18, 20, 21, 22, 23, 24, 25, 131, 132, 133, 134, 135, 136, 137, 138, 139, 140, 141, 142, 143, 144, 145, 146] (by decide +kernel) (by decide +kernel)
set_option maxRecDepth 20000 in
theorem gX6_fetch_X5_auntsOn : GoodIn wsX6_fetch (wsV RX6 214 RX5 yX5_auntsOn wsX5_auntsOn) := goodIn_app (goodIn_of _ (by decide +kernel)) ggX6_fetch_X5_auntsOn
set_option maxRecDepth 20000 in
theorem ggX6_fetch_X0_fewest : GoodIn wsX6_fetch wsX0_fewest := goodIn_r _ [35, 36, 37, 38, 39, 40, 41, 42, 43, 44, 45, 46, 34, 47, 48, 49, 50, 51, 52, 53, 54, 55, 56, 57, 58, 59, 60, 61, 10, 11, 12, 13, 14, 15, 16, 17, 18, 19, 20, 21, 22, 23, 24, 25, 62, 63, 64, 65, 66, 67, 68, 69, 70, 71, 72, 73, 74, 75, 76, 77, 78, 79, 80, 81, 82, 83, 84, 85, 86, 87, 88, 89, 90, 91, 92, 93, 94, 95, 96, 97, 98, 99, 100, 101, 102, 103, 104, 105, 106, 107, 108, 109, 110, 111, 112, 113, 114, 115, 147, 148, 149, 150, 151, 152, 153, 154, 131, 132, 133, 134, 135, 136, 137, 138, 139, 140, 141, 142, 143, 144, 145, 146, 155, 156, 157, 158, 159, 160, 161, 162, 163] (by decide +kernel) (by decide +kernel)
set_option maxRecDepth 20000 in
theorem gX6_fetch_X0_fewest : GoodIn wsX6_fetch (wsV RX6 217 RX0 yX0_fewest wsX0_fewest) := goodIn_app (goodIn_of _ (by decide +kernel)) ggX6_fetch_X0_fewest
set_option maxRecDepth 20000 in
theorem ggX6_fetch_X0_houseFor : GoodIn wsX6_fetch wsX0_houseFor := goodIn_r _ [119, 36, 50, 39, 147, 148, 149, 150, 151, 152, 153, 154] (by decide +kernel) (by decide +kernel)
set_option maxRecDepth 20000 in
theorem gX6_fetch_X0_houseFor : GoodIn wsX6_fetch (wsV RX6 221 RX0 yX0_houseFor wsX0_houseFor) := goodIn_app (goodIn_of _ (by decide +kernel)) ggX6_fetch_X0_houseFor
theorem dX6_fetch_0 : decode cX6_fetch 0 = .ok (.iload_n 3, 1) := by decide +kernel
theorem dX6_fetch_1 : decode cX6_fetch 1 = .ok (.bipush 10, 2) := by decide +kernel
theorem dX6_fetch_3 : decode cX6_fetch 3 = .ok (.isub, 1) := by decide +kernel
theorem dX6_fetch_4 : decode cX6_fetch 4 = .ok (.istore 4, 2) := by decide +kernel
theorem dX6_fetch_6 : decode cX6_fetch 6 = .ok (.iload_n 1, 1) := by decide +kernel
theorem dX6_fetch_7 : decode cX6_fetch 7 = .ok (.invokestatic 148, 3) := by decide +kernel
theorem dX6_fetch_10 : decode cX6_fetch 10 = .ok (.ifCond .eq 20, 3) := by decide +kernel
theorem dX6_fetch_13 : decode cX6_fetch 13 = .ok (.iload_n 3, 1) := by decide +kernel
theorem dX6_fetch_14 : decode cX6_fetch 14 = .ok (.ifCond .eq 18, 3) := by decide +kernel
theorem dX6_fetch_17 : decode cX6_fetch 17 = .ok (.aload_n 0, 1) := by decide +kernel
theorem dX6_fetch_18 : decode cX6_fetch 18 = .ok (.getfield 12, 3) := by decide +kernel
theorem dX6_fetch_21 : decode cX6_fetch 21 = .ok (.iload 4, 2) := by decide +kernel
theorem dX6_fetch_23 : decode cX6_fetch 23 = .ok (.iload_n 1, 1) := by decide +kernel
theorem dX6_fetch_24 : decode cX6_fetch 24 = .ok (.invokevirtual 211, 3) := by decide +kernel
theorem dX6_fetch_27 : decode cX6_fetch 27 = .ok (.ifCond .ne 5, 3) := by decide +kernel
theorem dX6_fetch_30 : decode cX6_fetch 30 = .ok (.iconst (-1), 1) := by decide +kernel
theorem dX6_fetch_31 : decode cX6_fetch 31 = .ok (.ireturn, 1) := by decide +kernel
theorem dX6_fetch_32 : decode cX6_fetch 32 = .ok (.aload_n 0, 1) := by decide +kernel
theorem dX6_fetch_33 : decode cX6_fetch 33 = .ok (.getfield 12, 3) := by decide +kernel
theorem dX6_fetch_36 : decode cX6_fetch 36 = .ok (.iload_n 1, 1) := by decide +kernel
theorem dX6_fetch_37 : decode cX6_fetch 37 = .ok (.invokevirtual 214, 3) := by decide +kernel
theorem dX6_fetch_40 : decode cX6_fetch 40 = .ok (.iconst 4, 1) := by decide +kernel
theorem dX6_fetch_41 : decode cX6_fetch 41 = .ok (.if_icmp .le 6, 3) := by decide +kernel
theorem dX6_fetch_44 : decode cX6_fetch 44 = .ok (.bipush (-2), 2) := by decide +kernel
theorem dX6_fetch_46 : decode cX6_fetch 46 = .ok (.ireturn, 1) := by decide +kernel
theorem dX6_fetch_47 : decode cX6_fetch 47 = .ok (.aload_n 0, 1) := by decide +kernel
theorem dX6_fetch_48 : decode cX6_fetch 48 = .ok (.getfield 49, 3) := by decide +kernel
theorem dX6_fetch_51 : decode cX6_fetch 51 = .ok (.aload_n 0, 1) := by decide +kernel
theorem dX6_fetch_52 : decode cX6_fetch 52 = .ok (.getfield 12, 3) := by decide +kernel
theorem dX6_fetch_55 : decode cX6_fetch 55 = .ok (.iload_n 1, 1) := by decide +kernel
theorem dX6_fetch_56 : decode cX6_fetch 56 = .ok (.aload_n 0, 1) := by decide +kernel
theorem dX6_fetch_57 : decode cX6_fetch 57 = .ok (.getfield 39, 3) := by decide +kernel
theorem dX6_fetch_60 : decode cX6_fetch 60 = .ok (.iload_n 2, 1) := by decide +kernel
theorem dX6_fetch_61 : decode cX6_fetch 61 = .ok (.invokevirtual 217, 3) := by decide +kernel
theorem dX6_fetch_64 : decode cX6_fetch 64 = .ok (.istore 5, 2) := by decide +kernel
theorem dX6_fetch_66 : decode cX6_fetch 66 = .ok (.iload 5, 2) := by decide +kernel
theorem dX6_fetch_68 : decode cX6_fetch 68 = .ok (.bipush (-4), 2) := by decide +kernel
theorem dX6_fetch_70 : decode cX6_fetch 70 = .ok (.if_icmp .eq 7, 3) := by decide +kernel
theorem dX6_fetch_73 : decode cX6_fetch 73 = .ok (.iload_n 3, 1) := by decide +kernel
theorem dX6_fetch_74 : decode cX6_fetch 74 = .ok (.ifCond .ne 6, 3) := by decide +kernel
theorem dX6_fetch_77 : decode cX6_fetch 77 = .ok (.iload 5, 2) := by decide +kernel
theorem dX6_fetch_79 : decode cX6_fetch 79 = .ok (.ireturn, 1) := by decide +kernel
theorem dX6_fetch_80 : decode cX6_fetch 80 = .ok (.aload_n 0, 1) := by decide +kernel
theorem dX6_fetch_81 : decode cX6_fetch 81 = .ok (.getfield 49, 3) := by decide +kernel
theorem dX6_fetch_84 : decode cX6_fetch 84 = .ok (.iload 4, 2) := by decide +kernel
theorem dX6_fetch_86 : decode cX6_fetch 86 = .ok (.invokevirtual 221, 3) := by decide +kernel
theorem dX6_fetch_89 : decode cX6_fetch 89 = .ok (.ireturn, 1) := by decide +kernel
set_option maxRecDepth 20000 in
theorem ggX6_expect_X5_isHouse : GoodIn wsX6_expect wsX5_isHouse := goodIn_r _ [7, 8, 33, 34, 35, 36, 37, 38, 39, 40, 41, 42, 43, 44, 45, 46, 47, 48] (by decide +kernel) (by decide +kernel)
set_option maxRecDepth 20000 in
theorem gX6_expect_X5_isHouse : GoodIn wsX6_expect (wsV RX6 151 RX5 yX5_isHouse wsX5_isHouse) := goodIn_app (goodIn_of _ (by decide +kernel)) ggX6_expect_X5_isHouse
set_option maxRecDepth 20000 in
theorem ggX6_expect_X6_isDay : GoodIn wsX6_expect wsX6_isDay := goodIn_r _ [12, 13] (by decide +kernel) (by decide +kernel)
set_option maxRecDepth 20000 in
theorem gX6_expect_X6_isDay : GoodIn wsX6_expect (va_wsS RX6 148 yX6_isDay wsX6_isDay) := goodIn_app (goodIn_of _ (by decide +kernel)) ggX6_expect_X6_isDay
set_option maxRecDepth 20000 in
theorem ggX6_expect_X5_addBirth : GoodIn wsX6_expect wsX5_addBirth := goodIn_r _ [17, 18, 19, 20, 21, 33, 34, 35, 36, 37, 38, 39, 40, 41, 42, 43, 44, 45, 46, 47, 48] (by decide +kernel) (by decide +kernel)
set_option maxRecDepth 20000 in
theorem gX6_expect_X5_addBirth : GoodIn wsX6_expect (wsV RX6 224 RX5 yX5_addBirth wsX5_addBirth) := goodIn_app (goodIn_of _ (by decide +kernel)) ggX6_expect_X5_addBirth
theorem dX6_expect_0 : decode cX6_expect 0 = .ok (.aload_n 0, 1) := by decide +kernel
theorem dX6_expect_1 : decode cX6_expect 1 = .ok (.getfield 12, 3) := by decide +kernel
theorem dX6_expect_4 : decode cX6_expect 4 = .ok (.iload_n 1, 1) := by decide +kernel
theorem dX6_expect_5 : decode cX6_expect 5 = .ok (.invokevirtual 151, 3) := by decide +kernel
theorem dX6_expect_8 : decode cX6_expect 8 = .ok (.ifCond .eq 22, 3) := by decide +kernel
theorem dX6_expect_11 : decode cX6_expect 11 = .ok (.iload_n 2, 1) := by decide +kernel
theorem dX6_expect_12 : decode cX6_expect 12 = .ok (.invokestatic 148, 3) := by decide +kernel
theorem dX6_expect_15 : decode cX6_expect 15 = .ok (.ifCond .eq 15, 3) := by decide +kernel
theorem dX6_expect_18 : decode cX6_expect 18 = .ok (.iload_n 3, 1) := by decide +kernel
theorem dX6_expect_19 : decode cX6_expect 19 = .ok (.invokestatic 148, 3) := by decide +kernel
theorem dX6_expect_22 : decode cX6_expect 22 = .ok (.ifCond .eq 8, 3) := by decide +kernel
theorem dX6_expect_25 : decode cX6_expect 25 = .ok (.iload_n 3, 1) := by decide +kernel
theorem dX6_expect_26 : decode cX6_expect 26 = .ok (.iload_n 2, 1) := by decide +kernel
theorem dX6_expect_27 : decode cX6_expect 27 = .ok (.if_icmp .ge 5, 3) := by decide +kernel
theorem dX6_expect_30 : decode cX6_expect 30 = .ok (.iconst (-1), 1) := by decide +kernel
theorem dX6_expect_31 : decode cX6_expect 31 = .ok (.ireturn, 1) := by decide +kernel
theorem dX6_expect_32 : decode cX6_expect 32 = .ok (.aload_n 0, 1) := by decide +kernel
theorem dX6_expect_33 : decode cX6_expect 33 = .ok (.getfield 12, 3) := by decide +kernel
theorem dX6_expect_36 : decode cX6_expect 36 = .ok (.getfield 106, 3) := by decide +kernel
theorem dX6_expect_39 : decode cX6_expect 39 = .ok (.iconst 4, 1) := by decide +kernel
theorem dX6_expect_40 : decode cX6_expect 40 = .ok (.if_icmp .lt 6, 3) := by decide +kernel
theorem dX6_expect_43 : decode cX6_expect 43 = .ok (.bipush (-3), 2) := by decide +kernel
theorem dX6_expect_45 : decode cX6_expect 45 = .ok (.ireturn, 1) := by decide +kernel
theorem dX6_expect_46 : decode cX6_expect 46 = .ok (.aload_n 0, 1) := by decide +kernel
theorem dX6_expect_47 : decode cX6_expect 47 = .ok (.getfield 12, 3) := by decide +kernel
theorem dX6_expect_50 : decode cX6_expect 50 = .ok (.iload_n 1, 1) := by decide +kernel
theorem dX6_expect_51 : decode cX6_expect 51 = .ok (.iload_n 2, 1) := by decide +kernel
theorem dX6_expect_52 : decode cX6_expect 52 = .ok (.iload_n 3, 1) := by decide +kernel
theorem dX6_expect_53 : decode cX6_expect 53 = .ok (.invokevirtual 224, 3) := by decide +kernel
theorem dX6_expect_56 : decode cX6_expect 56 = .ok (.aload_n 0, 1) := by decide +kernel
theorem dX6_expect_57 : decode cX6_expect 57 = .ok (.getfield 12, 3) := by decide +kernel
theorem dX6_expect_60 : decode cX6_expect 60 = .ok (.getfield 106, 3) := by decide +kernel
theorem dX6_expect_63 : decode cX6_expect 63 = .ok (.ireturn, 1) := by decide +kernel
set_option maxRecDepth 20000 in
theorem ggX6_can_X5_isHouse : GoodIn wsX6_can wsX5_isHouse := goodIn_r _ [14, 15, 109, 110, 111, 112, 113, 114, 115, 116, 117, 118, 119, 120, 121, 122, 123, 124] (by decide +kernel) (by decide +kernel)
set_option maxRecDepth 20000 in
theorem gX6_can_X5_isHouse : GoodIn wsX6_can (wsV RX6 151 RX5 yX5_isHouse wsX5_isHouse) := goodIn_app (goodIn_of _ (by decide +kernel)) ggX6_can_X5_isHouse
set_option maxRecDepth 20000 in
theorem ggX6_can_X6_isDay : GoodIn wsX6_can wsX6_isDay := goodIn_r _ [19, 20] (by decide +kernel) (by decide +kernel)
set_option maxRecDepth 20000 in
theorem gX6_can_X6_isDay : GoodIn wsX6_can (va_wsS RX6 148 yX6_isDay wsX6_isDay) := goodIn_app (goodIn_of _ (by decide +kernel)) ggX6_can_X6_isDay
set_option maxRecDepth 20000 in
theorem ggX6_can_X5_copyOf : GoodIn wsX6_can wsX5_copyOf := goodIn_r _ [24, 15, 25, 26, 27, 28, 29, 30, 31, 32, 33, 34, 35, 36, 37, 38, 39, 40, 41, 42, 109, 110, 111, 112, 113, 114, 115, 116, 117, 118, 119, 120, 121, 122, 123, 124] (by decide +kernel) (by decide +kernel)
set_option maxRecDepth 20000 in
theorem gX6_can_X5_copyOf : GoodIn wsX6_can (wsV RX6 84 RX5 yX5_copyOf wsX5_copyOf) := goodIn_app (goodIn_of _ (by decide +kernel)) ggX6_can_X5_copyOf
set_option maxRecDepth 20000 in
theorem ggX6_can_X5_bearExpected : GoodIn wsX6_can wsX5_bearExpected := goodIn_r _ [46, 28, 40, 41, 47, 48, 49, 50, 13, 51, 26, 29, 34, 35, 36, 109, 110, 111, 112, 113, 114, 115, 116, 117, 118, 119, 120, 121, 122, 123, 124] (by decide +kernel) (by decide +kernel)
set_option maxRecDepth 20000 in
theorem gX6_can_X5_bearExpected : GoodIn wsX6_can (wsV RX6 228 RX5 yX5_bearExpected wsX5_bearExpected) := goodIn_app (goodIn_of _ (by decide +kernel)) ggX6_can_X5_bearExpected
set_option maxRecDepth 20000 in
theorem ggX6_can_X5_chooseBirths : GoodIn wsX6_can wsX5_chooseBirths := goodIn_r _ [55, 26, 28, 40, 41, 42, 56, 4, 5, 6, 57, 8, 9, 34, 109, 110, 111, 112, 113, 114, 115, 116, 117, 118, 119, 120, 121, 122, 123, 124] (by decide +kernel) (by decide +kernel)
set_option maxRecDepth 20000 in
theorem gX6_can_X5_chooseBirths : GoodIn wsX6_can (wsV RX6 231 RX5 yX5_chooseBirths wsX5_chooseBirths) := goodIn_app (goodIn_of _ (by decide +kernel)) ggX6_can_X5_chooseBirths
set_option maxRecDepth 20000 in
theorem ggX6_can_X5_numberOf : GoodIn wsX6_can wsX5_numberOf := goodIn_r _ [61, 25, 62, 63, 64, 13, 65, 66, 26, 29, 67, 68, 69, 70, 71, 72, 73, 74, 75, 76, 77, 34, 36, 78, 79, 80, 81, 27, 38, 37, 39, 35, 82, 83, 84, 85, 86, 87, 88, 89, 90, 8, 5, 9, 91, 92, 93, 4, 6, 94, 95, 96, 97, 109, 110, 111, 112, 113, 114, 115, 116, 117, 118, 119, 120, 121, 122, 123, 124, 125, 126, 127, 128] (by decide +kernel) (by decide +kernel)
set_option maxRecDepth 20000 in
theorem gX6_can_X5_numberOf : GoodIn wsX6_can (wsV RX6 177 RX5 yX5_numberOf wsX5_numberOf) := goodIn_app (goodIn_of _ (by decide +kernel)) ggX6_can_X5_numberOf
theorem dX6_can_0 : decode cX6_can 0 = .ok (.aload_n 0, 1) := by decide +kernel
theorem dX6_can_1 : decode cX6_can 1 = .ok (.getfield 12, 3) := by decide +kernel
theorem dX6_can_4 : decode cX6_can 4 = .ok (.iload_n 1, 1) := by decide +kernel
theorem dX6_can_5 : decode cX6_can 5 = .ok (.invokevirtual 151, 3) := by decide +kernel
theorem dX6_can_8 : decode cX6_can 8 = .ok (.ifCond .eq 19, 3) := by decide +kernel
theorem dX6_can_11 : decode cX6_can 11 = .ok (.iload_n 2, 1) := by decide +kernel
theorem dX6_can_12 : decode cX6_can 12 = .ok (.invokestatic 148, 3) := by decide +kernel
theorem dX6_can_15 : decode cX6_can 15 = .ok (.ifCond .eq 12, 3) := by decide +kernel
theorem dX6_can_18 : decode cX6_can 18 = .ok (.iload_n 3, 1) := by decide +kernel
theorem dX6_can_19 : decode cX6_can 19 = .ok (.ifCond .lt 8, 3) := by decide +kernel
theorem dX6_can_22 : decode cX6_can 22 = .ok (.iload_n 3, 1) := by decide +kernel
theorem dX6_can_23 : decode cX6_can 23 = .ok (.iconst 2, 1) := by decide +kernel
theorem dX6_can_24 : decode cX6_can 24 = .ok (.if_icmp .le 5, 3) := by decide +kernel
theorem dX6_can_27 : decode cX6_can 27 = .ok (.iconst (-1), 1) := by decide +kernel
theorem dX6_can_28 : decode cX6_can 28 = .ok (.ireturn, 1) := by decide +kernel
theorem dX6_can_29 : decode cX6_can 29 = .ok (.aload_n 0, 1) := by decide +kernel
theorem dX6_can_30 : decode cX6_can 30 = .ok (.getfield 16, 3) := by decide +kernel
theorem dX6_can_33 : decode cX6_can 33 = .ok (.aload_n 0, 1) := by decide +kernel
theorem dX6_can_34 : decode cX6_can 34 = .ok (.getfield 12, 3) := by decide +kernel
theorem dX6_can_37 : decode cX6_can 37 = .ok (.invokevirtual 84, 3) := by decide +kernel
theorem dX6_can_40 : decode cX6_can 40 = .ok (.aload_n 0, 1) := by decide +kernel
theorem dX6_can_41 : decode cX6_can 41 = .ok (.getfield 16, 3) := by decide +kernel
theorem dX6_can_44 : decode cX6_can 44 = .ok (.iload_n 1, 1) := by decide +kernel
theorem dX6_can_45 : decode cX6_can 45 = .ok (.invokevirtual 228, 3) := by decide +kernel
theorem dX6_can_48 : decode cX6_can 48 = .ok (.istore 4, 2) := by decide +kernel
theorem dX6_can_50 : decode cX6_can 50 = .ok (.bipush (-4), 2) := by decide +kernel
theorem dX6_can_52 : decode cX6_can 52 = .ok (.istore 5, 2) := by decide +kernel
theorem dX6_can_54 : decode cX6_can 54 = .ok (.bipush (-4), 2) := by decide +kernel
theorem dX6_can_56 : decode cX6_can 56 = .ok (.istore 6, 2) := by decide +kernel
theorem dX6_can_58 : decode cX6_can 58 = .ok (.iconst 0, 1) := by decide +kernel
theorem dX6_can_59 : decode cX6_can 59 = .ok (.istore 7, 2) := by decide +kernel
theorem dX6_can_61 : decode cX6_can 61 = .ok (.iconst 0, 1) := by decide +kernel
theorem dX6_can_62 : decode cX6_can 62 = .ok (.istore 8, 2) := by decide +kernel
theorem dX6_can_64 : decode cX6_can 64 = .ok (.iload 8, 2) := by decide +kernel
theorem dX6_can_66 : decode cX6_can 66 = .ok (.iload 4, 2) := by decide +kernel
theorem dX6_can_68 : decode cX6_can 68 = .ok (.if_icmp .ge 78, 3) := by decide +kernel
theorem dX6_can_71 : decode cX6_can 71 = .ok (.aload_n 0, 1) := by decide +kernel
theorem dX6_can_72 : decode cX6_can 72 = .ok (.getfield 16, 3) := by decide +kernel
theorem dX6_can_75 : decode cX6_can 75 = .ok (.aload_n 0, 1) := by decide +kernel
theorem dX6_can_76 : decode cX6_can 76 = .ok (.getfield 12, 3) := by decide +kernel
theorem dX6_can_79 : decode cX6_can 79 = .ok (.iload_n 1, 1) := by decide +kernel
theorem dX6_can_80 : decode cX6_can 80 = .ok (.iload_n 2, 1) := by decide +kernel
theorem dX6_can_81 : decode cX6_can 81 = .ok (.iload 8, 2) := by decide +kernel
theorem dX6_can_83 : decode cX6_can 83 = .ok (.invokevirtual 231, 3) := by decide +kernel
theorem dX6_can_86 : decode cX6_can 86 = .ok (.aload_n 0, 1) := by decide +kernel
theorem dX6_can_87 : decode cX6_can 87 = .ok (.getfield 16, 3) := by decide +kernel
theorem dX6_can_90 : decode cX6_can 90 = .ok (.iload_n 1, 1) := by decide +kernel
theorem dX6_can_91 : decode cX6_can 91 = .ok (.iload_n 2, 1) := by decide +kernel
theorem dX6_can_92 : decode cX6_can 92 = .ok (.invokevirtual 177, 3) := by decide +kernel
theorem dX6_can_95 : decode cX6_can 95 = .ok (.istore 9, 2) := by decide +kernel
theorem dX6_can_97 : decode cX6_can 97 = .ok (.iload 9, 2) := by decide +kernel
theorem dX6_can_99 : decode cX6_can 99 = .ok (.bipush (-4), 2) := by decide +kernel
theorem dX6_can_101 : decode cX6_can 101 = .ok (.if_icmp .ne 9, 3) := by decide +kernel
theorem dX6_can_104 : decode cX6_can 104 = .ok (.iconst 1, 1) := by decide +kernel
theorem dX6_can_105 : decode cX6_can 105 = .ok (.istore 7, 2) := by decide +kernel
theorem dX6_can_107 : decode cX6_can 107 = .ok (.goto 33, 3) := by decide +kernel
theorem dX6_can_110 : decode cX6_can 110 = .ok (.iload 5, 2) := by decide +kernel
theorem dX6_can_112 : decode cX6_can 112 = .ok (.bipush (-4), 2) := by decide +kernel
theorem dX6_can_114 : decode cX6_can 114 = .ok (.if_icmp .ne 8, 3) := by decide +kernel
theorem dX6_can_117 : decode cX6_can 117 = .ok (.iload 9, 2) := by decide +kernel
theorem dX6_can_119 : decode cX6_can 119 = .ok (.goto 10, 3) := by decide +kernel
theorem dX6_can_122 : decode cX6_can 122 = .ok (.iload 5, 2) := by decide +kernel
theorem dX6_can_124 : decode cX6_can 124 = .ok (.iload 9, 2) := by decide +kernel
theorem dX6_can_126 : decode cX6_can 126 = .ok (.invokestatic 235, 3) := by decide +kernel
theorem dX6_can_129 : decode cX6_can 129 = .ok (.istore 5, 2) := by decide +kernel
theorem dX6_can_131 : decode cX6_can 131 = .ok (.iload 6, 2) := by decide +kernel
theorem dX6_can_133 : decode cX6_can 133 = .ok (.iload 9, 2) := by decide +kernel
theorem dX6_can_135 : decode cX6_can 135 = .ok (.invokestatic 240, 3) := by decide +kernel
theorem dX6_can_138 : decode cX6_can 138 = .ok (.istore 6, 2) := by decide +kernel
theorem dX6_can_140 : decode cX6_can 140 = .ok (.iinc 8 1, 3) := by decide +kernel
theorem dX6_can_143 : decode cX6_can 143 = .ok (.goto (-79), 3) := by decide +kernel
theorem dX6_can_146 : decode cX6_can 146 = .ok (.iload_n 3, 1) := by decide +kernel
theorem dX6_can_147 : decode cX6_can 147 = .ok (.iconst 2, 1) := by decide +kernel
theorem dX6_can_148 : decode cX6_can 148 = .ok (.if_icmp .ne 6, 3) := by decide +kernel
theorem dX6_can_151 : decode cX6_can 151 = .ok (.iload 7, 2) := by decide +kernel
theorem dX6_can_153 : decode cX6_can 153 = .ok (.ireturn, 1) := by decide +kernel
theorem dX6_can_154 : decode cX6_can 154 = .ok (.iload_n 3, 1) := by decide +kernel
theorem dX6_can_155 : decode cX6_can 155 = .ok (.ifCond .ne 8, 3) := by decide +kernel
theorem dX6_can_158 : decode cX6_can 158 = .ok (.iload 5, 2) := by decide +kernel
theorem dX6_can_160 : decode cX6_can 160 = .ok (.goto 5, 3) := by decide +kernel
theorem dX6_can_163 : decode cX6_can 163 = .ok (.iload 6, 2) := by decide +kernel
theorem dX6_can_165 : decode cX6_can 165 = .ok (.ireturn, 1) := by decide +kernel
set_option maxRecDepth 20000 in
theorem ggX6_see_X5_isHouse : GoodIn wsX6_see wsX5_isHouse := goodIn_r _ [8, 9, 44, 45, 46, 47, 48, 49, 50, 51, 52, 53, 54, 55, 56, 57, 58, 59] (by decide +kernel) (by decide +kernel)
set_option maxRecDepth 20000 in
theorem gX6_see_X5_isHouse : GoodIn wsX6_see (wsV RX6 151 RX5 yX5_isHouse wsX5_isHouse) := goodIn_app (goodIn_of _ (by decide +kernel)) ggX6_see_X5_isHouse
set_option maxRecDepth 20000 in
theorem ggX6_see_X6_isDay : GoodIn wsX6_see wsX6_isDay := goodIn_r _ [13, 14] (by decide +kernel) (by decide +kernel)
set_option maxRecDepth 20000 in
theorem gX6_see_X6_isDay : GoodIn wsX6_see (va_wsS RX6 148 yX6_isDay wsX6_isDay) := goodIn_app (goodIn_of _ (by decide +kernel)) ggX6_see_X6_isDay
set_option maxRecDepth 20000 in
theorem ggX6_see_X6_isNumber : GoodIn wsX6_see wsX6_isNumber := goodIn_r _ [17] (by decide +kernel) (by decide +kernel)
set_option maxRecDepth 20000 in
theorem gX6_see_X6_isNumber : GoodIn wsX6_see (va_wsS RX6 201 yX6_isNumber wsX6_isNumber) := goodIn_app (goodIn_of _ (by decide +kernel)) ggX6_see_X6_isNumber
set_option maxRecDepth 20000 in
theorem ggX6_see_X4_add : GoodIn wsX6_see wsX4_add := goodIn_r _ [22, 23, 24, 25, 26, 27, 39, 40, 41, 42, 43] (by decide +kernel) (by decide +kernel)
set_option maxRecDepth 20000 in
theorem gX6_see_X4_add : GoodIn wsX6_see (wsV RX6 207 RX4 yX4_add wsX4_add) := goodIn_app (goodIn_of _ (by decide +kernel)) ggX6_see_X4_add
theorem dX6_see_0 : decode cX6_see 0 = .ok (.aload_n 0, 1) := by decide +kernel
theorem dX6_see_1 : decode cX6_see 1 = .ok (.getfield 12, 3) := by decide +kernel
theorem dX6_see_4 : decode cX6_see 4 = .ok (.iload_n 1, 1) := by decide +kernel
theorem dX6_see_5 : decode cX6_see 5 = .ok (.invokevirtual 151, 3) := by decide +kernel
theorem dX6_see_8 : decode cX6_see 8 = .ok (.ifCond .eq 17, 3) := by decide +kernel
theorem dX6_see_11 : decode cX6_see 11 = .ok (.iload_n 2, 1) := by decide +kernel
theorem dX6_see_12 : decode cX6_see 12 = .ok (.invokestatic 148, 3) := by decide +kernel
theorem dX6_see_15 : decode cX6_see 15 = .ok (.ifCond .eq 10, 3) := by decide +kernel
theorem dX6_see_18 : decode cX6_see 18 = .ok (.iload_n 3, 1) := by decide +kernel
theorem dX6_see_19 : decode cX6_see 19 = .ok (.invokestatic 201, 3) := by decide +kernel
theorem dX6_see_22 : decode cX6_see 22 = .ok (.ifCond .ne 5, 3) := by decide +kernel
theorem dX6_see_25 : decode cX6_see 25 = .ok (.iconst (-1), 1) := by decide +kernel
theorem dX6_see_26 : decode cX6_see 26 = .ok (.ireturn, 1) := by decide +kernel
theorem dX6_see_27 : decode cX6_see 27 = .ok (.aload_n 0, 1) := by decide +kernel
theorem dX6_see_28 : decode cX6_see 28 = .ok (.getfield 43, 3) := by decide +kernel
theorem dX6_see_31 : decode cX6_see 31 = .ok (.iload_n 1, 1) := by decide +kernel
theorem dX6_see_32 : decode cX6_see 32 = .ok (.iload_n 2, 1) := by decide +kernel
theorem dX6_see_33 : decode cX6_see 33 = .ok (.iload_n 3, 1) := by decide +kernel
theorem dX6_see_34 : decode cX6_see 34 = .ok (.invokevirtual 207, 3) := by decide +kernel
theorem dX6_see_37 : decode cX6_see 37 = .ok (.ifCond .eq 13, 3) := by decide +kernel
theorem dX6_see_40 : decode cX6_see 40 = .ok (.aload_n 0, 1) := by decide +kernel
theorem dX6_see_41 : decode cX6_see 41 = .ok (.getfield 43, 3) := by decide +kernel
theorem dX6_see_44 : decode cX6_see 44 = .ok (.getfield 88, 3) := by decide +kernel
theorem dX6_see_47 : decode cX6_see 47 = .ok (.goto 5, 3) := by decide +kernel
theorem dX6_see_50 : decode cX6_see 50 = .ok (.bipush (-3), 2) := by decide +kernel
theorem dX6_see_52 : decode cX6_see 52 = .ok (.ireturn, 1) := by decide +kernel
theorem dX6_forget_0 : decode cX6_forget 0 = .ok (.iload_n 1, 1) := by decide +kernel
theorem dX6_forget_1 : decode cX6_forget 1 = .ok (.ifCond .lt 14, 3) := by decide +kernel
theorem dX6_forget_4 : decode cX6_forget 4 = .ok (.iload_n 1, 1) := by decide +kernel
theorem dX6_forget_5 : decode cX6_forget 5 = .ok (.aload_n 0, 1) := by decide +kernel
theorem dX6_forget_6 : decode cX6_forget 6 = .ok (.getfield 43, 3) := by decide +kernel
theorem dX6_forget_9 : decode cX6_forget 9 = .ok (.getfield 88, 3) := by decide +kernel
theorem dX6_forget_12 : decode cX6_forget 12 = .ok (.if_icmp .le 5, 3) := by decide +kernel
theorem dX6_forget_15 : decode cX6_forget 15 = .ok (.iconst (-1), 1) := by decide +kernel
theorem dX6_forget_16 : decode cX6_forget 16 = .ok (.ireturn, 1) := by decide +kernel
theorem dX6_forget_17 : decode cX6_forget 17 = .ok (.aload_n 0, 1) := by decide +kernel
theorem dX6_forget_18 : decode cX6_forget 18 = .ok (.getfield 43, 3) := by decide +kernel
theorem dX6_forget_21 : decode cX6_forget 21 = .ok (.getfield 88, 3) := by decide +kernel
theorem dX6_forget_24 : decode cX6_forget 24 = .ok (.istore_n 2, 1) := by decide +kernel
theorem dX6_forget_25 : decode cX6_forget 25 = .ok (.aload_n 0, 1) := by decide +kernel
theorem dX6_forget_26 : decode cX6_forget 26 = .ok (.getfield 43, 3) := by decide +kernel
theorem dX6_forget_29 : decode cX6_forget 29 = .ok (.iload_n 1, 1) := by decide +kernel
theorem dX6_forget_30 : decode cX6_forget 30 = .ok (.putfield 88, 3) := by decide +kernel
theorem dX6_forget_33 : decode cX6_forget 33 = .ok (.iload_n 2, 1) := by decide +kernel
theorem dX6_forget_34 : decode cX6_forget 34 = .ok (.ireturn, 1) := by decide +kernel
set_option maxRecDepth 20000 in
theorem ggX6_lie_X4_firstLie : GoodIn wsX6_lie wsX4_firstLie := goodIn_r _ [7, 8, 9, 10, 11, 12, 13, 14, 15, 16, 17, 18, 19, 20, 21, 22, 23, 24, 25, 26, 27, 28, 29, 30, 31, 32, 33, 34, 35, 36, 37, 38, 39, 40, 41, 42, 43, 44, 45, 46, 47, 48, 49, 50, 51, 52, 53, 54, 55, 56, 57, 58, 59, 60, 61, 62, 63, 64, 65, 66, 67, 79, 80, 81, 82, 83, 84, 85, 86, 87, 88, 89, 90, 91, 92, 93, 94, 95, 96, 97, 98, 99, 100, 101, 102, 103] (by decide +kernel) (by decide +kernel)
set_option maxRecDepth 20000 in
theorem gX6_lie_X4_firstLie : GoodIn wsX6_lie (wsV RX6 243 RX4 yX4_firstLie wsX4_firstLie) := goodIn_app (goodIn_of _ (by decide +kernel)) ggX6_lie_X4_firstLie
theorem dX6_lie_0 : decode cX6_lie 0 = .ok (.aload_n 0, 1) := by decide +kernel
theorem dX6_lie_1 : decode cX6_lie 1 = .ok (.getfield 43, 3) := by decide +kernel
theorem dX6_lie_4 : decode cX6_lie 4 = .ok (.aload_n 0, 1) := by decide +kernel
theorem dX6_lie_5 : decode cX6_lie 5 = .ok (.getfield 12, 3) := by decide +kernel
theorem dX6_lie_8 : decode cX6_lie 8 = .ok (.invokevirtual 243, 3) := by decide +kernel
theorem dX6_lie_11 : decode cX6_lie 11 = .ok (.ireturn, 1) := by decide +kernel
set_option maxRecDepth 20000 in
theorem ggX6_born_X5_isOne : GoodIn wsX6_born wsX5_isOne := goodIn_r _ [10, 11, 99, 100, 101, 102, 103, 104, 105, 106, 107, 108, 109, 110, 111, 112, 113, 114] (by decide +kernel) (by decide +kernel)
set_option maxRecDepth 20000 in
theorem gX6_born_X5_isOne : GoodIn wsX6_born (wsV RX6 109 RX5 yX5_isOne wsX5_isOne) := goodIn_app (goodIn_of _ (by decide +kernel)) ggX6_born_X5_isOne
set_option maxRecDepth 20000 in
theorem ggX6_born_X5_copyOf : GoodIn wsX6_born wsX5_copyOf := goodIn_r _ [15, 16, 17, 11, 18, 19, 20, 21, 22, 23, 24, 25, 26, 27, 28, 29, 30, 31, 32, 33, 99, 100, 101, 102, 103, 104, 105, 106, 107, 108, 109, 110, 111, 112, 113, 114] (by decide +kernel) (by decide +kernel)
set_option maxRecDepth 20000 in
theorem gX6_born_X5_copyOf : GoodIn wsX6_born (wsV RX6 84 RX5 yX5_copyOf wsX5_copyOf) := goodIn_app (goodIn_of _ (by decide +kernel)) ggX6_born_X5_copyOf
set_option maxRecDepth 20000 in
theorem ggX6_born_X4_firstLie : GoodIn wsX6_born wsX4_firstLie := goodIn_r _ [38, 39, 40, 41, 42, 43, 44, 45, 9, 46, 17, 47, 48, 49, 50, 51, 11, 20, 52, 53, 54, 55, 56, 57, 58, 59, 60, 61, 62, 25, 27, 63, 64, 65, 66, 18, 29, 28, 30, 26, 67, 68, 69, 70, 71, 72, 73, 74, 75, 76, 77, 78, 79, 80, 81, 82, 83, 84, 85, 86, 87, 115, 116, 117, 118, 119, 99, 100, 101, 102, 103, 104, 105, 106, 107, 108, 109, 110, 111, 112, 113, 114, 120, 121, 122, 123] (by decide +kernel) (by decide +kernel)
set_option maxRecDepth 20000 in
theorem gX6_born_X4_firstLie : GoodIn wsX6_born (wsV RX6 243 RX4 yX4_firstLie wsX4_firstLie) := goodIn_app (goodIn_of _ (by decide +kernel)) ggX6_born_X4_firstLie
theorem dX6_born_0 : decode cX6_born 0 = .ok (.aload_n 0, 1) := by decide +kernel
theorem dX6_born_1 : decode cX6_born 1 = .ok (.getfield 12, 3) := by decide +kernel
theorem dX6_born_4 : decode cX6_born 4 = .ok (.iload_n 1, 1) := by decide +kernel
theorem dX6_born_5 : decode cX6_born 5 = .ok (.invokevirtual 109, 3) := by decide +kernel
theorem dX6_born_8 : decode cX6_born 8 = .ok (.ifCond .eq 12, 3) := by decide +kernel
theorem dX6_born_11 : decode cX6_born 11 = .ok (.iload_n 2, 1) := by decide +kernel
theorem dX6_born_12 : decode cX6_born 12 = .ok (.ifCond .lt 8, 3) := by decide +kernel
theorem dX6_born_15 : decode cX6_born 15 = .ok (.iload_n 2, 1) := by decide +kernel
theorem dX6_born_16 : decode cX6_born 16 = .ok (.iconst 2, 1) := by decide +kernel
theorem dX6_born_17 : decode cX6_born 17 = .ok (.if_icmp .le 5, 3) := by decide +kernel
theorem dX6_born_20 : decode cX6_born 20 = .ok (.iconst (-1), 1) := by decide +kernel
theorem dX6_born_21 : decode cX6_born 21 = .ok (.ireturn, 1) := by decide +kernel
theorem dX6_born_22 : decode cX6_born 22 = .ok (.iconst 0, 1) := by decide +kernel
theorem dX6_born_23 : decode cX6_born 23 = .ok (.istore_n 3, 1) := by decide +kernel
theorem dX6_born_24 : decode cX6_born 24 = .ok (.bipush (-4), 2) := by decide +kernel
theorem dX6_born_26 : decode cX6_born 26 = .ok (.istore 4, 2) := by decide +kernel
theorem dX6_born_28 : decode cX6_born 28 = .ok (.bipush (-4), 2) := by decide +kernel
theorem dX6_born_30 : decode cX6_born 30 = .ok (.istore 5, 2) := by decide +kernel
theorem dX6_born_32 : decode cX6_born 32 = .ok (.aload_n 0, 1) := by decide +kernel
theorem dX6_born_33 : decode cX6_born 33 = .ok (.getfield 16, 3) := by decide +kernel
theorem dX6_born_36 : decode cX6_born 36 = .ok (.aload_n 0, 1) := by decide +kernel
theorem dX6_born_37 : decode cX6_born 37 = .ok (.getfield 12, 3) := by decide +kernel
theorem dX6_born_40 : decode cX6_born 40 = .ok (.invokevirtual 84, 3) := by decide +kernel
theorem dX6_born_43 : decode cX6_born 43 = .ok (.iconst 0, 1) := by decide +kernel
theorem dX6_born_44 : decode cX6_born 44 = .ok (.istore 6, 2) := by decide +kernel
theorem dX6_born_46 : decode cX6_born 46 = .ok (.iload 6, 2) := by decide +kernel
theorem dX6_born_48 : decode cX6_born 48 = .ok (.bipush 100, 2) := by decide +kernel
theorem dX6_born_50 : decode cX6_born 50 = .ok (.if_icmp .ge 98, 3) := by decide +kernel
theorem dX6_born_53 : decode cX6_born 53 = .ok (.aload_n 0, 1) := by decide +kernel
theorem dX6_born_54 : decode cX6_born 54 = .ok (.getfield 16, 3) := by decide +kernel
theorem dX6_born_57 : decode cX6_born 57 = .ok (.getfield 117, 3) := by decide +kernel
theorem dX6_born_60 : decode cX6_born 60 = .ok (.iload_n 1, 1) := by decide +kernel
theorem dX6_born_61 : decode cX6_born 61 = .ok (.iload 6, 2) := by decide +kernel
theorem dX6_born_63 : decode cX6_born 63 = .ok (.sipush 360, 3) := by decide +kernel
theorem dX6_born_66 : decode cX6_born 66 = .ok (.imul, 1) := by decide +kernel
theorem dX6_born_67 : decode cX6_born 67 = .ok (.aload_n 0, 1) := by decide +kernel
theorem dX6_born_68 : decode cX6_born 68 = .ok (.getfield 12, 3) := by decide +kernel
theorem dX6_born_71 : decode cX6_born 71 = .ok (.getfield 117, 3) := by decide +kernel
theorem dX6_born_74 : decode cX6_born 74 = .ok (.iload_n 1, 1) := by decide +kernel
theorem dX6_born_75 : decode cX6_born 75 = .ok (.iaload, 1) := by decide +kernel
theorem dX6_born_76 : decode cX6_born 76 = .ok (.sipush 360, 3) := by decide +kernel
theorem dX6_born_79 : decode cX6_born 79 = .ok (.irem, 1) := by decide +kernel
theorem dX6_born_80 : decode cX6_born 80 = .ok (.iadd, 1) := by decide +kernel
theorem dX6_born_81 : decode cX6_born 81 = .ok (.iastore, 1) := by decide +kernel
theorem dX6_born_82 : decode cX6_born 82 = .ok (.aload_n 0, 1) := by decide +kernel
theorem dX6_born_83 : decode cX6_born 83 = .ok (.getfield 16, 3) := by decide +kernel
theorem dX6_born_86 : decode cX6_born 86 = .ok (.getfield 117, 3) := by decide +kernel
theorem dX6_born_89 : decode cX6_born 89 = .ok (.iload_n 1, 1) := by decide +kernel
theorem dX6_born_90 : decode cX6_born 90 = .ok (.iaload, 1) := by decide +kernel
theorem dX6_born_91 : decode cX6_born 91 = .ok (.aload_n 0, 1) := by decide +kernel
theorem dX6_born_92 : decode cX6_born 92 = .ok (.getfield 12, 3) := by decide +kernel
theorem dX6_born_95 : decode cX6_born 95 = .ok (.getfield 159, 3) := by decide +kernel
theorem dX6_born_98 : decode cX6_born 98 = .ok (.iload_n 1, 1) := by decide +kernel
theorem dX6_born_99 : decode cX6_born 99 = .ok (.iaload, 1) := by decide +kernel
theorem dX6_born_100 : decode cX6_born 100 = .ok (.if_icmp .ge 42, 3) := by decide +kernel
theorem dX6_born_103 : decode cX6_born 103 = .ok (.aload_n 0, 1) := by decide +kernel
theorem dX6_born_104 : decode cX6_born 104 = .ok (.getfield 43, 3) := by decide +kernel
theorem dX6_born_107 : decode cX6_born 107 = .ok (.aload_n 0, 1) := by decide +kernel
theorem dX6_born_108 : decode cX6_born 108 = .ok (.getfield 16, 3) := by decide +kernel
theorem dX6_born_111 : decode cX6_born 111 = .ok (.invokevirtual 243, 3) := by decide +kernel
theorem dX6_born_114 : decode cX6_born 114 = .ok (.bipush (-4), 2) := by decide +kernel
theorem dX6_born_116 : decode cX6_born 116 = .ok (.if_icmp .ne 26, 3) := by decide +kernel
theorem dX6_born_119 : decode cX6_born 119 = .ok (.iinc 3 1, 3) := by decide +kernel
theorem dX6_born_122 : decode cX6_born 122 = .ok (.iload 4, 2) := by decide +kernel
theorem dX6_born_124 : decode cX6_born 124 = .ok (.bipush (-4), 2) := by decide +kernel
theorem dX6_born_126 : decode cX6_born 126 = .ok (.if_icmp .ne 8, 3) := by decide +kernel
theorem dX6_born_129 : decode cX6_born 129 = .ok (.iload 6, 2) := by decide +kernel
theorem dX6_born_131 : decode cX6_born 131 = .ok (.goto 5, 3) := by decide +kernel
theorem dX6_born_134 : decode cX6_born 134 = .ok (.iload 4, 2) := by decide +kernel
theorem dX6_born_136 : decode cX6_born 136 = .ok (.istore 4, 2) := by decide +kernel
theorem dX6_born_138 : decode cX6_born 138 = .ok (.iload 6, 2) := by decide +kernel
theorem dX6_born_140 : decode cX6_born 140 = .ok (.istore 5, 2) := by decide +kernel
theorem dX6_born_142 : decode cX6_born 142 = .ok (.iinc 6 1, 3) := by decide +kernel
theorem dX6_born_145 : decode cX6_born 145 = .ok (.goto (-99), 3) := by decide +kernel
theorem dX6_born_148 : decode cX6_born 148 = .ok (.iload_n 2, 1) := by decide +kernel
