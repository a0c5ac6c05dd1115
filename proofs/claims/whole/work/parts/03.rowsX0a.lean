set_option maxRecDepth 20000 in
theorem ggX0_init_X2_init : GoodIn wsX0_init wsX2_init := goodIn_r _ [17, 18, 2, 3, 5, 19, 20, 21, 22, 31, 32, 33, 34] (by decide +kernel) (by decide +kernel)
set_option maxRecDepth 20000 in
theorem gX0_init_X2_init_n33 : GoodIn wsX0_init (wsX2_init) := ggX0_init_X2_init
theorem dX0_init_0 : decode cX0_init 0 = .ok (.aload_n 0, 1) := by decide +kernel
theorem dX0_init_1 : decode cX0_init 1 = .ok (.invokespecial 3, 3) := by decide +kernel
theorem dX0_init_4 : decode cX0_init 4 = .ok (.aload_n 0, 1) := by decide +kernel
theorem dX0_init_5 : decode cX0_init 5 = .ok (.iconst 0, 1) := by decide +kernel
theorem dX0_init_6 : decode cX0_init 6 = .ok (.putfield 9, 3) := by decide +kernel
theorem dX0_init_9 : decode cX0_init 9 = .ok (.aload_n 0, 1) := by decide +kernel
theorem dX0_init_10 : decode cX0_init 10 = .ok (.iconst 4, 1) := by decide +kernel
theorem dX0_init_11 : decode cX0_init 11 = .ok (.newarray .int, 2) := by decide +kernel
theorem dX0_init_13 : decode cX0_init 13 = .ok (.putfield 15, 3) := by decide +kernel
theorem dX0_init_16 : decode cX0_init 16 = .ok (.aload_n 0, 1) := by decide +kernel
theorem dX0_init_17 : decode cX0_init 17 = .ok (.iconst 4, 1) := by decide +kernel
theorem dX0_init_18 : decode cX0_init 18 = .ok (.newarray .int, 2) := by decide +kernel
theorem dX0_init_20 : decode cX0_init 20 = .ok (.putfield 19, 3) := by decide +kernel
theorem dX0_init_23 : decode cX0_init 23 = .ok (.aload_n 0, 1) := by decide +kernel
theorem dX0_init_24 : decode cX0_init 24 = .ok (.iconst 4, 1) := by decide +kernel
theorem dX0_init_25 : decode cX0_init 25 = .ok (.newarray .int, 2) := by decide +kernel
theorem dX0_init_27 : decode cX0_init 27 = .ok (.putfield 22, 3) := by decide +kernel
theorem dX0_init_30 : decode cX0_init 30 = .ok (.aload_n 0, 1) := by decide +kernel
theorem dX0_init_31 : decode cX0_init 31 = .ok (.iconst 4, 1) := by decide +kernel
theorem dX0_init_32 : decode cX0_init 32 = .ok (.newarray .int, 2) := by decide +kernel
theorem dX0_init_34 : decode cX0_init 34 = .ok (.putfield 25, 3) := by decide +kernel
theorem dX0_init_37 : decode cX0_init 37 = .ok (.aload_n 0, 1) := by decide +kernel
theorem dX0_init_38 : decode cX0_init 38 = .ok (.iconst 4, 1) := by decide +kernel
theorem dX0_init_39 : decode cX0_init 39 = .ok (.newarray .int, 2) := by decide +kernel
theorem dX0_init_41 : decode cX0_init 41 = .ok (.putfield 28, 3) := by decide +kernel
theorem dX0_init_44 : decode cX0_init 44 = .ok (.aload_n 0, 1) := by decide +kernel
theorem dX0_init_45 : decode cX0_init 45 = .ok (.new 31, 3) := by decide +kernel
theorem dX0_init_48 : decode cX0_init 48 = .ok (.dup, 1) := by decide +kernel
theorem dX0_init_49 : decode cX0_init 49 = .ok (.invokespecial 33, 3) := by decide +kernel
theorem dX0_init_52 : decode cX0_init 52 = .ok (.putfield 34, 3) := by decide +kernel
theorem dX0_init_55 : decode cX0_init 55 = .ok (.aload_n 0, 1) := by decide +kernel
theorem dX0_init_56 : decode cX0_init 56 = .ok (.new 31, 3) := by decide +kernel
theorem dX0_init_59 : decode cX0_init 59 = .ok (.dup, 1) := by decide +kernel
theorem dX0_init_60 : decode cX0_init 60 = .ok (.invokespecial 33, 3) := by decide +kernel
theorem dX0_init_63 : decode cX0_init 63 = .ok (.putfield 38, 3) := by decide +kernel
theorem dX0_init_66 : decode cX0_init 66 = .ok (.return_, 1) := by decide +kernel
set_option maxRecDepth 20000 in
theorem ggX0_fewest_X0_gather : GoodIn wsX0_fewest wsX0_gather := goodIn_r _ [13, 1, 14, 15, 16, 17, 18, 19, 20, 21, 22, 23, 24, 25, 26, 27, 28, 29, 30, 31, 32, 33, 34, 35, 36, 37, 38, 39, 40, 41, 42, 43, 44, 45, 46, 47, 48, 49, 50, 51, 52, 53, 54, 55, 56, 57, 58, 59, 60, 61, 62, 63, 64, 65, 66, 67, 68, 69, 70, 98, 99, 100, 101, 102, 103, 104, 105, 106, 107, 108, 109, 110, 111, 112, 113, 114, 115, 116, 117, 118, 119, 120, 121, 122, 123, 124, 125] (by decide +kernel) (by decide +kernel)
set_option maxRecDepth 20000 in
theorem gX0_fewest_X0_gather : GoodIn wsX0_fewest (wsV RX0 41 RX0 yX0_gather wsX0_gather) := goodIn_app (goodIn_of _ (by decide +kernel)) ggX0_fewest_X0_gather
set_option maxRecDepth 20000 in
theorem ggX0_fewest_X0_send : GoodIn wsX0_fewest wsX0_send := goodIn_r _ [74, 1, 3, 17, 98, 99, 100, 101, 102, 103, 104, 105] (by decide +kernel) (by decide +kernel)
set_option maxRecDepth 20000 in
theorem gX0_fewest_X0_send : GoodIn wsX0_fewest (wsV RX0 50 RX0 yX0_send wsX0_send) := goodIn_app (goodIn_of _ (by decide +kernel)) ggX0_fewest_X0_send
set_option maxRecDepth 20000 in
theorem ggX0_fewest_X0_isSo : GoodIn wsX0_fewest wsX0_isSo := goodIn_r _ [78, 79, 14, 1, 3, 18, 80, 81, 82, 83, 2, 84, 85, 86, 23, 87, 25, 88, 6, 7, 8, 26, 66, 67, 58, 59, 60, 61, 62, 63, 64, 65, 68, 69, 70, 89, 90, 91, 92, 93, 94, 95, 96, 97, 98, 99, 100, 101, 102, 103, 104, 105, 126, 127, 128, 129, 130, 106, 107, 108, 109, 110, 111, 112, 113, 114, 115, 116, 117, 118, 119, 120, 121, 122, 123, 124, 125] (by decide +kernel) (by decide +kernel)
set_option maxRecDepth 20000 in
theorem gX0_fewest_X0_isSo : GoodIn wsX0_fewest (wsV RX0 54 RX0 yX0_isSo wsX0_isSo) := goodIn_app (goodIn_of _ (by decide +kernel)) ggX0_fewest_X0_isSo
theorem dX0_fewest_0 : decode cX0_fewest 0 = .ok (.aload_n 0, 1) := by decide +kernel
theorem dX0_fewest_1 : decode cX0_fewest 1 = .ok (.aload_n 1, 1) := by decide +kernel
theorem dX0_fewest_2 : decode cX0_fewest 2 = .ok (.iload_n 2, 1) := by decide +kernel
theorem dX0_fewest_3 : decode cX0_fewest 3 = .ok (.invokevirtual 41, 3) := by decide +kernel
theorem dX0_fewest_6 : decode cX0_fewest 6 = .ok (.iconst 1, 1) := by decide +kernel
theorem dX0_fewest_7 : decode cX0_fewest 7 = .ok (.istore 5, 2) := by decide +kernel
theorem dX0_fewest_9 : decode cX0_fewest 9 = .ok (.iconst 0, 1) := by decide +kernel
theorem dX0_fewest_10 : decode cX0_fewest 10 = .ok (.istore 6, 2) := by decide +kernel
theorem dX0_fewest_12 : decode cX0_fewest 12 = .ok (.iload 6, 2) := by decide +kernel
theorem dX0_fewest_14 : decode cX0_fewest 14 = .ok (.aload_n 0, 1) := by decide +kernel
theorem dX0_fewest_15 : decode cX0_fewest 15 = .ok (.getfield 9, 3) := by decide +kernel
theorem dX0_fewest_18 : decode cX0_fewest 18 = .ok (.if_icmp .ge 18, 3) := by decide +kernel
theorem dX0_fewest_21 : decode cX0_fewest 21 = .ok (.iload 5, 2) := by decide +kernel
theorem dX0_fewest_23 : decode cX0_fewest 23 = .ok (.aload_n 1, 1) := by decide +kernel
theorem dX0_fewest_24 : decode cX0_fewest 24 = .ok (.getfield 45, 3) := by decide +kernel
theorem dX0_fewest_27 : decode cX0_fewest 27 = .ok (.imul, 1) := by decide +kernel
theorem dX0_fewest_28 : decode cX0_fewest 28 = .ok (.istore 5, 2) := by decide +kernel
theorem dX0_fewest_30 : decode cX0_fewest 30 = .ok (.iinc 6 1, 3) := by decide +kernel
theorem dX0_fewest_33 : decode cX0_fewest 33 = .ok (.goto (-21), 3) := by decide +kernel
theorem dX0_fewest_36 : decode cX0_fewest 36 = .ok (.bipush (-4), 2) := by decide +kernel
theorem dX0_fewest_38 : decode cX0_fewest 38 = .ok (.istore 6, 2) := by decide +kernel
theorem dX0_fewest_40 : decode cX0_fewest 40 = .ok (.iconst 0, 1) := by decide +kernel
theorem dX0_fewest_41 : decode cX0_fewest 41 = .ok (.istore 7, 2) := by decide +kernel
theorem dX0_fewest_43 : decode cX0_fewest 43 = .ok (.iload 7, 2) := by decide +kernel
theorem dX0_fewest_45 : decode cX0_fewest 45 = .ok (.iload 5, 2) := by decide +kernel
theorem dX0_fewest_47 : decode cX0_fewest 47 = .ok (.if_icmp .ge 69, 3) := by decide +kernel
theorem dX0_fewest_50 : decode cX0_fewest 50 = .ok (.iload 6, 2) := by decide +kernel
theorem dX0_fewest_52 : decode cX0_fewest 52 = .ok (.ifCond .eq 64, 3) := by decide +kernel
theorem dX0_fewest_55 : decode cX0_fewest 55 = .ok (.aload_n 0, 1) := by decide +kernel
theorem dX0_fewest_56 : decode cX0_fewest 56 = .ok (.iload 7, 2) := by decide +kernel
theorem dX0_fewest_58 : decode cX0_fewest 58 = .ok (.aload_n 1, 1) := by decide +kernel
theorem dX0_fewest_59 : decode cX0_fewest 59 = .ok (.getfield 45, 3) := by decide +kernel
theorem dX0_fewest_62 : decode cX0_fewest 62 = .ok (.invokevirtual 50, 3) := by decide +kernel
theorem dX0_fewest_65 : decode cX0_fewest 65 = .ok (.istore 8, 2) := by decide +kernel
theorem dX0_fewest_67 : decode cX0_fewest 67 = .ok (.iload 6, 2) := by decide +kernel
theorem dX0_fewest_69 : decode cX0_fewest 69 = .ok (.bipush (-4), 2) := by decide +kernel
theorem dX0_fewest_71 : decode cX0_fewest 71 = .ok (.if_icmp .eq 10, 3) := by decide +kernel
theorem dX0_fewest_74 : decode cX0_fewest 74 = .ok (.iload 8, 2) := by decide +kernel
theorem dX0_fewest_76 : decode cX0_fewest 76 = .ok (.iload 6, 2) := by decide +kernel
theorem dX0_fewest_78 : decode cX0_fewest 78 = .ok (.if_icmp .ge 32, 3) := by decide +kernel
theorem dX0_fewest_81 : decode cX0_fewest 81 = .ok (.aload_n 0, 1) := by decide +kernel
theorem dX0_fewest_82 : decode cX0_fewest 82 = .ok (.aload_n 1, 1) := by decide +kernel
theorem dX0_fewest_83 : decode cX0_fewest 83 = .ok (.aload_n 3, 1) := by decide +kernel
theorem dX0_fewest_84 : decode cX0_fewest 84 = .ok (.iload 4, 2) := by decide +kernel
theorem dX0_fewest_86 : decode cX0_fewest 86 = .ok (.invokevirtual 54, 3) := by decide +kernel
theorem dX0_fewest_89 : decode cX0_fewest 89 = .ok (.ifCond .eq 21, 3) := by decide +kernel
theorem dX0_fewest_92 : decode cX0_fewest 92 = .ok (.iload 8, 2) := by decide +kernel
theorem dX0_fewest_94 : decode cX0_fewest 94 = .ok (.istore 6, 2) := by decide +kernel
theorem dX0_fewest_96 : decode cX0_fewest 96 = .ok (.aload_n 0, 1) := by decide +kernel
theorem dX0_fewest_97 : decode cX0_fewest 97 = .ok (.getfield 25, 3) := by decide +kernel
theorem dX0_fewest_100 : decode cX0_fewest 100 = .ok (.iconst 0, 1) := by decide +kernel
theorem dX0_fewest_101 : decode cX0_fewest 101 = .ok (.aload_n 0, 1) := by decide +kernel
theorem dX0_fewest_102 : decode cX0_fewest 102 = .ok (.getfield 28, 3) := by decide +kernel
theorem dX0_fewest_105 : decode cX0_fewest 105 = .ok (.iconst 0, 1) := by decide +kernel
theorem dX0_fewest_106 : decode cX0_fewest 106 = .ok (.iconst 4, 1) := by decide +kernel
theorem dX0_fewest_107 : decode cX0_fewest 107 = .ok (.invokestatic 58, 3) := by decide +kernel
theorem dX0_fewest_110 : decode cX0_fewest 110 = .ok (.iinc 7 1, 3) := by decide +kernel
theorem dX0_fewest_113 : decode cX0_fewest 113 = .ok (.goto (-70), 3) := by decide +kernel
theorem dX0_fewest_116 : decode cX0_fewest 116 = .ok (.iload 6, 2) := by decide +kernel
theorem dX0_fewest_118 : decode cX0_fewest 118 = .ok (.ireturn, 1) := by decide +kernel
theorem dX0_houseFor_0 : decode cX0_houseFor 0 = .ok (.iconst 0, 1) := by decide +kernel
theorem dX0_houseFor_1 : decode cX0_houseFor 1 = .ok (.istore_n 2, 1) := by decide +kernel
theorem dX0_houseFor_2 : decode cX0_houseFor 2 = .ok (.iload_n 2, 1) := by decide +kernel
theorem dX0_houseFor_3 : decode cX0_houseFor 3 = .ok (.aload_n 0, 1) := by decide +kernel
theorem dX0_houseFor_4 : decode cX0_houseFor 4 = .ok (.getfield 9, 3) := by decide +kernel
theorem dX0_houseFor_7 : decode cX0_houseFor 7 = .ok (.if_icmp .ge 26, 3) := by decide +kernel
theorem dX0_houseFor_10 : decode cX0_houseFor 10 = .ok (.aload_n 0, 1) := by decide +kernel
theorem dX0_houseFor_11 : decode cX0_houseFor 11 = .ok (.getfield 15, 3) := by decide +kernel
theorem dX0_houseFor_14 : decode cX0_houseFor 14 = .ok (.iload_n 2, 1) := by decide +kernel
theorem dX0_houseFor_15 : decode cX0_houseFor 15 = .ok (.iaload, 1) := by decide +kernel
theorem dX0_houseFor_16 : decode cX0_houseFor 16 = .ok (.iload_n 1, 1) := by decide +kernel
theorem dX0_houseFor_17 : decode cX0_houseFor 17 = .ok (.if_icmp .ne 10, 3) := by decide +kernel
theorem dX0_houseFor_20 : decode cX0_houseFor 20 = .ok (.aload_n 0, 1) := by decide +kernel
theorem dX0_houseFor_21 : decode cX0_houseFor 21 = .ok (.getfield 28, 3) := by decide +kernel
theorem dX0_houseFor_24 : decode cX0_houseFor 24 = .ok (.iload_n 2, 1) := by decide +kernel
theorem dX0_houseFor_25 : decode cX0_houseFor 25 = .ok (.iaload, 1) := by decide +kernel
theorem dX0_houseFor_26 : decode cX0_houseFor 26 = .ok (.ireturn, 1) := by decide +kernel
theorem dX0_houseFor_27 : decode cX0_houseFor 27 = .ok (.iinc 2 1, 3) := by decide +kernel
theorem dX0_houseFor_30 : decode cX0_houseFor 30 = .ok (.goto (-28), 3) := by decide +kernel
theorem dX0_houseFor_33 : decode cX0_houseFor 33 = .ok (.iconst (-1), 1) := by decide +kernel
theorem dX0_houseFor_34 : decode cX0_houseFor 34 = .ok (.ireturn, 1) := by decide +kernel
set_option maxRecDepth 20000 in
theorem ggX0_gather_X2_clear : GoodIn wsX0_gather wsX2_clear := goodIn_r _ [12, 13, 14, 83, 84, 85, 86] (by decide +kernel) (by decide +kernel)
set_option maxRecDepth 20000 in
theorem gX0_gather_X2_clear : GoodIn wsX0_gather (wsV RX0 64 RX2 yX2_clear wsX2_clear) := goodIn_app (goodIn_of _ (by decide +kernel)) ggX0_gather_X2_clear
set_option maxRecDepth 20000 in
theorem ggX0_gather_X5_isAuntOn : GoodIn wsX0_gather wsX5_isAuntOn := goodIn_r _ [19, 20, 21, 22, 23, 18, 24, 25, 26, 27, 28, 29, 30, 31, 67, 68, 69, 70, 71, 72, 73, 74, 75, 76, 77, 78, 79, 80, 81, 82] (by decide +kernel) (by decide +kernel)
set_option maxRecDepth 20000 in
theorem gX0_gather_X5_isAuntOn : GoodIn wsX0_gather (wsV RX0 70 RX5 yX5_isAuntOn wsX5_isAuntOn) := goodIn_app (goodIn_of _ (by decide +kernel)) ggX0_gather_X5_isAuntOn
set_option maxRecDepth 20000 in
theorem ggX0_gather_X5_homeOf : GoodIn wsX0_gather wsX5_homeOf := goodIn_r _ [35, 36, 37, 38, 39, 40, 67, 68, 69, 70, 71, 72, 73, 74, 75, 76, 77, 78, 79, 80, 81, 82] (by decide +kernel) (by decide +kernel)
set_option maxRecDepth 20000 in
theorem gX0_gather_X5_homeOf : GoodIn wsX0_gather (wsV RX0 74 RX5 yX5_homeOf wsX5_homeOf) := goodIn_app (goodIn_of _ (by decide +kernel)) ggX0_gather_X5_homeOf
set_option maxRecDepth 20000 in
theorem ggX0_gather_X5_yearsOf : GoodIn wsX0_gather wsX5_yearsOf := goodIn_r _ [44, 30, 67, 68, 69, 70, 71, 72, 73, 74, 75, 76, 77, 78, 79, 80, 81, 82] (by decide +kernel) (by decide +kernel)
set_option maxRecDepth 20000 in
theorem gX0_gather_X5_yearsOf : GoodIn wsX0_gather (wsV RX0 77 RX5 yX5_yearsOf wsX5_yearsOf) := goodIn_app (goodIn_of _ (by decide +kernel)) ggX0_gather_X5_yearsOf
set_option maxRecDepth 20000 in
theorem ggX0_gather_X5_isAlive : GoodIn wsX0_gather wsX5_isAlive := goodIn_r _ [29, 30, 31, 67, 68, 69, 70, 71, 72, 73, 74, 75, 76, 77, 78, 79, 80, 81, 82] (by decide +kernel) (by decide +kernel)
set_option maxRecDepth 20000 in
theorem gX0_gather_X5_isAlive : GoodIn wsX0_gather (wsV RX0 80 RX5 yX5_isAlive wsX5_isAlive) := goodIn_app (goodIn_of _ (by decide +kernel)) ggX0_gather_X5_isAlive
set_option maxRecDepth 20000 in
theorem ggX0_gather_X2_add : GoodIn wsX0_gather wsX2_add := goodIn_r _ [49, 50, 51, 52, 53, 13, 54, 55, 56, 57, 58, 14, 83, 84, 85, 86] (by decide +kernel) (by decide +kernel)
set_option maxRecDepth 20000 in
theorem gX0_gather_X2_add : GoodIn wsX0_gather (wsV RX0 86 RX2 yX2_add wsX2_add) := goodIn_app (goodIn_of _ (by decide +kernel)) ggX0_gather_X2_add
theorem dX0_gather_0 : decode cX0_gather 0 = .ok (.aload_n 0, 1) := by decide +kernel
theorem dX0_gather_1 : decode cX0_gather 1 = .ok (.iconst 0, 1) := by decide +kernel
theorem dX0_gather_2 : decode cX0_gather 2 = .ok (.putfield 9, 3) := by decide +kernel
theorem dX0_gather_5 : decode cX0_gather 5 = .ok (.aload_n 0, 1) := by decide +kernel
theorem dX0_gather_6 : decode cX0_gather 6 = .ok (.getfield 34, 3) := by decide +kernel
theorem dX0_gather_9 : decode cX0_gather 9 = .ok (.invokevirtual 64, 3) := by decide +kernel
theorem dX0_gather_12 : decode cX0_gather 12 = .ok (.iconst 0, 1) := by decide +kernel
theorem dX0_gather_13 : decode cX0_gather 13 = .ok (.istore_n 3, 1) := by decide +kernel
theorem dX0_gather_14 : decode cX0_gather 14 = .ok (.iload_n 3, 1) := by decide +kernel
theorem dX0_gather_15 : decode cX0_gather 15 = .ok (.aload_n 1, 1) := by decide +kernel
theorem dX0_gather_16 : decode cX0_gather 16 = .ok (.getfield 67, 3) := by decide +kernel
theorem dX0_gather_19 : decode cX0_gather 19 = .ok (.if_icmp .ge 113, 3) := by decide +kernel
theorem dX0_gather_22 : decode cX0_gather 22 = .ok (.aload_n 1, 1) := by decide +kernel
theorem dX0_gather_23 : decode cX0_gather 23 = .ok (.iload_n 3, 1) := by decide +kernel
theorem dX0_gather_24 : decode cX0_gather 24 = .ok (.iload_n 2, 1) := by decide +kernel
theorem dX0_gather_25 : decode cX0_gather 25 = .ok (.invokevirtual 70, 3) := by decide +kernel
theorem dX0_gather_28 : decode cX0_gather 28 = .ok (.ifCond .eq 64, 3) := by decide +kernel
theorem dX0_gather_31 : decode cX0_gather 31 = .ok (.aload_n 0, 1) := by decide +kernel
theorem dX0_gather_32 : decode cX0_gather 32 = .ok (.getfield 9, 3) := by decide +kernel
theorem dX0_gather_35 : decode cX0_gather 35 = .ok (.iconst 4, 1) := by decide +kernel
theorem dX0_gather_36 : decode cX0_gather 36 = .ok (.if_icmp .ge 56, 3) := by decide +kernel
theorem dX0_gather_39 : decode cX0_gather 39 = .ok (.aload_n 0, 1) := by decide +kernel
theorem dX0_gather_40 : decode cX0_gather 40 = .ok (.getfield 15, 3) := by decide +kernel
theorem dX0_gather_43 : decode cX0_gather 43 = .ok (.aload_n 0, 1) := by decide +kernel
theorem dX0_gather_44 : decode cX0_gather 44 = .ok (.getfield 9, 3) := by decide +kernel
theorem dX0_gather_47 : decode cX0_gather 47 = .ok (.iload_n 3, 1) := by decide +kernel
theorem dX0_gather_48 : decode cX0_gather 48 = .ok (.iastore, 1) := by decide +kernel
theorem dX0_gather_49 : decode cX0_gather 49 = .ok (.aload_n 0, 1) := by decide +kernel
theorem dX0_gather_50 : decode cX0_gather 50 = .ok (.getfield 19, 3) := by decide +kernel
theorem dX0_gather_53 : decode cX0_gather 53 = .ok (.aload_n 0, 1) := by decide +kernel
theorem dX0_gather_54 : decode cX0_gather 54 = .ok (.getfield 9, 3) := by decide +kernel
theorem dX0_gather_57 : decode cX0_gather 57 = .ok (.aload_n 1, 1) := by decide +kernel
theorem dX0_gather_58 : decode cX0_gather 58 = .ok (.iload_n 3, 1) := by decide +kernel
theorem dX0_gather_59 : decode cX0_gather 59 = .ok (.iload_n 2, 1) := by decide +kernel
theorem dX0_gather_60 : decode cX0_gather 60 = .ok (.invokevirtual 74, 3) := by decide +kernel
theorem dX0_gather_63 : decode cX0_gather 63 = .ok (.iastore, 1) := by decide +kernel
theorem dX0_gather_64 : decode cX0_gather 64 = .ok (.aload_n 0, 1) := by decide +kernel
theorem dX0_gather_65 : decode cX0_gather 65 = .ok (.getfield 22, 3) := by decide +kernel
theorem dX0_gather_68 : decode cX0_gather 68 = .ok (.aload_n 0, 1) := by decide +kernel
theorem dX0_gather_69 : decode cX0_gather 69 = .ok (.getfield 9, 3) := by decide +kernel
theorem dX0_gather_72 : decode cX0_gather 72 = .ok (.aload_n 1, 1) := by decide +kernel
theorem dX0_gather_73 : decode cX0_gather 73 = .ok (.iload_n 3, 1) := by decide +kernel
theorem dX0_gather_74 : decode cX0_gather 74 = .ok (.iload_n 2, 1) := by decide +kernel
theorem dX0_gather_75 : decode cX0_gather 75 = .ok (.invokevirtual 77, 3) := by decide +kernel
theorem dX0_gather_78 : decode cX0_gather 78 = .ok (.iastore, 1) := by decide +kernel
theorem dX0_gather_79 : decode cX0_gather 79 = .ok (.aload_n 0, 1) := by decide +kernel
theorem dX0_gather_80 : decode cX0_gather 80 = .ok (.dup, 1) := by decide +kernel
theorem dX0_gather_81 : decode cX0_gather 81 = .ok (.getfield 9, 3) := by decide +kernel
theorem dX0_gather_84 : decode cX0_gather 84 = .ok (.iconst 1, 1) := by decide +kernel
theorem dX0_gather_85 : decode cX0_gather 85 = .ok (.iadd, 1) := by decide +kernel
theorem dX0_gather_86 : decode cX0_gather 86 = .ok (.putfield 9, 3) := by decide +kernel
theorem dX0_gather_89 : decode cX0_gather 89 = .ok (.goto 37, 3) := by decide +kernel
theorem dX0_gather_92 : decode cX0_gather 92 = .ok (.aload_n 1, 1) := by decide +kernel
theorem dX0_gather_93 : decode cX0_gather 93 = .ok (.iload_n 3, 1) := by decide +kernel
theorem dX0_gather_94 : decode cX0_gather 94 = .ok (.iload_n 2, 1) := by decide +kernel
theorem dX0_gather_95 : decode cX0_gather 95 = .ok (.invokevirtual 80, 3) := by decide +kernel
theorem dX0_gather_98 : decode cX0_gather 98 = .ok (.ifCond .eq 28, 3) := by decide +kernel
theorem dX0_gather_101 : decode cX0_gather 101 = .ok (.aload_n 0, 1) := by decide +kernel
theorem dX0_gather_102 : decode cX0_gather 102 = .ok (.getfield 34, 3) := by decide +kernel
theorem dX0_gather_105 : decode cX0_gather 105 = .ok (.aload_n 1, 1) := by decide +kernel
theorem dX0_gather_106 : decode cX0_gather 106 = .ok (.iload_n 3, 1) := by decide +kernel
theorem dX0_gather_107 : decode cX0_gather 107 = .ok (.iload_n 2, 1) := by decide +kernel
theorem dX0_gather_108 : decode cX0_gather 108 = .ok (.invokevirtual 74, 3) := by decide +kernel
theorem dX0_gather_111 : decode cX0_gather 111 = .ok (.aload_n 1, 1) := by decide +kernel
theorem dX0_gather_112 : decode cX0_gather 112 = .ok (.getfield 83, 3) := by decide +kernel
theorem dX0_gather_115 : decode cX0_gather 115 = .ok (.iload_n 3, 1) := by decide +kernel
theorem dX0_gather_116 : decode cX0_gather 116 = .ok (.iaload, 1) := by decide +kernel
theorem dX0_gather_117 : decode cX0_gather 117 = .ok (.aload_n 1, 1) := by decide +kernel
theorem dX0_gather_118 : decode cX0_gather 118 = .ok (.iload_n 3, 1) := by decide +kernel
theorem dX0_gather_119 : decode cX0_gather 119 = .ok (.iload_n 2, 1) := by decide +kernel
theorem dX0_gather_120 : decode cX0_gather 120 = .ok (.invokevirtual 77, 3) := by decide +kernel
theorem dX0_gather_123 : decode cX0_gather 123 = .ok (.invokevirtual 86, 3) := by decide +kernel
theorem dX0_gather_126 : decode cX0_gather 126 = .ok (.iinc 3 1, 3) := by decide +kernel
theorem dX0_gather_129 : decode cX0_gather 129 = .ok (.goto (-115), 3) := by decide +kernel
theorem dX0_gather_132 : decode cX0_gather 132 = .ok (.return_, 1) := by decide +kernel
theorem dX0_send_0 : decode cX0_send 0 = .ok (.iload_n 1, 1) := by decide +kernel
theorem dX0_send_1 : decode cX0_send 1 = .ok (.istore_n 3, 1) := by decide +kernel
theorem dX0_send_2 : decode cX0_send 2 = .ok (.iconst 0, 1) := by decide +kernel
theorem dX0_send_3 : decode cX0_send 3 = .ok (.istore 4, 2) := by decide +kernel
theorem dX0_send_5 : decode cX0_send 5 = .ok (.aload_n 0, 1) := by decide +kernel
theorem dX0_send_6 : decode cX0_send 6 = .ok (.getfield 9, 3) := by decide +kernel
theorem dX0_send_9 : decode cX0_send 9 = .ok (.iconst 1, 1) := by decide +kernel
theorem dX0_send_10 : decode cX0_send 10 = .ok (.isub, 1) := by decide +kernel
theorem dX0_send_11 : decode cX0_send 11 = .ok (.istore 5, 2) := by decide +kernel
theorem dX0_send_13 : decode cX0_send 13 = .ok (.iload 5, 2) := by decide +kernel
theorem dX0_send_15 : decode cX0_send 15 = .ok (.ifCond .lt 47, 3) := by decide +kernel
theorem dX0_send_18 : decode cX0_send 18 = .ok (.iload_n 2, 1) := by decide +kernel
theorem dX0_send_19 : decode cX0_send 19 = .ok (.ifCond .le 43, 3) := by decide +kernel
theorem dX0_send_22 : decode cX0_send 22 = .ok (.aload_n 0, 1) := by decide +kernel
theorem dX0_send_23 : decode cX0_send 23 = .ok (.getfield 25, 3) := by decide +kernel
theorem dX0_send_26 : decode cX0_send 26 = .ok (.iload 5, 2) := by decide +kernel
theorem dX0_send_28 : decode cX0_send 28 = .ok (.iload_n 3, 1) := by decide +kernel
theorem dX0_send_29 : decode cX0_send 29 = .ok (.iload_n 2, 1) := by decide +kernel
theorem dX0_send_30 : decode cX0_send 30 = .ok (.irem, 1) := by decide +kernel
theorem dX0_send_31 : decode cX0_send 31 = .ok (.iastore, 1) := by decide +kernel
theorem dX0_send_32 : decode cX0_send 32 = .ok (.iload_n 3, 1) := by decide +kernel
theorem dX0_send_33 : decode cX0_send 33 = .ok (.iload_n 2, 1) := by decide +kernel
theorem dX0_send_34 : decode cX0_send 34 = .ok (.idiv, 1) := by decide +kernel
theorem dX0_send_35 : decode cX0_send 35 = .ok (.istore_n 3, 1) := by decide +kernel
theorem dX0_send_36 : decode cX0_send 36 = .ok (.aload_n 0, 1) := by decide +kernel
theorem dX0_send_37 : decode cX0_send 37 = .ok (.getfield 25, 3) := by decide +kernel
theorem dX0_send_40 : decode cX0_send 40 = .ok (.iload 5, 2) := by decide +kernel
theorem dX0_send_42 : decode cX0_send 42 = .ok (.iaload, 1) := by decide +kernel
theorem dX0_send_43 : decode cX0_send 43 = .ok (.aload_n 0, 1) := by decide +kernel
theorem dX0_send_44 : decode cX0_send 44 = .ok (.getfield 19, 3) := by decide +kernel
theorem dX0_send_47 : decode cX0_send 47 = .ok (.iload 5, 2) := by decide +kernel
theorem dX0_send_49 : decode cX0_send 49 = .ok (.iaload, 1) := by decide +kernel
theorem dX0_send_50 : decode cX0_send 50 = .ok (.if_icmp .eq 6, 3) := by decide +kernel
theorem dX0_send_53 : decode cX0_send 53 = .ok (.iinc 4 1, 3) := by decide +kernel
theorem dX0_send_56 : decode cX0_send 56 = .ok (.iinc 5 (-1), 3) := by decide +kernel
theorem dX0_send_59 : decode cX0_send 59 = .ok (.goto (-46), 3) := by decide +kernel
theorem dX0_send_62 : decode cX0_send 62 = .ok (.iload 4, 2) := by decide +kernel
theorem dX0_send_64 : decode cX0_send 64 = .ok (.ireturn, 1) := by decide +kernel
set_option maxRecDepth 20000 in
theorem ggX0_isSo_X2_copyOf : GoodIn wsX0_isSo wsX2_copyOf := goodIn_r _ [15, 16, 17, 18, 19, 20, 21, 22, 23, 73, 74, 75, 76] (by decide +kernel) (by decide +kernel)
set_option maxRecDepth 20000 in
theorem gX0_isSo_X2_copyOf : GoodIn wsX0_isSo (wsV RX0 90 RX2 yX2_copyOf wsX2_copyOf) := goodIn_app (goodIn_of _ (by decide +kernel)) ggX0_isSo_X2_copyOf
set_option maxRecDepth 20000 in
theorem ggX0_isSo_X2_add : GoodIn wsX0_isSo wsX2_add := goodIn_r _ [27, 28, 29, 30, 31, 16, 22, 23, 32, 33, 34, 21, 73, 74, 75, 76] (by decide +kernel) (by decide +kernel)
set_option maxRecDepth 20000 in
theorem gX0_isSo_X2_add : GoodIn wsX0_isSo (wsV RX0 86 RX2 yX2_add wsX2_add) := goodIn_app (goodIn_of _ (by decide +kernel)) ggX0_isSo_X2_add
set_option maxRecDepth 20000 in
theorem ggX0_isSo_X2_valueOf : GoodIn wsX0_isSo wsX2_valueOf := goodIn_r _ [38, 16, 22, 23, 21, 73, 74, 75, 76] (by decide +kernel) (by decide +kernel)
set_option maxRecDepth 20000 in
theorem gX0_isSo_X2_valueOf : GoodIn wsX0_isSo (wsV RX0 105 RX2 yX2_valueOf wsX2_valueOf) := goodIn_app (goodIn_of _ (by decide +kernel)) ggX0_isSo_X2_valueOf
set_option maxRecDepth 20000 in
theorem ggX0_isSo_X2_twinBits : GoodIn wsX0_isSo wsX2_twinBits := goodIn_r _ [42, 43, 36, 37, 14, 38, 16, 22, 23, 21, 73, 74, 75, 76] (by decide +kernel) (by decide +kernel)
set_option maxRecDepth 20000 in
theorem gX0_isSo_X2_twinBits : GoodIn wsX0_isSo (wsV RX0 111 RX2 yX2_twinBits wsX2_twinBits) := goodIn_app (goodIn_of _ (by decide +kernel)) ggX0_isSo_X2_twinBits
theorem dX0_isSo_0 : decode cX0_isSo 0 = .ok (.aload_n 0, 1) := by decide +kernel
theorem dX0_isSo_1 : decode cX0_isSo 1 = .ok (.getfield 38, 3) := by decide +kernel
theorem dX0_isSo_4 : decode cX0_isSo 4 = .ok (.aload_n 0, 1) := by decide +kernel
theorem dX0_isSo_5 : decode cX0_isSo 5 = .ok (.getfield 34, 3) := by decide +kernel
theorem dX0_isSo_8 : decode cX0_isSo 8 = .ok (.invokevirtual 90, 3) := by decide +kernel
theorem dX0_isSo_11 : decode cX0_isSo 11 = .ok (.iconst 0, 1) := by decide +kernel
theorem dX0_isSo_12 : decode cX0_isSo 12 = .ok (.istore 4, 2) := by decide +kernel
theorem dX0_isSo_14 : decode cX0_isSo 14 = .ok (.iload 4, 2) := by decide +kernel
theorem dX0_isSo_16 : decode cX0_isSo 16 = .ok (.aload_n 0, 1) := by decide +kernel
theorem dX0_isSo_17 : decode cX0_isSo 17 = .ok (.getfield 9, 3) := by decide +kernel
theorem dX0_isSo_20 : decode cX0_isSo 20 = .ok (.if_icmp .ge 31, 3) := by decide +kernel
theorem dX0_isSo_23 : decode cX0_isSo 23 = .ok (.aload_n 0, 1) := by decide +kernel
theorem dX0_isSo_24 : decode cX0_isSo 24 = .ok (.getfield 38, 3) := by decide +kernel
theorem dX0_isSo_27 : decode cX0_isSo 27 = .ok (.aload_n 0, 1) := by decide +kernel
theorem dX0_isSo_28 : decode cX0_isSo 28 = .ok (.getfield 25, 3) := by decide +kernel
theorem dX0_isSo_31 : decode cX0_isSo 31 = .ok (.iload 4, 2) := by decide +kernel
theorem dX0_isSo_33 : decode cX0_isSo 33 = .ok (.iaload, 1) := by decide +kernel
theorem dX0_isSo_34 : decode cX0_isSo 34 = .ok (.iconst 1, 1) := by decide +kernel
theorem dX0_isSo_35 : decode cX0_isSo 35 = .ok (.aload_n 0, 1) := by decide +kernel
theorem dX0_isSo_36 : decode cX0_isSo 36 = .ok (.getfield 22, 3) := by decide +kernel
theorem dX0_isSo_39 : decode cX0_isSo 39 = .ok (.iload 4, 2) := by decide +kernel
theorem dX0_isSo_41 : decode cX0_isSo 41 = .ok (.iaload, 1) := by decide +kernel
theorem dX0_isSo_42 : decode cX0_isSo 42 = .ok (.invokevirtual 86, 3) := by decide +kernel
theorem dX0_isSo_45 : decode cX0_isSo 45 = .ok (.iinc 4 1, 3) := by decide +kernel
theorem dX0_isSo_48 : decode cX0_isSo 48 = .ok (.goto (-34), 3) := by decide +kernel
theorem dX0_isSo_51 : decode cX0_isSo 51 = .ok (.iconst 0, 1) := by decide +kernel
theorem dX0_isSo_52 : decode cX0_isSo 52 = .ok (.istore 4, 2) := by decide +kernel
theorem dX0_isSo_54 : decode cX0_isSo 54 = .ok (.iload 4, 2) := by decide +kernel
theorem dX0_isSo_56 : decode cX0_isSo 56 = .ok (.aload_n 2, 1) := by decide +kernel
theorem dX0_isSo_57 : decode cX0_isSo 57 = .ok (.getfield 94, 3) := by decide +kernel
theorem dX0_isSo_60 : decode cX0_isSo 60 = .ok (.if_icmp .ge 39, 3) := by decide +kernel
theorem dX0_isSo_63 : decode cX0_isSo 63 = .ok (.aload_n 0, 1) := by decide +kernel
theorem dX0_isSo_64 : decode cX0_isSo 64 = .ok (.getfield 38, 3) := by decide +kernel
theorem dX0_isSo_67 : decode cX0_isSo 67 = .ok (.aload_n 2, 1) := by decide +kernel
theorem dX0_isSo_68 : decode cX0_isSo 68 = .ok (.getfield 99, 3) := by decide +kernel
theorem dX0_isSo_71 : decode cX0_isSo 71 = .ok (.iload 4, 2) := by decide +kernel
theorem dX0_isSo_73 : decode cX0_isSo 73 = .ok (.iaload, 1) := by decide +kernel
theorem dX0_isSo_74 : decode cX0_isSo 74 = .ok (.aload_n 1, 1) := by decide +kernel
theorem dX0_isSo_75 : decode cX0_isSo 75 = .ok (.getfield 102, 3) := by decide +kernel
theorem dX0_isSo_78 : decode cX0_isSo 78 = .ok (.invokevirtual 105, 3) := by decide +kernel
theorem dX0_isSo_81 : decode cX0_isSo 81 = .ok (.aload_n 2, 1) := by decide +kernel
theorem dX0_isSo_82 : decode cX0_isSo 82 = .ok (.getfield 108, 3) := by decide +kernel
theorem dX0_isSo_85 : decode cX0_isSo 85 = .ok (.iload 4, 2) := by decide +kernel
theorem dX0_isSo_87 : decode cX0_isSo 87 = .ok (.iaload, 1) := by decide +kernel
theorem dX0_isSo_88 : decode cX0_isSo 88 = .ok (.if_icmp .eq 5, 3) := by decide +kernel
theorem dX0_isSo_91 : decode cX0_isSo 91 = .ok (.iconst 0, 1) := by decide +kernel
theorem dX0_isSo_92 : decode cX0_isSo 92 = .ok (.ireturn, 1) := by decide +kernel
theorem dX0_isSo_93 : decode cX0_isSo 93 = .ok (.iinc 4 1, 3) := by decide +kernel
theorem dX0_isSo_96 : decode cX0_isSo 96 = .ok (.goto (-42), 3) := by decide +kernel
theorem dX0_isSo_99 : decode cX0_isSo 99 = .ok (.iload_n 3, 1) := by decide +kernel
theorem dX0_isSo_100 : decode cX0_isSo 100 = .ok (.ifCond .eq 21, 3) := by decide +kernel
theorem dX0_isSo_103 : decode cX0_isSo 103 = .ok (.aload_n 0, 1) := by decide +kernel
theorem dX0_isSo_104 : decode cX0_isSo 104 = .ok (.getfield 38, 3) := by decide +kernel
theorem dX0_isSo_107 : decode cX0_isSo 107 = .ok (.aload_n 1, 1) := by decide +kernel
theorem dX0_isSo_108 : decode cX0_isSo 108 = .ok (.getfield 45, 3) := by decide +kernel
theorem dX0_isSo_111 : decode cX0_isSo 111 = .ok (.aload_n 1, 1) := by decide +kernel
theorem dX0_isSo_112 : decode cX0_isSo 112 = .ok (.getfield 102, 3) := by decide +kernel
theorem dX0_isSo_115 : decode cX0_isSo 115 = .ok (.invokevirtual 111, 3) := by decide +kernel
theorem dX0_isSo_118 : decode cX0_isSo 118 = .ok (.ifCond .ne 7, 3) := by decide +kernel
theorem dX0_isSo_121 : decode cX0_isSo 121 = .ok (.iconst 1, 1) := by decide +kernel
theorem dX0_isSo_122 : decode cX0_isSo 122 = .ok (.goto 4, 3) := by decide +kernel
theorem dX0_isSo_125 : decode cX0_isSo 125 = .ok (.iconst 0, 1) := by decide +kernel
theorem dX0_isSo_126 : decode cX0_isSo 126 = .ok (.ireturn, 1) := by decide +kernel
