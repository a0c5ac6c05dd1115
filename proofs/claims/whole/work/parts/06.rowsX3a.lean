theorem dX3_init_0 : decode cX3_init 0 = .ok (.aload_n 0, 1) := by decide +kernel
theorem dX3_init_1 : decode cX3_init 1 = .ok (.invokespecial 3, 3) := by decide +kernel
theorem dX3_init_4 : decode cX3_init 4 = .ok (.aload_n 0, 1) := by decide +kernel
theorem dX3_init_5 : decode cX3_init 5 = .ok (.sipush 400, 3) := by decide +kernel
theorem dX3_init_8 : decode cX3_init 8 = .ok (.newarray .int, 2) := by decide +kernel
theorem dX3_init_10 : decode cX3_init 10 = .ok (.putfield 11, 3) := by decide +kernel
theorem dX3_init_13 : decode cX3_init 13 = .ok (.aload_n 0, 1) := by decide +kernel
theorem dX3_init_14 : decode cX3_init 14 = .ok (.iconst 0, 1) := by decide +kernel
theorem dX3_init_15 : decode cX3_init 15 = .ok (.putfield 15, 3) := by decide +kernel
theorem dX3_init_18 : decode cX3_init 18 = .ok (.aload_n 0, 1) := by decide +kernel
theorem dX3_init_19 : decode cX3_init 19 = .ok (.iconst 0, 1) := by decide +kernel
theorem dX3_init_20 : decode cX3_init 20 = .ok (.putfield 19, 3) := by decide +kernel
theorem dX3_init_23 : decode cX3_init 23 = .ok (.aload_n 0, 1) := by decide +kernel
theorem dX3_init_24 : decode cX3_init 24 = .ok (.iconst 0, 1) := by decide +kernel
theorem dX3_init_25 : decode cX3_init 25 = .ok (.putfield 22, 3) := by decide +kernel
theorem dX3_init_28 : decode cX3_init 28 = .ok (.aload_n 0, 1) := by decide +kernel
theorem dX3_init_29 : decode cX3_init 29 = .ok (.iconst 0, 1) := by decide +kernel
theorem dX3_init_30 : decode cX3_init 30 = .ok (.putfield 25, 3) := by decide +kernel
theorem dX3_init_33 : decode cX3_init 33 = .ok (.aload_n 0, 1) := by decide +kernel
theorem dX3_init_34 : decode cX3_init 34 = .ok (.iconst 0, 1) := by decide +kernel
theorem dX3_init_35 : decode cX3_init 35 = .ok (.putfield 28, 3) := by decide +kernel
theorem dX3_init_38 : decode cX3_init 38 = .ok (.aload_n 0, 1) := by decide +kernel
theorem dX3_init_39 : decode cX3_init 39 = .ok (.iconst 0, 1) := by decide +kernel
theorem dX3_init_40 : decode cX3_init 40 = .ok (.putfield 31, 3) := by decide +kernel
theorem dX3_init_43 : decode cX3_init 43 = .ok (.aload_n 0, 1) := by decide +kernel
theorem dX3_init_44 : decode cX3_init 44 = .ok (.iconst 0, 1) := by decide +kernel
theorem dX3_init_45 : decode cX3_init 45 = .ok (.putfield 34, 3) := by decide +kernel
theorem dX3_init_48 : decode cX3_init 48 = .ok (.aload_n 0, 1) := by decide +kernel
theorem dX3_init_49 : decode cX3_init 49 = .ok (.iconst 0, 1) := by decide +kernel
theorem dX3_init_50 : decode cX3_init 50 = .ok (.putfield 37, 3) := by decide +kernel
theorem dX3_init_53 : decode cX3_init 53 = .ok (.aload_n 0, 1) := by decide +kernel
theorem dX3_init_54 : decode cX3_init 54 = .ok (.iconst 0, 1) := by decide +kernel
theorem dX3_init_55 : decode cX3_init 55 = .ok (.putfield 40, 3) := by decide +kernel
theorem dX3_init_58 : decode cX3_init 58 = .ok (.aload_n 0, 1) := by decide +kernel
theorem dX3_init_59 : decode cX3_init 59 = .ok (.iconst 0, 1) := by decide +kernel
theorem dX3_init_60 : decode cX3_init 60 = .ok (.putfield 43, 3) := by decide +kernel
theorem dX3_init_63 : decode cX3_init 63 = .ok (.aload_n 0, 1) := by decide +kernel
theorem dX3_init_64 : decode cX3_init 64 = .ok (.iconst 0, 1) := by decide +kernel
theorem dX3_init_65 : decode cX3_init 65 = .ok (.putfield 47, 3) := by decide +kernel
theorem dX3_init_68 : decode cX3_init 68 = .ok (.return_, 1) := by decide +kernel
theorem dX3_append_0 : decode cX3_append 0 = .ok (.aload_n 0, 1) := by decide +kernel
theorem dX3_append_1 : decode cX3_append 1 = .ok (.getfield 15, 3) := by decide +kernel
theorem dX3_append_4 : decode cX3_append 4 = .ok (.bipush 8, 2) := by decide +kernel
theorem dX3_append_6 : decode cX3_append 6 = .ok (.iadd, 1) := by decide +kernel
theorem dX3_append_7 : decode cX3_append 7 = .ok (.sipush 400, 3) := by decide +kernel
theorem dX3_append_10 : decode cX3_append 10 = .ok (.if_icmp .le 5, 3) := by decide +kernel
theorem dX3_append_13 : decode cX3_append 13 = .ok (.iconst 0, 1) := by decide +kernel
theorem dX3_append_14 : decode cX3_append 14 = .ok (.ireturn, 1) := by decide +kernel
theorem dX3_append_15 : decode cX3_append 15 = .ok (.bipush 56, 2) := by decide +kernel
theorem dX3_append_17 : decode cX3_append 17 = .ok (.istore_n 3, 1) := by decide +kernel
theorem dX3_append_18 : decode cX3_append 18 = .ok (.iload_n 3, 1) := by decide +kernel
theorem dX3_append_19 : decode cX3_append 19 = .ok (.ifCond .lt 36, 3) := by decide +kernel
theorem dX3_append_22 : decode cX3_append 22 = .ok (.aload_n 0, 1) := by decide +kernel
theorem dX3_append_23 : decode cX3_append 23 = .ok (.getfield 11, 3) := by decide +kernel
theorem dX3_append_26 : decode cX3_append 26 = .ok (.aload_n 0, 1) := by decide +kernel
theorem dX3_append_27 : decode cX3_append 27 = .ok (.getfield 15, 3) := by decide +kernel
theorem dX3_append_30 : decode cX3_append 30 = .ok (.lload_n 1, 1) := by decide +kernel
theorem dX3_append_31 : decode cX3_append 31 = .ok (.iload_n 3, 1) := by decide +kernel
theorem dX3_append_32 : decode cX3_append 32 = .ok (.lushr, 1) := by decide +kernel
theorem dX3_append_33 : decode cX3_append 33 = .ok (.l2i, 1) := by decide +kernel
theorem dX3_append_34 : decode cX3_append 34 = .ok (.sipush 255, 3) := by decide +kernel
theorem dX3_append_37 : decode cX3_append 37 = .ok (.iand, 1) := by decide +kernel
theorem dX3_append_38 : decode cX3_append 38 = .ok (.iastore, 1) := by decide +kernel
theorem dX3_append_39 : decode cX3_append 39 = .ok (.aload_n 0, 1) := by decide +kernel
theorem dX3_append_40 : decode cX3_append 40 = .ok (.dup, 1) := by decide +kernel
theorem dX3_append_41 : decode cX3_append 41 = .ok (.getfield 15, 3) := by decide +kernel
theorem dX3_append_44 : decode cX3_append 44 = .ok (.iconst 1, 1) := by decide +kernel
theorem dX3_append_45 : decode cX3_append 45 = .ok (.iadd, 1) := by decide +kernel
theorem dX3_append_46 : decode cX3_append 46 = .ok (.putfield 15, 3) := by decide +kernel
theorem dX3_append_49 : decode cX3_append 49 = .ok (.iinc 3 (-8), 3) := by decide +kernel
theorem dX3_append_52 : decode cX3_append 52 = .ok (.goto (-34), 3) := by decide +kernel
theorem dX3_append_55 : decode cX3_append 55 = .ok (.iconst 1, 1) := by decide +kernel
theorem dX3_append_56 : decode cX3_append 56 = .ok (.ireturn, 1) := by decide +kernel
set_option maxRecDepth 20000 in
theorem ggX3_tell_X5_begin : GoodIn wsX3_tell wsX5_begin := goodIn_r _ [13, 14, 15, 16, 17, 18, 196, 197, 198, 199, 200, 201, 202, 203, 204, 205, 206, 207, 208, 209, 210, 211] (by decide +kernel) (by decide +kernel)
set_option maxRecDepth 20000 in
theorem gX3_tell_X5_begin : GoodIn wsX3_tell (wsV RX3 50 RX5 yX5_begin wsX5_begin) := goodIn_app (goodIn_of _ (by decide +kernel)) ggX3_tell_X5_begin
set_option maxRecDepth 20000 in
theorem ggX3_tell_X3_next : GoodIn wsX3_tell wsX3_next := goodIn_r _ [23, 1, 8, 24, 25, 26, 7, 27, 28, 22, 29, 30, 31, 32, 33, 34, 35, 36, 37, 3, 4, 184, 185, 186, 187, 188, 189, 190, 191, 192, 193, 194, 195] (by decide +kernel) (by decide +kernel)
set_option maxRecDepth 20000 in
theorem gX3_tell_X3_next : GoodIn wsX3_tell (wsV RX3 55 RX3 yX3_next wsX3_next) := goodIn_app (goodIn_of _ (by decide +kernel)) ggX3_tell_X3_next
set_option maxRecDepth 20000 in
theorem ggX3_tell_X3_isWhole : GoodIn wsX3_tell wsX3_isWhole := goodIn_r _ [41, 42, 43, 44, 45, 46, 47, 48, 49, 50, 51, 12, 52, 14, 53, 54, 55, 56, 16, 196, 197, 198, 199, 200, 201, 202, 203, 204, 205, 206, 207, 208, 209, 210, 211] (by decide +kernel) (by decide +kernel)
set_option maxRecDepth 20000 in
theorem gX3_tell_X3_isWhole : GoodIn wsX3_tell (wsV RX3 59 RX3 yX3_isWhole wsX3_isWhole) := goodIn_app (goodIn_of _ (by decide +kernel)) ggX3_tell_X3_isWhole
set_option maxRecDepth 20000 in
theorem ggX3_tell_X3_fail : GoodIn wsX3_tell wsX3_fail := goodIn_r _ [37, 3, 4, 184, 185, 186, 187, 188, 189, 190, 191, 192, 193, 194, 195] (by decide +kernel) (by decide +kernel)
set_option maxRecDepth 20000 in
theorem gX3_tell_X3_fail : GoodIn wsX3_tell (wsV RX3 63 RX3 yX3_fail wsX3_fail) := goodIn_app (goodIn_of _ (by decide +kernel)) ggX3_tell_X3_fail
set_option maxRecDepth 20000 in
theorem ggX3_tell_X3_line : GoodIn wsX3_tell wsX3_line := goodIn_r _ [60, 25, 61, 62, 63, 22, 64, 7, 1, 24, 65, 66, 67, 68, 69, 70, 71, 72, 73, 74, 75, 76, 77, 78, 79, 80, 81, 82, 83, 84, 85, 86, 87, 88, 89, 90, 91, 92, 93, 94, 95, 96, 97, 98, 99, 100, 101, 102, 103, 104, 105, 106, 107, 108, 109, 110, 111, 112, 113, 114, 115, 116, 117, 5, 26, 118, 34, 35, 36, 37, 3, 4, 119, 120, 121, 122, 19, 20, 21, 23, 8, 27, 28, 29, 30, 31, 32, 33, 123, 124, 125, 126, 127, 128, 129, 130, 6, 131, 132, 133, 134, 135, 136, 137, 138, 139, 42, 140, 141, 142, 143, 144, 145, 146, 147, 148, 149, 150, 151, 152, 12, 153, 16, 154, 155, 156, 157, 158, 159, 160, 161, 44, 162, 163, 164, 165, 17, 166, 167, 168, 169, 170, 171, 172, 173, 174, 175, 176, 47, 177, 178, 179, 180, 18, 181, 182, 183, 184, 185, 186, 187, 188, 189, 190, 191, 192, 193, 194, 195, 196, 197, 198, 199, 200, 201, 202, 203, 204, 205, 206, 207, 208, 209, 210, 211] (by decide +kernel) (by decide +kernel)
set_option maxRecDepth 20000 in
theorem gX3_tell_X3_line : GoodIn wsX3_tell (wsV RX3 67 RX3 yX3_line wsX3_line) := goodIn_app (goodIn_of _ (by decide +kernel)) ggX3_tell_X3_line
theorem dX3_tell_0 : decode cX3_tell 0 = .ok (.aload_n 1, 1) := by decide +kernel
theorem dX3_tell_1 : decode cX3_tell 1 = .ok (.invokevirtual 50, 3) := by decide +kernel
theorem dX3_tell_4 : decode cX3_tell 4 = .ok (.aload_n 0, 1) := by decide +kernel
theorem dX3_tell_5 : decode cX3_tell 5 = .ok (.iconst 0, 1) := by decide +kernel
theorem dX3_tell_6 : decode cX3_tell 6 = .ok (.putfield 28, 3) := by decide +kernel
theorem dX3_tell_9 : decode cX3_tell 9 = .ok (.aload_n 0, 1) := by decide +kernel
theorem dX3_tell_10 : decode cX3_tell 10 = .ok (.iconst 0, 1) := by decide +kernel
theorem dX3_tell_11 : decode cX3_tell 11 = .ok (.putfield 19, 3) := by decide +kernel
theorem dX3_tell_14 : decode cX3_tell 14 = .ok (.aload_n 0, 1) := by decide +kernel
theorem dX3_tell_15 : decode cX3_tell 15 = .ok (.iconst 0, 1) := by decide +kernel
theorem dX3_tell_16 : decode cX3_tell 16 = .ok (.putfield 22, 3) := by decide +kernel
theorem dX3_tell_19 : decode cX3_tell 19 = .ok (.aload_n 0, 1) := by decide +kernel
theorem dX3_tell_20 : decode cX3_tell 20 = .ok (.iconst 0, 1) := by decide +kernel
theorem dX3_tell_21 : decode cX3_tell 21 = .ok (.putfield 25, 3) := by decide +kernel
theorem dX3_tell_24 : decode cX3_tell 24 = .ok (.aload_n 0, 1) := by decide +kernel
theorem dX3_tell_25 : decode cX3_tell 25 = .ok (.iconst 0, 1) := by decide +kernel
theorem dX3_tell_26 : decode cX3_tell 26 = .ok (.putfield 43, 3) := by decide +kernel
theorem dX3_tell_29 : decode cX3_tell 29 = .ok (.aload_n 0, 1) := by decide +kernel
theorem dX3_tell_30 : decode cX3_tell 30 = .ok (.iconst 0, 1) := by decide +kernel
theorem dX3_tell_31 : decode cX3_tell 31 = .ok (.putfield 47, 3) := by decide +kernel
theorem dX3_tell_34 : decode cX3_tell 34 = .ok (.iconst 0, 1) := by decide +kernel
theorem dX3_tell_35 : decode cX3_tell 35 = .ok (.istore_n 2, 1) := by decide +kernel
theorem dX3_tell_36 : decode cX3_tell 36 = .ok (.iload_n 2, 1) := by decide +kernel
theorem dX3_tell_37 : decode cX3_tell 37 = .ok (.sipush 400, 3) := by decide +kernel
theorem dX3_tell_40 : decode cX3_tell 40 = .ok (.if_icmp .gt 72, 3) := by decide +kernel
theorem dX3_tell_43 : decode cX3_tell 43 = .ok (.aload_n 0, 1) := by decide +kernel
theorem dX3_tell_44 : decode cX3_tell 44 = .ok (.invokevirtual 55, 3) := by decide +kernel
theorem dX3_tell_47 : decode cX3_tell 47 = .ok (.ifCond .ne 5, 3) := by decide +kernel
theorem dX3_tell_50 : decode cX3_tell 50 = .ok (.iconst 0, 1) := by decide +kernel
theorem dX3_tell_51 : decode cX3_tell 51 = .ok (.ireturn, 1) := by decide +kernel
theorem dX3_tell_52 : decode cX3_tell 52 = .ok (.aload_n 0, 1) := by decide +kernel
theorem dX3_tell_53 : decode cX3_tell 53 = .ok (.getfield 31, 3) := by decide +kernel
theorem dX3_tell_56 : decode cX3_tell 56 = .ok (.ifCond .ne 30, 3) := by decide +kernel
theorem dX3_tell_59 : decode cX3_tell 59 = .ok (.aload_n 0, 1) := by decide +kernel
theorem dX3_tell_60 : decode cX3_tell 60 = .ok (.aload_n 1, 1) := by decide +kernel
theorem dX3_tell_61 : decode cX3_tell 61 = .ok (.invokevirtual 59, 3) := by decide +kernel
theorem dX3_tell_64 : decode cX3_tell 64 = .ok (.ifCond .ne 16, 3) := by decide +kernel
theorem dX3_tell_67 : decode cX3_tell 67 = .ok (.aload_n 0, 1) := by decide +kernel
theorem dX3_tell_68 : decode cX3_tell 68 = .ok (.bipush 6, 2) := by decide +kernel
theorem dX3_tell_70 : decode cX3_tell 70 = .ok (.aload_n 0, 1) := by decide +kernel
theorem dX3_tell_71 : decode cX3_tell 71 = .ok (.getfield 15, 3) := by decide +kernel
theorem dX3_tell_74 : decode cX3_tell 74 = .ok (.invokevirtual 63, 3) := by decide +kernel
theorem dX3_tell_77 : decode cX3_tell 77 = .ok (.ifCond .eq 7, 3) := by decide +kernel
theorem dX3_tell_80 : decode cX3_tell 80 = .ok (.iconst 1, 1) := by decide +kernel
theorem dX3_tell_81 : decode cX3_tell 81 = .ok (.goto 4, 3) := by decide +kernel
theorem dX3_tell_84 : decode cX3_tell 84 = .ok (.iconst 0, 1) := by decide +kernel
theorem dX3_tell_85 : decode cX3_tell 85 = .ok (.ireturn, 1) := by decide +kernel
theorem dX3_tell_86 : decode cX3_tell 86 = .ok (.aload_n 0, 1) := by decide +kernel
theorem dX3_tell_87 : decode cX3_tell 87 = .ok (.aload_n 1, 1) := by decide +kernel
theorem dX3_tell_88 : decode cX3_tell 88 = .ok (.invokevirtual 67, 3) := by decide +kernel
theorem dX3_tell_91 : decode cX3_tell 91 = .ok (.ifCond .ne 5, 3) := by decide +kernel
theorem dX3_tell_94 : decode cX3_tell 94 = .ok (.iconst 0, 1) := by decide +kernel
theorem dX3_tell_95 : decode cX3_tell 95 = .ok (.ireturn, 1) := by decide +kernel
theorem dX3_tell_96 : decode cX3_tell 96 = .ok (.aload_n 0, 1) := by decide +kernel
theorem dX3_tell_97 : decode cX3_tell 97 = .ok (.dup, 1) := by decide +kernel
theorem dX3_tell_98 : decode cX3_tell 98 = .ok (.getfield 19, 3) := by decide +kernel
theorem dX3_tell_101 : decode cX3_tell 101 = .ok (.iconst 1, 1) := by decide +kernel
theorem dX3_tell_102 : decode cX3_tell 102 = .ok (.iadd, 1) := by decide +kernel
theorem dX3_tell_103 : decode cX3_tell 103 = .ok (.putfield 19, 3) := by decide +kernel
theorem dX3_tell_106 : decode cX3_tell 106 = .ok (.iinc 2 1, 3) := by decide +kernel
theorem dX3_tell_109 : decode cX3_tell 109 = .ok (.goto (-73), 3) := by decide +kernel
theorem dX3_tell_112 : decode cX3_tell 112 = .ok (.iconst 0, 1) := by decide +kernel
theorem dX3_tell_113 : decode cX3_tell 113 = .ok (.ireturn, 1) := by decide +kernel
set_option maxRecDepth 20000 in
theorem ggX3_line_X3_isName : GoodIn wsX3_line wsX3_isName := goodIn_r _ [6, 7, 8, 1, 9, 10, 11, 12, 13, 14, 15, 16, 17, 18, 19, 20, 21, 22, 23, 24, 25, 26, 27, 28, 29, 30, 31, 32, 33, 34, 35, 36, 37, 38, 39, 40, 41, 42, 43, 44, 45, 46, 47, 48, 49, 50, 51, 52, 53, 54, 55, 56, 57, 58, 157, 158, 159, 160, 161, 162, 163, 164, 165, 166, 167, 168] (by decide +kernel) (by decide +kernel)
set_option maxRecDepth 20000 in
theorem gX3_line_X3_isName : GoodIn wsX3_line (wsV RX3 72 RX3 yX3_isName wsX3_isName) := goodIn_app (goodIn_of _ (by decide +kernel)) ggX3_line_X3_isName
set_option maxRecDepth 20000 in
theorem ggX3_line_X3_housesLine : GoodIn wsX3_line wsX3_housesLine := goodIn_r _ [62, 63, 1, 64, 65, 66, 67, 68, 5, 69, 70, 71, 72, 73, 74, 75, 7, 76, 77, 78, 79, 8, 80, 9, 81, 82, 83, 84, 85, 86, 87, 88, 89, 90, 91, 157, 158, 159, 160, 161, 162, 163, 164, 165, 166, 167, 168, 169, 170, 171, 172, 173, 174, 175, 176, 177, 178, 179, 180, 181, 182, 183, 184] (by decide +kernel) (by decide +kernel)
set_option maxRecDepth 20000 in
theorem gX3_line_X3_housesLine : GoodIn wsX3_line (wsV RX3 76 RX3 yX3_housesLine wsX3_housesLine) := goodIn_app (goodIn_of _ (by decide +kernel)) ggX3_line_X3_housesLine
set_option maxRecDepth 20000 in
theorem ggX3_line_X3_lawLine : GoodIn wsX3_line wsX3_lawLine := goodIn_r _ [95, 96, 1, 97, 66, 67, 68, 5, 69, 70, 71, 76, 77, 78, 79, 8, 80, 9, 64, 7, 81, 82, 83, 84, 85, 86, 87, 98, 99, 100, 101, 2, 3, 4, 6, 10, 11, 12, 13, 14, 15, 16, 17, 18, 19, 20, 21, 22, 23, 24, 25, 26, 27, 28, 29, 30, 31, 32, 33, 34, 35, 36, 37, 38, 39, 40, 41, 42, 43, 44, 45, 46, 47, 48, 49, 50, 51, 52, 53, 54, 55, 56, 57, 58, 88, 89, 90, 91, 157, 158, 159, 160, 161, 162, 163, 164, 165, 166, 167, 168, 169, 170, 171, 172, 173, 174, 175, 176, 177, 178, 179, 180, 181, 182, 183, 184] (by decide +kernel) (by decide +kernel)
set_option maxRecDepth 20000 in
theorem gX3_line_X3_lawLine : GoodIn wsX3_line (wsV RX3 81 RX3 yX3_lawLine wsX3_lawLine) := goodIn_app (goodIn_of _ (by decide +kernel)) ggX3_line_X3_lawLine
set_option maxRecDepth 20000 in
theorem ggX3_line_X3_oneLine : GoodIn wsX3_line wsX3_oneLine := goodIn_r _ [105, 106, 1, 107, 64, 108, 7, 66, 67, 68, 5, 69, 70, 71, 76, 77, 78, 79, 8, 80, 9, 81, 82, 83, 84, 85, 86, 87, 109, 110, 111, 112, 2, 3, 4, 6, 10, 11, 12, 13, 14, 15, 16, 17, 18, 19, 20, 21, 22, 23, 24, 25, 26, 27, 28, 29, 30, 31, 32, 33, 34, 35, 36, 37, 38, 39, 40, 41, 42, 43, 44, 45, 46, 47, 48, 49, 50, 51, 52, 53, 54, 55, 56, 57, 58, 113, 114, 115, 116, 72, 73, 74, 75, 117, 118, 119, 120, 121, 122, 123, 124, 125, 126, 88, 89, 90, 91, 169, 170, 171, 172, 173, 174, 175, 176, 177, 178, 179, 180, 181, 182, 183, 184, 157, 158, 159, 160, 161, 162, 163, 164, 165, 166, 167, 168] (by decide +kernel) (by decide +kernel)
set_option maxRecDepth 20000 in
theorem gX3_line_X3_oneLine : GoodIn wsX3_line (wsV RX3 86 RX3 yX3_oneLine wsX3_oneLine) := goodIn_app (goodIn_of _ (by decide +kernel)) ggX3_line_X3_oneLine
set_option maxRecDepth 20000 in
theorem ggX3_line_X3_moveLine : GoodIn wsX3_line wsX3_moveLine := goodIn_r _ [130, 131, 1, 107, 64, 66, 67, 68, 5, 69, 70, 71, 113, 114, 115, 116, 72, 73, 74, 75, 7, 76, 77, 78, 79, 8, 80, 9, 81, 82, 83, 84, 85, 86, 87, 132, 133, 134, 120, 135, 136, 137, 138, 139, 140, 141, 142, 143, 88, 89, 90, 91, 169, 170, 171, 172, 173, 174, 175, 176, 177, 178, 179, 180, 181, 182, 183, 184, 157, 158, 159, 160, 161, 162, 163, 164, 165, 166, 167, 168] (by decide +kernel) (by decide +kernel)
set_option maxRecDepth 20000 in
theorem gX3_line_X3_moveLine : GoodIn wsX3_line (wsV RX3 91 RX3 yX3_moveLine wsX3_moveLine) := goodIn_app (goodIn_of _ (by decide +kernel)) ggX3_line_X3_moveLine
set_option maxRecDepth 20000 in
theorem ggX3_line_X3_expectLine : GoodIn wsX3_line wsX3_expectLine := goodIn_r _ [147, 148, 1, 64, 107, 66, 67, 68, 5, 69, 70, 71, 72, 73, 74, 75, 7, 76, 77, 78, 79, 8, 80, 9, 81, 82, 83, 84, 85, 86, 87, 113, 114, 115, 116, 149, 150, 151, 120, 152, 153, 154, 155, 156, 88, 89, 90, 91, 169, 170, 171, 172, 173, 174, 175, 176, 177, 178, 179, 180, 181, 182, 183, 184, 157, 158, 159, 160, 161, 162, 163, 164, 165, 166, 167, 168] (by decide +kernel) (by decide +kernel)
set_option maxRecDepth 20000 in
theorem gX3_line_X3_expectLine : GoodIn wsX3_line (wsV RX3 96 RX3 yX3_expectLine wsX3_expectLine) := goodIn_app (goodIn_of _ (by decide +kernel)) ggX3_line_X3_expectLine
set_option maxRecDepth 20000 in
theorem ggX3_line_X3_fail : GoodIn wsX3_line wsX3_fail := goodIn_r _ [69, 70, 71, 157, 158, 159, 160, 161, 162, 163, 164, 165, 166, 167, 168] (by decide +kernel) (by decide +kernel)
set_option maxRecDepth 20000 in
theorem gX3_line_X3_fail : GoodIn wsX3_line (wsV RX3 63 RX3 yX3_fail wsX3_fail) := goodIn_app (goodIn_of _ (by decide +kernel)) ggX3_line_X3_fail
theorem dX3_line_0 : decode cX3_line 0 = .ok (.aload_n 0, 1) := by decide +kernel
theorem dX3_line_1 : decode cX3_line 1 = .ok (.ldc 70, 2) := by decide +kernel
theorem dX3_line_3 : decode cX3_line 3 = .ok (.invokevirtual 72, 3) := by decide +kernel
theorem dX3_line_6 : decode cX3_line 6 = .ok (.ifCond .eq 9, 3) := by decide +kernel
theorem dX3_line_9 : decode cX3_line 9 = .ok (.aload_n 0, 1) := by decide +kernel
theorem dX3_line_10 : decode cX3_line 10 = .ok (.aload_n 1, 1) := by decide +kernel
theorem dX3_line_11 : decode cX3_line 11 = .ok (.invokevirtual 76, 3) := by decide +kernel
theorem dX3_line_14 : decode cX3_line 14 = .ok (.ireturn, 1) := by decide +kernel
theorem dX3_line_15 : decode cX3_line 15 = .ok (.aload_n 0, 1) := by decide +kernel
theorem dX3_line_16 : decode cX3_line 16 = .ok (.ldc 79, 2) := by decide +kernel
theorem dX3_line_18 : decode cX3_line 18 = .ok (.invokevirtual 72, 3) := by decide +kernel
theorem dX3_line_21 : decode cX3_line 21 = .ok (.ifCond .eq 9, 3) := by decide +kernel
theorem dX3_line_24 : decode cX3_line 24 = .ok (.aload_n 0, 1) := by decide +kernel
theorem dX3_line_25 : decode cX3_line 25 = .ok (.aload_n 1, 1) := by decide +kernel
theorem dX3_line_26 : decode cX3_line 26 = .ok (.invokevirtual 81, 3) := by decide +kernel
theorem dX3_line_29 : decode cX3_line 29 = .ok (.ireturn, 1) := by decide +kernel
theorem dX3_line_30 : decode cX3_line 30 = .ok (.aload_n 0, 1) := by decide +kernel
theorem dX3_line_31 : decode cX3_line 31 = .ok (.ldc 84, 2) := by decide +kernel
theorem dX3_line_33 : decode cX3_line 33 = .ok (.invokevirtual 72, 3) := by decide +kernel
theorem dX3_line_36 : decode cX3_line 36 = .ok (.ifCond .eq 9, 3) := by decide +kernel
theorem dX3_line_39 : decode cX3_line 39 = .ok (.aload_n 0, 1) := by decide +kernel
theorem dX3_line_40 : decode cX3_line 40 = .ok (.aload_n 1, 1) := by decide +kernel
theorem dX3_line_41 : decode cX3_line 41 = .ok (.invokevirtual 86, 3) := by decide +kernel
theorem dX3_line_44 : decode cX3_line 44 = .ok (.ireturn, 1) := by decide +kernel
theorem dX3_line_45 : decode cX3_line 45 = .ok (.aload_n 0, 1) := by decide +kernel
theorem dX3_line_46 : decode cX3_line 46 = .ok (.ldc 89, 2) := by decide +kernel
theorem dX3_line_48 : decode cX3_line 48 = .ok (.invokevirtual 72, 3) := by decide +kernel
theorem dX3_line_51 : decode cX3_line 51 = .ok (.ifCond .eq 9, 3) := by decide +kernel
theorem dX3_line_54 : decode cX3_line 54 = .ok (.aload_n 0, 1) := by decide +kernel
theorem dX3_line_55 : decode cX3_line 55 = .ok (.aload_n 1, 1) := by decide +kernel
theorem dX3_line_56 : decode cX3_line 56 = .ok (.invokevirtual 91, 3) := by decide +kernel
theorem dX3_line_59 : decode cX3_line 59 = .ok (.ireturn, 1) := by decide +kernel
theorem dX3_line_60 : decode cX3_line 60 = .ok (.aload_n 0, 1) := by decide +kernel
theorem dX3_line_61 : decode cX3_line 61 = .ok (.ldc 94, 2) := by decide +kernel
theorem dX3_line_63 : decode cX3_line 63 = .ok (.invokevirtual 72, 3) := by decide +kernel
theorem dX3_line_66 : decode cX3_line 66 = .ok (.ifCond .eq 9, 3) := by decide +kernel
theorem dX3_line_69 : decode cX3_line 69 = .ok (.aload_n 0, 1) := by decide +kernel
theorem dX3_line_70 : decode cX3_line 70 = .ok (.aload_n 1, 1) := by decide +kernel
theorem dX3_line_71 : decode cX3_line 71 = .ok (.invokevirtual 96, 3) := by decide +kernel
theorem dX3_line_74 : decode cX3_line 74 = .ok (.ireturn, 1) := by decide +kernel
theorem dX3_line_75 : decode cX3_line 75 = .ok (.aload_n 0, 1) := by decide +kernel
theorem dX3_line_76 : decode cX3_line 76 = .ok (.iconst 2, 1) := by decide +kernel
theorem dX3_line_77 : decode cX3_line 77 = .ok (.aload_n 0, 1) := by decide +kernel
theorem dX3_line_78 : decode cX3_line 78 = .ok (.getfield 34, 3) := by decide +kernel
theorem dX3_line_81 : decode cX3_line 81 = .ok (.invokevirtual 63, 3) := by decide +kernel
theorem dX3_line_84 : decode cX3_line 84 = .ok (.ireturn, 1) := by decide +kernel
set_option maxRecDepth 20000 in
theorem ggX3_housesLine_X3_fail : GoodIn wsX3_housesLine wsX3_fail := goodIn_r _ [9, 10, 11, 35, 36, 37, 38, 39, 40, 41, 42, 43, 44, 45, 46] (by decide +kernel) (by decide +kernel)
set_option maxRecDepth 20000 in
theorem gX3_housesLine_X3_fail : GoodIn wsX3_housesLine (wsV RX3 63 RX3 yX3_fail wsX3_fail) := goodIn_app (goodIn_of _ (by decide +kernel)) ggX3_housesLine_X3_fail
set_option maxRecDepth 20000 in
theorem ggX3_housesLine_X3_figure : GoodIn wsX3_housesLine wsX3_figure := goodIn_r _ [15, 16, 2, 3, 17, 18, 19, 8, 20, 21, 22, 23, 24, 25, 26, 27, 28, 29, 30, 5, 6, 7, 9, 10, 11, 35, 36, 37, 38, 39, 40, 41, 42, 43, 44, 45, 46] (by decide +kernel) (by decide +kernel)
set_option maxRecDepth 20000 in
theorem gX3_housesLine_X3_figure : GoodIn wsX3_housesLine (wsV RX3 99 RX3 yX3_figure wsX3_figure) := goodIn_app (goodIn_of _ (by decide +kernel)) ggX3_housesLine_X3_figure
set_option maxRecDepth 20000 in
theorem ggX3_housesLine_X3_sign : GoodIn wsX3_housesLine wsX3_sign := goodIn_r _ [34, 16, 2, 17, 18, 19, 8, 20, 21, 22, 23, 3, 24, 25, 26, 27, 28, 29, 30, 5, 6, 7, 9, 10, 11, 35, 36, 37, 38, 39, 40, 41, 42, 43, 44, 45, 46] (by decide +kernel) (by decide +kernel)
set_option maxRecDepth 20000 in
theorem gX3_housesLine_X3_sign : GoodIn wsX3_housesLine (wsV RX3 104 RX3 yX3_sign wsX3_sign) := goodIn_app (goodIn_of _ (by decide +kernel)) ggX3_housesLine_X3_sign
theorem dX3_housesLine_0 : decode cX3_housesLine 0 = .ok (.aload_n 0, 1) := by decide +kernel
theorem dX3_housesLine_1 : decode cX3_housesLine 1 = .ok (.getfield 43, 3) := by decide +kernel
theorem dX3_housesLine_4 : decode cX3_housesLine 4 = .ok (.ifCond .eq 13, 3) := by decide +kernel
theorem dX3_housesLine_7 : decode cX3_housesLine 7 = .ok (.aload_n 0, 1) := by decide +kernel
theorem dX3_housesLine_8 : decode cX3_housesLine 8 = .ok (.iconst 4, 1) := by decide +kernel
theorem dX3_housesLine_9 : decode cX3_housesLine 9 = .ok (.aload_n 0, 1) := by decide +kernel
theorem dX3_housesLine_10 : decode cX3_housesLine 10 = .ok (.getfield 34, 3) := by decide +kernel
theorem dX3_housesLine_13 : decode cX3_housesLine 13 = .ok (.invokevirtual 63, 3) := by decide +kernel
theorem dX3_housesLine_16 : decode cX3_housesLine 16 = .ok (.ireturn, 1) := by decide +kernel
theorem dX3_housesLine_17 : decode cX3_housesLine 17 = .ok (.aload_n 0, 1) := by decide +kernel
theorem dX3_housesLine_18 : decode cX3_housesLine 18 = .ok (.iconst 1, 1) := by decide +kernel
theorem dX3_housesLine_19 : decode cX3_housesLine 19 = .ok (.putfield 43, 3) := by decide +kernel
theorem dX3_housesLine_22 : decode cX3_housesLine 22 = .ok (.aload_n 0, 1) := by decide +kernel
theorem dX3_housesLine_23 : decode cX3_housesLine 23 = .ok (.iconst 1, 1) := by decide +kernel
theorem dX3_housesLine_24 : decode cX3_housesLine 24 = .ok (.bipush 8, 2) := by decide +kernel
theorem dX3_housesLine_26 : decode cX3_housesLine 26 = .ok (.invokevirtual 99, 3) := by decide +kernel
theorem dX3_housesLine_29 : decode cX3_housesLine 29 = .ok (.ifCond .ne 5, 3) := by decide +kernel
theorem dX3_housesLine_32 : decode cX3_housesLine 32 = .ok (.iconst 0, 1) := by decide +kernel
theorem dX3_housesLine_33 : decode cX3_housesLine 33 = .ok (.ireturn, 1) := by decide +kernel
theorem dX3_housesLine_34 : decode cX3_housesLine 34 = .ok (.aload_n 1, 1) := by decide +kernel
theorem dX3_housesLine_35 : decode cX3_housesLine 35 = .ok (.aload_n 0, 1) := by decide +kernel
theorem dX3_housesLine_36 : decode cX3_housesLine 36 = .ok (.getfield 37, 3) := by decide +kernel
theorem dX3_housesLine_39 : decode cX3_housesLine 39 = .ok (.putfield 102, 3) := by decide +kernel
theorem dX3_housesLine_42 : decode cX3_housesLine 42 = .ok (.aload_n 0, 1) := by decide +kernel
theorem dX3_housesLine_43 : decode cX3_housesLine 43 = .ok (.invokevirtual 104, 3) := by decide +kernel
theorem dX3_housesLine_46 : decode cX3_housesLine 46 = .ok (.ireturn, 1) := by decide +kernel
set_option maxRecDepth 20000 in
theorem ggX3_lawLine_X3_fail : GoodIn wsX3_lawLine wsX3_fail := goodIn_r _ [8, 9, 10, 88, 89, 90, 91, 92, 93, 94, 95, 96, 97, 98, 99] (by decide +kernel) (by decide +kernel)
set_option maxRecDepth 20000 in
theorem gX3_lawLine_X3_fail : GoodIn wsX3_lawLine (wsV RX3 63 RX3 yX3_fail wsX3_fail) := goodIn_app (goodIn_of _ (by decide +kernel)) ggX3_lawLine_X3_fail
set_option maxRecDepth 20000 in
theorem ggX3_lawLine_X3_next : GoodIn wsX3_lawLine wsX3_next := goodIn_r _ [14, 15, 16, 17, 2, 18, 19, 20, 21, 7, 22, 23, 24, 25, 26, 4, 5, 6, 8, 9, 10, 88, 89, 90, 91, 92, 93, 94, 95, 96, 97, 98, 99] (by decide +kernel) (by decide +kernel)
set_option maxRecDepth 20000 in
theorem gX3_lawLine_X3_next : GoodIn wsX3_lawLine (wsV RX3 55 RX3 yX3_next wsX3_next) := goodIn_app (goodIn_of _ (by decide +kernel)) ggX3_lawLine_X3_next
set_option maxRecDepth 20000 in
theorem ggX3_lawLine_X3_lawNamed : GoodIn wsX3_lawLine wsX3_lawNamed := goodIn_r _ [30, 31, 32, 33, 7, 34, 19, 15, 2, 17, 35, 36, 37, 38, 39, 40, 41, 42, 43, 44, 45, 46, 47, 48, 49, 50, 51, 52, 53, 54, 55, 56, 57, 58, 59, 60, 61, 62, 63, 64, 65, 66, 67, 68, 69, 70, 71, 72, 73, 74, 75, 76, 77, 78, 79, 80, 81, 82, 83, 88, 89, 90, 91, 92, 93, 94, 95, 96, 97, 98, 99] (by decide +kernel) (by decide +kernel)
set_option maxRecDepth 20000 in
theorem gX3_lawLine_X3_lawNamed : GoodIn wsX3_lawLine (wsV RX3 107 RX3 yX3_lawNamed wsX3_lawNamed) := goodIn_app (goodIn_of _ (by decide +kernel)) ggX3_lawLine_X3_lawNamed
set_option maxRecDepth 20000 in
theorem ggX3_lawLine_X3_sign : GoodIn wsX3_lawLine wsX3_sign := goodIn_r _ [87, 19, 2, 11, 12, 13, 7, 14, 15, 16, 17, 18, 20, 21, 22, 23, 24, 25, 26, 4, 5, 6, 8, 9, 10, 88, 89, 90, 91, 92, 93, 94, 95, 96, 97, 98, 99] (by decide +kernel) (by decide +kernel)
set_option maxRecDepth 20000 in
theorem gX3_lawLine_X3_sign : GoodIn wsX3_lawLine (wsV RX3 104 RX3 yX3_sign wsX3_sign) := goodIn_app (goodIn_of _ (by decide +kernel)) ggX3_lawLine_X3_sign
theorem dX3_lawLine_0 : decode cX3_lawLine 0 = .ok (.aload_n 0, 1) := by decide +kernel
theorem dX3_lawLine_1 : decode cX3_lawLine 1 = .ok (.getfield 47, 3) := by decide +kernel
theorem dX3_lawLine_4 : decode cX3_lawLine 4 = .ok (.ifCond .eq 13, 3) := by decide +kernel
theorem dX3_lawLine_7 : decode cX3_lawLine 7 = .ok (.aload_n 0, 1) := by decide +kernel
theorem dX3_lawLine_8 : decode cX3_lawLine 8 = .ok (.iconst 4, 1) := by decide +kernel
theorem dX3_lawLine_9 : decode cX3_lawLine 9 = .ok (.aload_n 0, 1) := by decide +kernel
theorem dX3_lawLine_10 : decode cX3_lawLine 10 = .ok (.getfield 34, 3) := by decide +kernel
theorem dX3_lawLine_13 : decode cX3_lawLine 13 = .ok (.invokevirtual 63, 3) := by decide +kernel
theorem dX3_lawLine_16 : decode cX3_lawLine 16 = .ok (.ireturn, 1) := by decide +kernel
theorem dX3_lawLine_17 : decode cX3_lawLine 17 = .ok (.aload_n 0, 1) := by decide +kernel
theorem dX3_lawLine_18 : decode cX3_lawLine 18 = .ok (.iconst 1, 1) := by decide +kernel
theorem dX3_lawLine_19 : decode cX3_lawLine 19 = .ok (.putfield 47, 3) := by decide +kernel
theorem dX3_lawLine_22 : decode cX3_lawLine 22 = .ok (.aload_n 0, 1) := by decide +kernel
theorem dX3_lawLine_23 : decode cX3_lawLine 23 = .ok (.invokevirtual 55, 3) := by decide +kernel
theorem dX3_lawLine_26 : decode cX3_lawLine 26 = .ok (.ifCond .ne 5, 3) := by decide +kernel
theorem dX3_lawLine_29 : decode cX3_lawLine 29 = .ok (.iconst 0, 1) := by decide +kernel
theorem dX3_lawLine_30 : decode cX3_lawLine 30 = .ok (.ireturn, 1) := by decide +kernel
theorem dX3_lawLine_31 : decode cX3_lawLine 31 = .ok (.aload_n 1, 1) := by decide +kernel
theorem dX3_lawLine_32 : decode cX3_lawLine 32 = .ok (.aload_n 0, 1) := by decide +kernel
theorem dX3_lawLine_33 : decode cX3_lawLine 33 = .ok (.invokevirtual 107, 3) := by decide +kernel
theorem dX3_lawLine_36 : decode cX3_lawLine 36 = .ok (.putfield 111, 3) := by decide +kernel
theorem dX3_lawLine_39 : decode cX3_lawLine 39 = .ok (.aload_n 1, 1) := by decide +kernel
theorem dX3_lawLine_40 : decode cX3_lawLine 40 = .ok (.getfield 111, 3) := by decide +kernel
theorem dX3_lawLine_43 : decode cX3_lawLine 43 = .ok (.bipush (-4), 2) := by decide +kernel
theorem dX3_lawLine_45 : decode cX3_lawLine 45 = .ok (.if_icmp .ne 15, 3) := by decide +kernel
theorem dX3_lawLine_48 : decode cX3_lawLine 48 = .ok (.aload_n 0, 1) := by decide +kernel
theorem dX3_lawLine_49 : decode cX3_lawLine 49 = .ok (.iconst 2, 1) := by decide +kernel
theorem dX3_lawLine_50 : decode cX3_lawLine 50 = .ok (.aload_n 0, 1) := by decide +kernel
theorem dX3_lawLine_51 : decode cX3_lawLine 51 = .ok (.getfield 34, 3) := by decide +kernel
theorem dX3_lawLine_54 : decode cX3_lawLine 54 = .ok (.invokevirtual 63, 3) := by decide +kernel
theorem dX3_lawLine_57 : decode cX3_lawLine 57 = .ok (.goto 7, 3) := by decide +kernel
theorem dX3_lawLine_60 : decode cX3_lawLine 60 = .ok (.aload_n 0, 1) := by decide +kernel
theorem dX3_lawLine_61 : decode cX3_lawLine 61 = .ok (.invokevirtual 104, 3) := by decide +kernel
theorem dX3_lawLine_64 : decode cX3_lawLine 64 = .ok (.ireturn, 1) := by decide +kernel
set_option maxRecDepth 20000 in
theorem ggX3_oneLine_X3_fail : GoodIn wsX3_oneLine wsX3_fail := goodIn_r _ [11, 12, 13, 123, 124, 125, 126, 127, 128, 129, 130, 131, 132, 133, 134] (by decide +kernel) (by decide +kernel)
set_option maxRecDepth 20000 in
theorem gX3_oneLine_X3_fail : GoodIn wsX3_oneLine (wsV RX3 63 RX3 yX3_fail wsX3_fail) := goodIn_app (goodIn_of _ (by decide +kernel)) ggX3_oneLine_X3_fail
set_option maxRecDepth 20000 in
theorem ggX3_oneLine_X3_next : GoodIn wsX3_oneLine wsX3_next := goodIn_r _ [17, 18, 19, 20, 2, 4, 6, 21, 22, 10, 23, 24, 25, 26, 27, 7, 8, 9, 11, 12, 13, 123, 124, 125, 126, 127, 128, 129, 130, 131, 132, 133, 134] (by decide +kernel) (by decide +kernel)
set_option maxRecDepth 20000 in
theorem gX3_oneLine_X3_next : GoodIn wsX3_oneLine (wsV RX3 55 RX3 yX3_next wsX3_next) := goodIn_app (goodIn_of _ (by decide +kernel)) ggX3_oneLine_X3_next
set_option maxRecDepth 20000 in
theorem ggX3_oneLine_X3_kindNamed : GoodIn wsX3_oneLine wsX3_kindNamed := goodIn_r _ [31, 32, 33, 34, 10, 35, 6, 18, 2, 20, 36, 37, 38, 39, 40, 41, 42, 43, 44, 45, 46, 47, 48, 49, 50, 51, 52, 53, 54, 55, 56, 57, 58, 59, 60, 61, 62, 63, 64, 65, 66, 67, 68, 69, 70, 71, 72, 73, 74, 75, 76, 77, 78, 79, 80, 81, 82, 83, 84, 123, 124, 125, 126, 127, 128, 129, 130, 131, 132, 133, 134] (by decide +kernel) (by decide +kernel)
set_option maxRecDepth 20000 in
theorem gX3_oneLine_X3_kindNamed : GoodIn wsX3_oneLine (wsV RX3 116 RX3 yX3_kindNamed wsX3_kindNamed) := goodIn_app (goodIn_of _ (by decide +kernel)) ggX3_oneLine_X3_kindNamed
set_option maxRecDepth 20000 in
theorem ggX3_oneLine_X3_date : GoodIn wsX3_oneLine wsX3_date := goodIn_r _ [88, 4, 3, 89, 90, 91, 10, 92, 6, 2, 14, 15, 16, 17, 18, 19, 20, 21, 22, 23, 24, 25, 26, 27, 7, 8, 9, 11, 12, 13, 123, 124, 125, 126, 127, 128, 129, 130, 131, 132, 133, 134] (by decide +kernel) (by decide +kernel)
set_option maxRecDepth 20000 in
theorem gX3_oneLine_X3_date : GoodIn wsX3_oneLine (wsV RX3 119 RX3 yX3_date wsX3_date) := goodIn_app (goodIn_of _ (by decide +kernel)) ggX3_oneLine_X3_date
set_option maxRecDepth 20000 in
theorem ggX3_oneLine_X3_figure : GoodIn wsX3_oneLine wsX3_figure := goodIn_r _ [92, 6, 2, 4, 14, 15, 16, 10, 17, 18, 19, 20, 21, 22, 23, 24, 25, 26, 27, 7, 8, 9, 11, 12, 13, 123, 124, 125, 126, 127, 128, 129, 130, 131, 132, 133, 134] (by decide +kernel) (by decide +kernel)
set_option maxRecDepth 20000 in
theorem gX3_oneLine_X3_figure : GoodIn wsX3_oneLine (wsV RX3 99 RX3 yX3_figure wsX3_figure) := goodIn_app (goodIn_of _ (by decide +kernel)) ggX3_oneLine_X3_figure
set_option maxRecDepth 20000 in
theorem ggX3_oneLine_X3_isName : GoodIn wsX3_oneLine wsX3_isName := goodIn_r _ [35, 6, 18, 2, 20, 36, 37, 38, 39, 40, 41, 42, 43, 44, 45, 46, 47, 48, 49, 50, 51, 52, 53, 54, 55, 56, 57, 58, 59, 60, 61, 62, 63, 64, 65, 66, 67, 68, 69, 70, 71, 72, 73, 74, 75, 76, 77, 78, 79, 80, 81, 82, 83, 84, 123, 124, 125, 126, 127, 128, 129, 130, 131, 132, 133, 134] (by decide +kernel) (by decide +kernel)
set_option maxRecDepth 20000 in
theorem gX3_oneLine_X3_isName : GoodIn wsX3_oneLine (wsV RX3 72 RX3 yX3_isName wsX3_isName) := goodIn_app (goodIn_of _ (by decide +kernel)) ggX3_oneLine_X3_isName
set_option maxRecDepth 20000 in
theorem ggX3_oneLine_X5_addOne : GoodIn wsX3_oneLine wsX5_addOne := goodIn_r _ [97, 98, 99, 100, 101, 102, 107, 108, 109, 110, 111, 112, 113, 114, 115, 116, 117, 118, 119, 120, 121, 122] (by decide +kernel) (by decide +kernel)
set_option maxRecDepth 20000 in
theorem gX3_oneLine_X5_addOne : GoodIn wsX3_oneLine (wsV RX3 124 RX5 yX5_addOne wsX5_addOne) := goodIn_app (goodIn_of _ (by decide +kernel)) ggX3_oneLine_X5_addOne
set_option maxRecDepth 20000 in
theorem ggX3_oneLine_X3_sign : GoodIn wsX3_oneLine wsX3_sign := goodIn_r _ [106, 6, 2, 14, 15, 16, 10, 17, 18, 19, 20, 4, 21, 22, 23, 24, 25, 26, 27, 7, 8, 9, 11, 12, 13, 123, 124, 125, 126, 127, 128, 129, 130, 131, 132, 133, 134] (by decide +kernel) (by decide +kernel)
set_option maxRecDepth 20000 in
theorem gX3_oneLine_X3_sign : GoodIn wsX3_oneLine (wsV RX3 104 RX3 yX3_sign wsX3_sign) := goodIn_app (goodIn_of _ (by decide +kernel)) ggX3_oneLine_X3_sign
theorem dX3_oneLine_0 : decode cX3_oneLine 0 = .ok (.aload_n 1, 1) := by decide +kernel
theorem dX3_oneLine_1 : decode cX3_oneLine 1 = .ok (.getfield 113, 3) := by decide +kernel
theorem dX3_oneLine_4 : decode cX3_oneLine 4 = .ok (.bipush 10, 2) := by decide +kernel
theorem dX3_oneLine_6 : decode cX3_oneLine 6 = .ok (.if_icmp .lt 13, 3) := by decide +kernel
theorem dX3_oneLine_9 : decode cX3_oneLine 9 = .ok (.aload_n 0, 1) := by decide +kernel
theorem dX3_oneLine_10 : decode cX3_oneLine 10 = .ok (.iconst 5, 1) := by decide +kernel
theorem dX3_oneLine_11 : decode cX3_oneLine 11 = .ok (.aload_n 0, 1) := by decide +kernel
theorem dX3_oneLine_12 : decode cX3_oneLine 12 = .ok (.getfield 34, 3) := by decide +kernel
theorem dX3_oneLine_15 : decode cX3_oneLine 15 = .ok (.invokevirtual 63, 3) := by decide +kernel
theorem dX3_oneLine_18 : decode cX3_oneLine 18 = .ok (.ireturn, 1) := by decide +kernel
theorem dX3_oneLine_19 : decode cX3_oneLine 19 = .ok (.aload_n 0, 1) := by decide +kernel
theorem dX3_oneLine_20 : decode cX3_oneLine 20 = .ok (.invokevirtual 55, 3) := by decide +kernel
theorem dX3_oneLine_23 : decode cX3_oneLine 23 = .ok (.ifCond .ne 5, 3) := by decide +kernel
theorem dX3_oneLine_26 : decode cX3_oneLine 26 = .ok (.iconst 0, 1) := by decide +kernel
theorem dX3_oneLine_27 : decode cX3_oneLine 27 = .ok (.ireturn, 1) := by decide +kernel
theorem dX3_oneLine_28 : decode cX3_oneLine 28 = .ok (.aload_n 0, 1) := by decide +kernel
theorem dX3_oneLine_29 : decode cX3_oneLine 29 = .ok (.invokevirtual 116, 3) := by decide +kernel
theorem dX3_oneLine_32 : decode cX3_oneLine 32 = .ok (.istore_n 2, 1) := by decide +kernel
theorem dX3_oneLine_33 : decode cX3_oneLine 33 = .ok (.iload_n 2, 1) := by decide +kernel
theorem dX3_oneLine_34 : decode cX3_oneLine 34 = .ok (.bipush (-4), 2) := by decide +kernel
theorem dX3_oneLine_36 : decode cX3_oneLine 36 = .ok (.if_icmp .ne 13, 3) := by decide +kernel
theorem dX3_oneLine_39 : decode cX3_oneLine 39 = .ok (.aload_n 0, 1) := by decide +kernel
theorem dX3_oneLine_40 : decode cX3_oneLine 40 = .ok (.iconst 2, 1) := by decide +kernel
theorem dX3_oneLine_41 : decode cX3_oneLine 41 = .ok (.aload_n 0, 1) := by decide +kernel
theorem dX3_oneLine_42 : decode cX3_oneLine 42 = .ok (.getfield 34, 3) := by decide +kernel
theorem dX3_oneLine_45 : decode cX3_oneLine 45 = .ok (.invokevirtual 63, 3) := by decide +kernel
theorem dX3_oneLine_48 : decode cX3_oneLine 48 = .ok (.ireturn, 1) := by decide +kernel
theorem dX3_oneLine_49 : decode cX3_oneLine 49 = .ok (.aload_n 0, 1) := by decide +kernel
theorem dX3_oneLine_50 : decode cX3_oneLine 50 = .ok (.invokevirtual 119, 3) := by decide +kernel
theorem dX3_oneLine_53 : decode cX3_oneLine 53 = .ok (.ifCond .ne 5, 3) := by decide +kernel
theorem dX3_oneLine_56 : decode cX3_oneLine 56 = .ok (.iconst 0, 1) := by decide +kernel
theorem dX3_oneLine_57 : decode cX3_oneLine 57 = .ok (.ireturn, 1) := by decide +kernel
theorem dX3_oneLine_58 : decode cX3_oneLine 58 = .ok (.aload_n 0, 1) := by decide +kernel
theorem dX3_oneLine_59 : decode cX3_oneLine 59 = .ok (.getfield 40, 3) := by decide +kernel
theorem dX3_oneLine_62 : decode cX3_oneLine 62 = .ok (.istore_n 3, 1) := by decide +kernel
theorem dX3_oneLine_63 : decode cX3_oneLine 63 = .ok (.aload_n 0, 1) := by decide +kernel
theorem dX3_oneLine_64 : decode cX3_oneLine 64 = .ok (.iconst 0, 1) := by decide +kernel
theorem dX3_oneLine_65 : decode cX3_oneLine 65 = .ok (.bipush 7, 2) := by decide +kernel
theorem dX3_oneLine_67 : decode cX3_oneLine 67 = .ok (.invokevirtual 99, 3) := by decide +kernel
theorem dX3_oneLine_70 : decode cX3_oneLine 70 = .ok (.ifCond .ne 5, 3) := by decide +kernel
theorem dX3_oneLine_73 : decode cX3_oneLine 73 = .ok (.iconst 0, 1) := by decide +kernel
theorem dX3_oneLine_74 : decode cX3_oneLine 74 = .ok (.ireturn, 1) := by decide +kernel
theorem dX3_oneLine_75 : decode cX3_oneLine 75 = .ok (.aload_n 0, 1) := by decide +kernel
theorem dX3_oneLine_76 : decode cX3_oneLine 76 = .ok (.getfield 37, 3) := by decide +kernel
theorem dX3_oneLine_79 : decode cX3_oneLine 79 = .ok (.istore 4, 2) := by decide +kernel
theorem dX3_oneLine_81 : decode cX3_oneLine 81 = .ok (.aload_n 0, 1) := by decide +kernel
theorem dX3_oneLine_82 : decode cX3_oneLine 82 = .ok (.invokevirtual 55, 3) := by decide +kernel
theorem dX3_oneLine_85 : decode cX3_oneLine 85 = .ok (.ifCond .ne 5, 3) := by decide +kernel
theorem dX3_oneLine_88 : decode cX3_oneLine 88 = .ok (.iconst 0, 1) := by decide +kernel
theorem dX3_oneLine_89 : decode cX3_oneLine 89 = .ok (.ireturn, 1) := by decide +kernel
theorem dX3_oneLine_90 : decode cX3_oneLine 90 = .ok (.aload_n 0, 1) := by decide +kernel
theorem dX3_oneLine_91 : decode cX3_oneLine 91 = .ok (.ldc 122, 2) := by decide +kernel
theorem dX3_oneLine_93 : decode cX3_oneLine 93 = .ok (.invokevirtual 72, 3) := by decide +kernel
theorem dX3_oneLine_96 : decode cX3_oneLine 96 = .ok (.ifCond .eq 49, 3) := by decide +kernel
theorem dX3_oneLine_99 : decode cX3_oneLine 99 = .ok (.aload_n 0, 1) := by decide +kernel
theorem dX3_oneLine_100 : decode cX3_oneLine 100 = .ok (.invokevirtual 119, 3) := by decide +kernel
theorem dX3_oneLine_103 : decode cX3_oneLine 103 = .ok (.ifCond .ne 5, 3) := by decide +kernel
theorem dX3_oneLine_106 : decode cX3_oneLine 106 = .ok (.iconst 0, 1) := by decide +kernel
theorem dX3_oneLine_107 : decode cX3_oneLine 107 = .ok (.ireturn, 1) := by decide +kernel
theorem dX3_oneLine_108 : decode cX3_oneLine 108 = .ok (.aload_n 1, 1) := by decide +kernel
theorem dX3_oneLine_109 : decode cX3_oneLine 109 = .ok (.iload_n 2, 1) := by decide +kernel
theorem dX3_oneLine_110 : decode cX3_oneLine 110 = .ok (.iload_n 3, 1) := by decide +kernel
theorem dX3_oneLine_111 : decode cX3_oneLine 111 = .ok (.iload 4, 2) := by decide +kernel
theorem dX3_oneLine_113 : decode cX3_oneLine 113 = .ok (.aload_n 0, 1) := by decide +kernel
theorem dX3_oneLine_114 : decode cX3_oneLine 114 = .ok (.getfield 40, 3) := by decide +kernel
theorem dX3_oneLine_117 : decode cX3_oneLine 117 = .ok (.invokevirtual 124, 3) := by decide +kernel
theorem dX3_oneLine_120 : decode cX3_oneLine 120 = .ok (.aload_n 0, 1) := by decide +kernel
theorem dX3_oneLine_121 : decode cX3_oneLine 121 = .ok (.getfield 40, 3) := by decide +kernel
theorem dX3_oneLine_124 : decode cX3_oneLine 124 = .ok (.iload_n 3, 1) := by decide +kernel
theorem dX3_oneLine_125 : decode cX3_oneLine 125 = .ok (.if_icmp .gt 15, 3) := by decide +kernel
theorem dX3_oneLine_128 : decode cX3_oneLine 128 = .ok (.aload_n 0, 1) := by decide +kernel
theorem dX3_oneLine_129 : decode cX3_oneLine 129 = .ok (.iconst 4, 1) := by decide +kernel
theorem dX3_oneLine_130 : decode cX3_oneLine 130 = .ok (.aload_n 0, 1) := by decide +kernel
theorem dX3_oneLine_131 : decode cX3_oneLine 131 = .ok (.getfield 34, 3) := by decide +kernel
theorem dX3_oneLine_134 : decode cX3_oneLine 134 = .ok (.invokevirtual 63, 3) := by decide +kernel
theorem dX3_oneLine_137 : decode cX3_oneLine 137 = .ok (.goto 7, 3) := by decide +kernel
theorem dX3_oneLine_140 : decode cX3_oneLine 140 = .ok (.aload_n 0, 1) := by decide +kernel
theorem dX3_oneLine_141 : decode cX3_oneLine 141 = .ok (.invokevirtual 104, 3) := by decide +kernel
theorem dX3_oneLine_144 : decode cX3_oneLine 144 = .ok (.ireturn, 1) := by decide +kernel
theorem dX3_oneLine_145 : decode cX3_oneLine 145 = .ok (.aload_n 1, 1) := by decide +kernel
theorem dX3_oneLine_146 : decode cX3_oneLine 146 = .ok (.iload_n 2, 1) := by decide +kernel
theorem dX3_oneLine_147 : decode cX3_oneLine 147 = .ok (.iload_n 3, 1) := by decide +kernel
theorem dX3_oneLine_148 : decode cX3_oneLine 148 = .ok (.iload 4, 2) := by decide +kernel
theorem dX3_oneLine_150 : decode cX3_oneLine 150 = .ok (.ldc 128, 2) := by decide +kernel
theorem dX3_oneLine_152 : decode cX3_oneLine 152 = .ok (.invokevirtual 124, 3) := by decide +kernel
theorem dX3_oneLine_155 : decode cX3_oneLine 155 = .ok (.aload_n 0, 1) := by decide +kernel
theorem dX3_oneLine_156 : decode cX3_oneLine 156 = .ok (.getfield 31, 3) := by decide +kernel
theorem dX3_oneLine_159 : decode cX3_oneLine 159 = .ok (.iconst 3, 1) := by decide +kernel
theorem dX3_oneLine_160 : decode cX3_oneLine 160 = .ok (.if_icmp .eq 15, 3) := by decide +kernel
theorem dX3_oneLine_163 : decode cX3_oneLine 163 = .ok (.aload_n 0, 1) := by decide +kernel
theorem dX3_oneLine_164 : decode cX3_oneLine 164 = .ok (.iconst 2, 1) := by decide +kernel
theorem dX3_oneLine_165 : decode cX3_oneLine 165 = .ok (.aload_n 0, 1) := by decide +kernel
theorem dX3_oneLine_166 : decode cX3_oneLine 166 = .ok (.getfield 34, 3) := by decide +kernel
theorem dX3_oneLine_169 : decode cX3_oneLine 169 = .ok (.invokevirtual 63, 3) := by decide +kernel
theorem dX3_oneLine_172 : decode cX3_oneLine 172 = .ok (.ifCond .eq 7, 3) := by decide +kernel
theorem dX3_oneLine_175 : decode cX3_oneLine 175 = .ok (.iconst 1, 1) := by decide +kernel
theorem dX3_oneLine_176 : decode cX3_oneLine 176 = .ok (.goto 4, 3) := by decide +kernel
theorem dX3_oneLine_179 : decode cX3_oneLine 179 = .ok (.iconst 0, 1) := by decide +kernel
theorem dX3_oneLine_180 : decode cX3_oneLine 180 = .ok (.ireturn, 1) := by decide +kernel
set_option maxRecDepth 20000 in
theorem ggX3_moveLine_X3_fail : GoodIn wsX3_moveLine wsX3_fail := goodIn_r _ [9, 10, 11, 68, 69, 70, 71, 72, 73, 74, 75, 76, 77, 78, 79] (by decide +kernel) (by decide +kernel)
set_option maxRecDepth 20000 in
theorem gX3_moveLine_X3_fail : GoodIn wsX3_moveLine (wsV RX3 63 RX3 yX3_fail wsX3_fail) := goodIn_app (goodIn_of _ (by decide +kernel)) ggX3_moveLine_X3_fail
set_option maxRecDepth 20000 in
theorem ggX3_moveLine_X3_date : GoodIn wsX3_moveLine wsX3_date := goodIn_r _ [15, 4, 3, 16, 17, 18, 8, 19, 20, 2, 21, 22, 23, 24, 25, 26, 27, 28, 29, 30, 31, 32, 33, 34, 5, 6, 7, 9, 10, 11, 68, 69, 70, 71, 72, 73, 74, 75, 76, 77, 78, 79] (by decide +kernel) (by decide +kernel)
set_option maxRecDepth 20000 in
theorem gX3_moveLine_X3_date : GoodIn wsX3_moveLine (wsV RX3 119 RX3 yX3_date wsX3_date) := goodIn_app (goodIn_of _ (by decide +kernel)) ggX3_moveLine_X3_date
set_option maxRecDepth 20000 in
theorem ggX3_moveLine_X5_isTooEarly : GoodIn wsX3_moveLine wsX5_isTooEarly := goodIn_r _ [39, 40, 41, 52, 53, 54, 55, 56, 57, 58, 59, 60, 61, 62, 63, 64, 65, 66, 67] (by decide +kernel) (by decide +kernel)
set_option maxRecDepth 20000 in
theorem gX3_moveLine_X5_isTooEarly : GoodIn wsX3_moveLine (wsV RX3 132 RX5 yX5_isTooEarly wsX5_isTooEarly) := goodIn_app (goodIn_of _ (by decide +kernel)) ggX3_moveLine_X5_isTooEarly
set_option maxRecDepth 20000 in
theorem ggX3_moveLine_X3_figure : GoodIn wsX3_moveLine wsX3_figure := goodIn_r _ [19, 20, 2, 4, 21, 22, 23, 8, 24, 25, 26, 27, 28, 29, 30, 31, 32, 33, 34, 5, 6, 7, 9, 10, 11, 68, 69, 70, 71, 72, 73, 74, 75, 76, 77, 78, 79] (by decide +kernel) (by decide +kernel)
set_option maxRecDepth 20000 in
theorem gX3_moveLine_X3_figure : GoodIn wsX3_moveLine (wsV RX3 99 RX3 yX3_figure wsX3_figure) := goodIn_app (goodIn_of _ (by decide +kernel)) ggX3_moveLine_X3_figure
set_option maxRecDepth 20000 in
theorem ggX3_moveLine_X5_putMove : GoodIn wsX3_moveLine wsX5_putMove := goodIn_r _ [45, 40, 41, 46, 47, 52, 53, 54, 55, 56, 57, 58, 59, 60, 61, 62, 63, 64, 65, 66, 67] (by decide +kernel) (by decide +kernel)
set_option maxRecDepth 20000 in
theorem gX3_moveLine_X5_putMove : GoodIn wsX3_moveLine (wsV RX3 136 RX5 yX5_putMove wsX5_putMove) := goodIn_app (goodIn_of _ (by decide +kernel)) ggX3_moveLine_X5_putMove
set_option maxRecDepth 20000 in
theorem ggX3_moveLine_X3_sign : GoodIn wsX3_moveLine wsX3_sign := goodIn_r _ [51, 20, 2, 21, 22, 23, 8, 24, 25, 26, 27, 4, 28, 29, 30, 31, 32, 33, 34, 5, 6, 7, 9, 10, 11, 68, 69, 70, 71, 72, 73, 74, 75, 76, 77, 78, 79] (by decide +kernel) (by decide +kernel)
set_option maxRecDepth 20000 in
theorem gX3_moveLine_X3_sign : GoodIn wsX3_moveLine (wsV RX3 104 RX3 yX3_sign wsX3_sign) := goodIn_app (goodIn_of _ (by decide +kernel)) ggX3_moveLine_X3_sign
theorem dX3_moveLine_0 : decode cX3_moveLine 0 = .ok (.aload_n 1, 1) := by decide +kernel
theorem dX3_moveLine_1 : decode cX3_moveLine 1 = .ok (.getfield 129, 3) := by decide +kernel
theorem dX3_moveLine_4 : decode cX3_moveLine 4 = .ok (.bipush 12, 2) := by decide +kernel
theorem dX3_moveLine_6 : decode cX3_moveLine 6 = .ok (.if_icmp .lt 13, 3) := by decide +kernel
theorem dX3_moveLine_9 : decode cX3_moveLine 9 = .ok (.aload_n 0, 1) := by decide +kernel
theorem dX3_moveLine_10 : decode cX3_moveLine 10 = .ok (.iconst 5, 1) := by decide +kernel
theorem dX3_moveLine_11 : decode cX3_moveLine 11 = .ok (.aload_n 0, 1) := by decide +kernel
theorem dX3_moveLine_12 : decode cX3_moveLine 12 = .ok (.getfield 34, 3) := by decide +kernel
theorem dX3_moveLine_15 : decode cX3_moveLine 15 = .ok (.invokevirtual 63, 3) := by decide +kernel
theorem dX3_moveLine_18 : decode cX3_moveLine 18 = .ok (.ireturn, 1) := by decide +kernel
theorem dX3_moveLine_19 : decode cX3_moveLine 19 = .ok (.aload_n 0, 1) := by decide +kernel
theorem dX3_moveLine_20 : decode cX3_moveLine 20 = .ok (.invokevirtual 119, 3) := by decide +kernel
theorem dX3_moveLine_23 : decode cX3_moveLine 23 = .ok (.ifCond .ne 5, 3) := by decide +kernel
theorem dX3_moveLine_26 : decode cX3_moveLine 26 = .ok (.iconst 0, 1) := by decide +kernel
theorem dX3_moveLine_27 : decode cX3_moveLine 27 = .ok (.ireturn, 1) := by decide +kernel
theorem dX3_moveLine_28 : decode cX3_moveLine 28 = .ok (.aload_n 0, 1) := by decide +kernel
theorem dX3_moveLine_29 : decode cX3_moveLine 29 = .ok (.getfield 40, 3) := by decide +kernel
theorem dX3_moveLine_32 : decode cX3_moveLine 32 = .ok (.istore_n 2, 1) := by decide +kernel
theorem dX3_moveLine_33 : decode cX3_moveLine 33 = .ok (.aload_n 1, 1) := by decide +kernel
theorem dX3_moveLine_34 : decode cX3_moveLine 34 = .ok (.iload_n 2, 1) := by decide +kernel
theorem dX3_moveLine_35 : decode cX3_moveLine 35 = .ok (.invokevirtual 132, 3) := by decide +kernel
theorem dX3_moveLine_38 : decode cX3_moveLine 38 = .ok (.ifCond .eq 13, 3) := by decide +kernel
theorem dX3_moveLine_41 : decode cX3_moveLine 41 = .ok (.aload_n 0, 1) := by decide +kernel
theorem dX3_moveLine_42 : decode cX3_moveLine 42 = .ok (.iconst 4, 1) := by decide +kernel
theorem dX3_moveLine_43 : decode cX3_moveLine 43 = .ok (.aload_n 0, 1) := by decide +kernel
theorem dX3_moveLine_44 : decode cX3_moveLine 44 = .ok (.getfield 34, 3) := by decide +kernel
theorem dX3_moveLine_47 : decode cX3_moveLine 47 = .ok (.invokevirtual 63, 3) := by decide +kernel
theorem dX3_moveLine_50 : decode cX3_moveLine 50 = .ok (.ireturn, 1) := by decide +kernel
theorem dX3_moveLine_51 : decode cX3_moveLine 51 = .ok (.aload_n 0, 1) := by decide +kernel
theorem dX3_moveLine_52 : decode cX3_moveLine 52 = .ok (.iconst 0, 1) := by decide +kernel
theorem dX3_moveLine_53 : decode cX3_moveLine 53 = .ok (.bipush 9, 2) := by decide +kernel
theorem dX3_moveLine_55 : decode cX3_moveLine 55 = .ok (.invokevirtual 99, 3) := by decide +kernel
theorem dX3_moveLine_58 : decode cX3_moveLine 58 = .ok (.ifCond .ne 5, 3) := by decide +kernel
theorem dX3_moveLine_61 : decode cX3_moveLine 61 = .ok (.iconst 0, 1) := by decide +kernel
theorem dX3_moveLine_62 : decode cX3_moveLine 62 = .ok (.ireturn, 1) := by decide +kernel
theorem dX3_moveLine_63 : decode cX3_moveLine 63 = .ok (.aload_n 0, 1) := by decide +kernel
theorem dX3_moveLine_64 : decode cX3_moveLine 64 = .ok (.getfield 37, 3) := by decide +kernel
theorem dX3_moveLine_67 : decode cX3_moveLine 67 = .ok (.istore_n 3, 1) := by decide +kernel
theorem dX3_moveLine_68 : decode cX3_moveLine 68 = .ok (.aload_n 0, 1) := by decide +kernel
theorem dX3_moveLine_69 : decode cX3_moveLine 69 = .ok (.iconst 0, 1) := by decide +kernel
theorem dX3_moveLine_70 : decode cX3_moveLine 70 = .ok (.bipush 7, 2) := by decide +kernel
theorem dX3_moveLine_72 : decode cX3_moveLine 72 = .ok (.invokevirtual 99, 3) := by decide +kernel
theorem dX3_moveLine_75 : decode cX3_moveLine 75 = .ok (.ifCond .ne 5, 3) := by decide +kernel
theorem dX3_moveLine_78 : decode cX3_moveLine 78 = .ok (.iconst 0, 1) := by decide +kernel
theorem dX3_moveLine_79 : decode cX3_moveLine 79 = .ok (.ireturn, 1) := by decide +kernel
theorem dX3_moveLine_80 : decode cX3_moveLine 80 = .ok (.aload_n 1, 1) := by decide +kernel
theorem dX3_moveLine_81 : decode cX3_moveLine 81 = .ok (.iload_n 2, 1) := by decide +kernel
theorem dX3_moveLine_82 : decode cX3_moveLine 82 = .ok (.iload_n 3, 1) := by decide +kernel
theorem dX3_moveLine_83 : decode cX3_moveLine 83 = .ok (.aload_n 0, 1) := by decide +kernel
theorem dX3_moveLine_84 : decode cX3_moveLine 84 = .ok (.getfield 37, 3) := by decide +kernel
theorem dX3_moveLine_87 : decode cX3_moveLine 87 = .ok (.invokevirtual 136, 3) := by decide +kernel
theorem dX3_moveLine_90 : decode cX3_moveLine 90 = .ok (.aload_n 0, 1) := by decide +kernel
theorem dX3_moveLine_91 : decode cX3_moveLine 91 = .ok (.invokevirtual 104, 3) := by decide +kernel
theorem dX3_moveLine_94 : decode cX3_moveLine 94 = .ok (.ireturn, 1) := by decide +kernel
set_option maxRecDepth 20000 in
theorem ggX3_expectLine_X3_fail : GoodIn wsX3_expectLine wsX3_fail := goodIn_r _ [9, 10, 11, 64, 65, 66, 67, 68, 69, 70, 71, 72, 73, 74, 75] (by decide +kernel) (by decide +kernel)
set_option maxRecDepth 20000 in
theorem gX3_expectLine_X3_fail : GoodIn wsX3_expectLine (wsV RX3 63 RX3 yX3_fail wsX3_fail) := goodIn_app (goodIn_of _ (by decide +kernel)) ggX3_expectLine_X3_fail
set_option maxRecDepth 20000 in
theorem ggX3_expectLine_X3_figure : GoodIn wsX3_expectLine wsX3_figure := goodIn_r _ [15, 16, 2, 3, 17, 18, 19, 8, 20, 21, 22, 23, 24, 25, 26, 27, 28, 29, 30, 5, 6, 7, 9, 10, 11, 64, 65, 66, 67, 68, 69, 70, 71, 72, 73, 74, 75] (by decide +kernel) (by decide +kernel)
set_option maxRecDepth 20000 in
theorem gX3_expectLine_X3_figure : GoodIn wsX3_expectLine (wsV RX3 99 RX3 yX3_figure wsX3_figure) := goodIn_app (goodIn_of _ (by decide +kernel)) ggX3_expectLine_X3_figure
set_option maxRecDepth 20000 in
theorem ggX3_expectLine_X3_date : GoodIn wsX3_expectLine wsX3_date := goodIn_r _ [34, 3, 4, 12, 13, 14, 8, 15, 16, 2, 17, 18, 19, 20, 21, 22, 23, 24, 25, 26, 27, 28, 29, 30, 5, 6, 7, 9, 10, 11, 64, 65, 66, 67, 68, 69, 70, 71, 72, 73, 74, 75] (by decide +kernel) (by decide +kernel)
set_option maxRecDepth 20000 in
theorem gX3_expectLine_X3_date : GoodIn wsX3_expectLine (wsV RX3 119 RX3 yX3_date wsX3_date) := goodIn_app (goodIn_of _ (by decide +kernel)) ggX3_expectLine_X3_date
set_option maxRecDepth 20000 in
theorem ggX3_expectLine_X5_addBirth : GoodIn wsX3_expectLine wsX5_addBirth := goodIn_r _ [39, 40, 41, 42, 43, 48, 49, 50, 51, 52, 53, 54, 55, 56, 57, 58, 59, 60, 61, 62, 63] (by decide +kernel) (by decide +kernel)
set_option maxRecDepth 20000 in
theorem gX3_expectLine_X5_addBirth : GoodIn wsX3_expectLine (wsV RX3 143 RX5 yX5_addBirth wsX5_addBirth) := goodIn_app (goodIn_of _ (by decide +kernel)) ggX3_expectLine_X5_addBirth
set_option maxRecDepth 20000 in
theorem ggX3_expectLine_X3_sign : GoodIn wsX3_expectLine wsX3_sign := goodIn_r _ [47, 16, 2, 17, 18, 19, 8, 20, 21, 22, 23, 3, 24, 25, 26, 27, 28, 29, 30, 5, 6, 7, 9, 10, 11, 64, 65, 66, 67, 68, 69, 70, 71, 72, 73, 74, 75] (by decide +kernel) (by decide +kernel)
set_option maxRecDepth 20000 in
theorem gX3_expectLine_X3_sign : GoodIn wsX3_expectLine (wsV RX3 104 RX3 yX3_sign wsX3_sign) := goodIn_app (goodIn_of _ (by decide +kernel)) ggX3_expectLine_X3_sign
theorem dX3_expectLine_0 : decode cX3_expectLine 0 = .ok (.aload_n 1, 1) := by decide +kernel
theorem dX3_expectLine_1 : decode cX3_expectLine 1 = .ok (.getfield 140, 3) := by decide +kernel
theorem dX3_expectLine_4 : decode cX3_expectLine 4 = .ok (.iconst 4, 1) := by decide +kernel
theorem dX3_expectLine_5 : decode cX3_expectLine 5 = .ok (.if_icmp .lt 13, 3) := by decide +kernel
theorem dX3_expectLine_8 : decode cX3_expectLine 8 = .ok (.aload_n 0, 1) := by decide +kernel
theorem dX3_expectLine_9 : decode cX3_expectLine 9 = .ok (.iconst 5, 1) := by decide +kernel
theorem dX3_expectLine_10 : decode cX3_expectLine 10 = .ok (.aload_n 0, 1) := by decide +kernel
theorem dX3_expectLine_11 : decode cX3_expectLine 11 = .ok (.getfield 34, 3) := by decide +kernel
theorem dX3_expectLine_14 : decode cX3_expectLine 14 = .ok (.invokevirtual 63, 3) := by decide +kernel
theorem dX3_expectLine_17 : decode cX3_expectLine 17 = .ok (.ireturn, 1) := by decide +kernel
theorem dX3_expectLine_18 : decode cX3_expectLine 18 = .ok (.aload_n 0, 1) := by decide +kernel
theorem dX3_expectLine_19 : decode cX3_expectLine 19 = .ok (.iconst 0, 1) := by decide +kernel
theorem dX3_expectLine_20 : decode cX3_expectLine 20 = .ok (.bipush 7, 2) := by decide +kernel
theorem dX3_expectLine_22 : decode cX3_expectLine 22 = .ok (.invokevirtual 99, 3) := by decide +kernel
theorem dX3_expectLine_25 : decode cX3_expectLine 25 = .ok (.ifCond .ne 5, 3) := by decide +kernel
theorem dX3_expectLine_28 : decode cX3_expectLine 28 = .ok (.iconst 0, 1) := by decide +kernel
theorem dX3_expectLine_29 : decode cX3_expectLine 29 = .ok (.ireturn, 1) := by decide +kernel
theorem dX3_expectLine_30 : decode cX3_expectLine 30 = .ok (.aload_n 0, 1) := by decide +kernel
theorem dX3_expectLine_31 : decode cX3_expectLine 31 = .ok (.getfield 37, 3) := by decide +kernel
theorem dX3_expectLine_34 : decode cX3_expectLine 34 = .ok (.istore_n 2, 1) := by decide +kernel
theorem dX3_expectLine_35 : decode cX3_expectLine 35 = .ok (.aload_n 0, 1) := by decide +kernel
theorem dX3_expectLine_36 : decode cX3_expectLine 36 = .ok (.invokevirtual 119, 3) := by decide +kernel
theorem dX3_expectLine_39 : decode cX3_expectLine 39 = .ok (.ifCond .ne 5, 3) := by decide +kernel
theorem dX3_expectLine_42 : decode cX3_expectLine 42 = .ok (.iconst 0, 1) := by decide +kernel
theorem dX3_expectLine_43 : decode cX3_expectLine 43 = .ok (.ireturn, 1) := by decide +kernel
theorem dX3_expectLine_44 : decode cX3_expectLine 44 = .ok (.aload_n 0, 1) := by decide +kernel
theorem dX3_expectLine_45 : decode cX3_expectLine 45 = .ok (.getfield 40, 3) := by decide +kernel
theorem dX3_expectLine_48 : decode cX3_expectLine 48 = .ok (.istore_n 3, 1) := by decide +kernel
theorem dX3_expectLine_49 : decode cX3_expectLine 49 = .ok (.aload_n 0, 1) := by decide +kernel
theorem dX3_expectLine_50 : decode cX3_expectLine 50 = .ok (.invokevirtual 119, 3) := by decide +kernel
theorem dX3_expectLine_53 : decode cX3_expectLine 53 = .ok (.ifCond .ne 5, 3) := by decide +kernel
theorem dX3_expectLine_56 : decode cX3_expectLine 56 = .ok (.iconst 0, 1) := by decide +kernel
theorem dX3_expectLine_57 : decode cX3_expectLine 57 = .ok (.ireturn, 1) := by decide +kernel
theorem dX3_expectLine_58 : decode cX3_expectLine 58 = .ok (.aload_n 1, 1) := by decide +kernel
theorem dX3_expectLine_59 : decode cX3_expectLine 59 = .ok (.iload_n 2, 1) := by decide +kernel
theorem dX3_expectLine_60 : decode cX3_expectLine 60 = .ok (.iload_n 3, 1) := by decide +kernel
theorem dX3_expectLine_61 : decode cX3_expectLine 61 = .ok (.aload_n 0, 1) := by decide +kernel
theorem dX3_expectLine_62 : decode cX3_expectLine 62 = .ok (.getfield 40, 3) := by decide +kernel
theorem dX3_expectLine_65 : decode cX3_expectLine 65 = .ok (.invokevirtual 143, 3) := by decide +kernel
theorem dX3_expectLine_68 : decode cX3_expectLine 68 = .ok (.aload_n 0, 1) := by decide +kernel
theorem dX3_expectLine_69 : decode cX3_expectLine 69 = .ok (.getfield 40, 3) := by decide +kernel
theorem dX3_expectLine_72 : decode cX3_expectLine 72 = .ok (.iload_n 3, 1) := by decide +kernel
theorem dX3_expectLine_73 : decode cX3_expectLine 73 = .ok (.if_icmp .ge 15, 3) := by decide +kernel
theorem dX3_expectLine_76 : decode cX3_expectLine 76 = .ok (.aload_n 0, 1) := by decide +kernel
theorem dX3_expectLine_77 : decode cX3_expectLine 77 = .ok (.iconst 4, 1) := by decide +kernel
theorem dX3_expectLine_78 : decode cX3_expectLine 78 = .ok (.aload_n 0, 1) := by decide +kernel
theorem dX3_expectLine_79 : decode cX3_expectLine 79 = .ok (.getfield 34, 3) := by decide +kernel
theorem dX3_expectLine_82 : decode cX3_expectLine 82 = .ok (.invokevirtual 63, 3) := by decide +kernel
theorem dX3_expectLine_85 : decode cX3_expectLine 85 = .ok (.goto 7, 3) := by decide +kernel
theorem dX3_expectLine_88 : decode cX3_expectLine 88 = .ok (.aload_n 0, 1) := by decide +kernel
theorem dX3_expectLine_89 : decode cX3_expectLine 89 = .ok (.invokevirtual 104, 3) := by decide +kernel
theorem dX3_expectLine_92 : decode cX3_expectLine 92 = .ok (.ireturn, 1) := by decide +kernel
set_option maxRecDepth 20000 in
theorem ggX3_isWhole_X5_isHouse : GoodIn wsX3_isWhole wsX5_isHouse := goodIn_r _ [12, 13, 19, 20, 21, 22, 23, 24, 25, 26, 27, 28, 29, 30, 31, 32, 33, 34] (by decide +kernel) (by decide +kernel)
set_option maxRecDepth 20000 in
theorem gX3_isWhole_X5_isHouse : GoodIn wsX3_isWhole (wsV RX3 149 RX5 yX5_isHouse wsX5_isHouse) := goodIn_app (goodIn_of _ (by decide +kernel)) ggX3_isWhole_X5_isHouse
set_option maxRecDepth 20000 in
theorem ggX3_isWhole_X5_isOne : GoodIn wsX3_isWhole wsX5_isOne := goodIn_r _ [17, 18, 19, 20, 21, 22, 23, 24, 25, 26, 27, 28, 29, 30, 31, 32, 33, 34] (by decide +kernel) (by decide +kernel)
set_option maxRecDepth 20000 in
theorem gX3_isWhole_X5_isOne : GoodIn wsX3_isWhole (wsV RX3 155 RX5 yX5_isOne wsX5_isOne) := goodIn_app (goodIn_of _ (by decide +kernel)) ggX3_isWhole_X5_isOne
theorem dX3_isWhole_0 : decode cX3_isWhole 0 = .ok (.iconst 0, 1) := by decide +kernel
theorem dX3_isWhole_1 : decode cX3_isWhole 1 = .ok (.istore_n 2, 1) := by decide +kernel
theorem dX3_isWhole_2 : decode cX3_isWhole 2 = .ok (.iload_n 2, 1) := by decide +kernel
theorem dX3_isWhole_3 : decode cX3_isWhole 3 = .ok (.aload_n 1, 1) := by decide +kernel
theorem dX3_isWhole_4 : decode cX3_isWhole 4 = .ok (.getfield 113, 3) := by decide +kernel
theorem dX3_isWhole_7 : decode cX3_isWhole 7 = .ok (.if_icmp .ge 24, 3) := by decide +kernel
theorem dX3_isWhole_10 : decode cX3_isWhole 10 = .ok (.aload_n 1, 1) := by decide +kernel
theorem dX3_isWhole_11 : decode cX3_isWhole 11 = .ok (.aload_n 1, 1) := by decide +kernel
theorem dX3_isWhole_12 : decode cX3_isWhole 12 = .ok (.getfield 146, 3) := by decide +kernel
theorem dX3_isWhole_15 : decode cX3_isWhole 15 = .ok (.iload_n 2, 1) := by decide +kernel
theorem dX3_isWhole_16 : decode cX3_isWhole 16 = .ok (.iaload, 1) := by decide +kernel
theorem dX3_isWhole_17 : decode cX3_isWhole 17 = .ok (.invokevirtual 149, 3) := by decide +kernel
theorem dX3_isWhole_20 : decode cX3_isWhole 20 = .ok (.ifCond .ne 5, 3) := by decide +kernel
theorem dX3_isWhole_23 : decode cX3_isWhole 23 = .ok (.iconst 0, 1) := by decide +kernel
theorem dX3_isWhole_24 : decode cX3_isWhole 24 = .ok (.ireturn, 1) := by decide +kernel
theorem dX3_isWhole_25 : decode cX3_isWhole 25 = .ok (.iinc 2 1, 3) := by decide +kernel
theorem dX3_isWhole_28 : decode cX3_isWhole 28 = .ok (.goto (-26), 3) := by decide +kernel
theorem dX3_isWhole_31 : decode cX3_isWhole 31 = .ok (.iconst 0, 1) := by decide +kernel
theorem dX3_isWhole_32 : decode cX3_isWhole 32 = .ok (.istore_n 2, 1) := by decide +kernel
theorem dX3_isWhole_33 : decode cX3_isWhole 33 = .ok (.iload_n 2, 1) := by decide +kernel
theorem dX3_isWhole_34 : decode cX3_isWhole 34 = .ok (.aload_n 1, 1) := by decide +kernel
theorem dX3_isWhole_35 : decode cX3_isWhole 35 = .ok (.getfield 129, 3) := by decide +kernel
theorem dX3_isWhole_38 : decode cX3_isWhole 38 = .ok (.if_icmp .ge 37, 3) := by decide +kernel
theorem dX3_isWhole_41 : decode cX3_isWhole 41 = .ok (.aload_n 1, 1) := by decide +kernel
theorem dX3_isWhole_42 : decode cX3_isWhole 42 = .ok (.aload_n 1, 1) := by decide +kernel
theorem dX3_isWhole_43 : decode cX3_isWhole 43 = .ok (.getfield 152, 3) := by decide +kernel
theorem dX3_isWhole_46 : decode cX3_isWhole 46 = .ok (.iload_n 2, 1) := by decide +kernel
theorem dX3_isWhole_47 : decode cX3_isWhole 47 = .ok (.iaload, 1) := by decide +kernel
theorem dX3_isWhole_48 : decode cX3_isWhole 48 = .ok (.invokevirtual 155, 3) := by decide +kernel
theorem dX3_isWhole_51 : decode cX3_isWhole 51 = .ok (.ifCond .eq 16, 3) := by decide +kernel
theorem dX3_isWhole_54 : decode cX3_isWhole 54 = .ok (.aload_n 1, 1) := by decide +kernel
theorem dX3_isWhole_55 : decode cX3_isWhole 55 = .ok (.aload_n 1, 1) := by decide +kernel
theorem dX3_isWhole_56 : decode cX3_isWhole 56 = .ok (.getfield 158, 3) := by decide +kernel
theorem dX3_isWhole_59 : decode cX3_isWhole 59 = .ok (.iload_n 2, 1) := by decide +kernel
theorem dX3_isWhole_60 : decode cX3_isWhole 60 = .ok (.iaload, 1) := by decide +kernel
theorem dX3_isWhole_61 : decode cX3_isWhole 61 = .ok (.invokevirtual 149, 3) := by decide +kernel
theorem dX3_isWhole_64 : decode cX3_isWhole 64 = .ok (.ifCond .ne 5, 3) := by decide +kernel
theorem dX3_isWhole_67 : decode cX3_isWhole 67 = .ok (.iconst 0, 1) := by decide +kernel
theorem dX3_isWhole_68 : decode cX3_isWhole 68 = .ok (.ireturn, 1) := by decide +kernel
theorem dX3_isWhole_69 : decode cX3_isWhole 69 = .ok (.iinc 2 1, 3) := by decide +kernel
theorem dX3_isWhole_72 : decode cX3_isWhole 72 = .ok (.goto (-39), 3) := by decide +kernel
theorem dX3_isWhole_75 : decode cX3_isWhole 75 = .ok (.iconst 0, 1) := by decide +kernel
theorem dX3_isWhole_76 : decode cX3_isWhole 76 = .ok (.istore_n 2, 1) := by decide +kernel
theorem dX3_isWhole_77 : decode cX3_isWhole 77 = .ok (.iload_n 2, 1) := by decide +kernel
theorem dX3_isWhole_78 : decode cX3_isWhole 78 = .ok (.aload_n 1, 1) := by decide +kernel
theorem dX3_isWhole_79 : decode cX3_isWhole 79 = .ok (.getfield 140, 3) := by decide +kernel
theorem dX3_isWhole_82 : decode cX3_isWhole 82 = .ok (.if_icmp .ge 24, 3) := by decide +kernel
theorem dX3_isWhole_85 : decode cX3_isWhole 85 = .ok (.aload_n 1, 1) := by decide +kernel
theorem dX3_isWhole_86 : decode cX3_isWhole 86 = .ok (.aload_n 1, 1) := by decide +kernel
theorem dX3_isWhole_87 : decode cX3_isWhole 87 = .ok (.getfield 161, 3) := by decide +kernel
theorem dX3_isWhole_90 : decode cX3_isWhole 90 = .ok (.iload_n 2, 1) := by decide +kernel
theorem dX3_isWhole_91 : decode cX3_isWhole 91 = .ok (.iaload, 1) := by decide +kernel
theorem dX3_isWhole_92 : decode cX3_isWhole 92 = .ok (.invokevirtual 149, 3) := by decide +kernel
theorem dX3_isWhole_95 : decode cX3_isWhole 95 = .ok (.ifCond .ne 5, 3) := by decide +kernel
theorem dX3_isWhole_98 : decode cX3_isWhole 98 = .ok (.iconst 0, 1) := by decide +kernel
theorem dX3_isWhole_99 : decode cX3_isWhole 99 = .ok (.ireturn, 1) := by decide +kernel
theorem dX3_isWhole_100 : decode cX3_isWhole 100 = .ok (.iinc 2 1, 3) := by decide +kernel
theorem dX3_isWhole_103 : decode cX3_isWhole 103 = .ok (.goto (-26), 3) := by decide +kernel
theorem dX3_isWhole_106 : decode cX3_isWhole 106 = .ok (.iconst 1, 1) := by decide +kernel
theorem dX3_isWhole_107 : decode cX3_isWhole 107 = .ok (.ireturn, 1) := by decide +kernel
set_option maxRecDepth 20000 in
theorem ggX3_lawNamed_X3_isName : GoodIn wsX3_lawNamed wsX3_isName := goodIn_r _ [5, 6, 7, 8, 9, 10, 11, 12, 13, 14, 15, 16, 17, 18, 19, 20, 21, 22, 23, 24, 25, 26, 27, 28, 29, 30, 31, 32, 33, 34, 35, 36, 37, 38, 39, 40, 41, 42, 43, 44, 45, 46, 47, 48, 49, 50, 51, 52, 53, 54, 55, 56, 57, 58, 59, 60, 61, 62, 63, 64, 65, 66, 67, 68, 69, 70] (by decide +kernel) (by decide +kernel)
set_option maxRecDepth 20000 in
theorem gX3_lawNamed_X3_isName : GoodIn wsX3_lawNamed (wsV RX3 72 RX3 yX3_isName wsX3_isName) := goodIn_app (goodIn_of _ (by decide +kernel)) ggX3_lawNamed_X3_isName
theorem dX3_lawNamed_0 : decode cX3_lawNamed 0 = .ok (.aload_n 0, 1) := by decide +kernel
theorem dX3_lawNamed_1 : decode cX3_lawNamed 1 = .ok (.ldc 164, 2) := by decide +kernel
theorem dX3_lawNamed_3 : decode cX3_lawNamed 3 = .ok (.invokevirtual 72, 3) := by decide +kernel
theorem dX3_lawNamed_6 : decode cX3_lawNamed 6 = .ok (.ifCond .eq 5, 3) := by decide +kernel
theorem dX3_lawNamed_9 : decode cX3_lawNamed 9 = .ok (.iconst 0, 1) := by decide +kernel
theorem dX3_lawNamed_10 : decode cX3_lawNamed 10 = .ok (.ireturn, 1) := by decide +kernel
theorem dX3_lawNamed_11 : decode cX3_lawNamed 11 = .ok (.aload_n 0, 1) := by decide +kernel
theorem dX3_lawNamed_12 : decode cX3_lawNamed 12 = .ok (.ldc 166, 2) := by decide +kernel
theorem dX3_lawNamed_14 : decode cX3_lawNamed 14 = .ok (.invokevirtual 72, 3) := by decide +kernel
theorem dX3_lawNamed_17 : decode cX3_lawNamed 17 = .ok (.ifCond .eq 5, 3) := by decide +kernel
theorem dX3_lawNamed_20 : decode cX3_lawNamed 20 = .ok (.iconst 1, 1) := by decide +kernel
theorem dX3_lawNamed_21 : decode cX3_lawNamed 21 = .ok (.ireturn, 1) := by decide +kernel
theorem dX3_lawNamed_22 : decode cX3_lawNamed 22 = .ok (.aload_n 0, 1) := by decide +kernel
theorem dX3_lawNamed_23 : decode cX3_lawNamed 23 = .ok (.ldc 168, 2) := by decide +kernel
theorem dX3_lawNamed_25 : decode cX3_lawNamed 25 = .ok (.invokevirtual 72, 3) := by decide +kernel
theorem dX3_lawNamed_28 : decode cX3_lawNamed 28 = .ok (.ifCond .eq 5, 3) := by decide +kernel
theorem dX3_lawNamed_31 : decode cX3_lawNamed 31 = .ok (.iconst 2, 1) := by decide +kernel
theorem dX3_lawNamed_32 : decode cX3_lawNamed 32 = .ok (.ireturn, 1) := by decide +kernel
theorem dX3_lawNamed_33 : decode cX3_lawNamed 33 = .ok (.aload_n 0, 1) := by decide +kernel
theorem dX3_lawNamed_34 : decode cX3_lawNamed 34 = .ok (.ldc 170, 2) := by decide +kernel
theorem dX3_lawNamed_36 : decode cX3_lawNamed 36 = .ok (.invokevirtual 72, 3) := by decide +kernel
theorem dX3_lawNamed_39 : decode cX3_lawNamed 39 = .ok (.ifCond .eq 7, 3) := by decide +kernel
theorem dX3_lawNamed_42 : decode cX3_lawNamed 42 = .ok (.iconst 3, 1) := by decide +kernel
theorem dX3_lawNamed_43 : decode cX3_lawNamed 43 = .ok (.goto 5, 3) := by decide +kernel
theorem dX3_lawNamed_46 : decode cX3_lawNamed 46 = .ok (.bipush (-4), 2) := by decide +kernel
theorem dX3_lawNamed_48 : decode cX3_lawNamed 48 = .ok (.ireturn, 1) := by decide +kernel
set_option maxRecDepth 20000 in
theorem ggX3_kindNamed_X3_isName : GoodIn wsX3_kindNamed wsX3_isName := goodIn_r _ [5, 6, 7, 8, 9, 10, 11, 12, 13, 14, 15, 16, 17, 18, 19, 20, 21, 22, 23, 24, 25, 26, 27, 28, 29, 30, 31, 32, 33, 34, 35, 36, 37, 38, 39, 40, 41, 42, 43, 44, 45, 46, 47, 48, 49, 50, 51, 52, 53, 54, 55, 56, 57, 58, 59, 60, 61, 62, 63, 64, 65, 66, 67, 68, 69, 70] (by decide +kernel) (by decide +kernel)
set_option maxRecDepth 20000 in
theorem gX3_kindNamed_X3_isName : GoodIn wsX3_kindNamed (wsV RX3 72 RX3 yX3_isName wsX3_isName) := goodIn_app (goodIn_of _ (by decide +kernel)) ggX3_kindNamed_X3_isName
theorem dX3_kindNamed_0 : decode cX3_kindNamed 0 = .ok (.aload_n 0, 1) := by decide +kernel
theorem dX3_kindNamed_1 : decode cX3_kindNamed 1 = .ok (.ldc 172, 2) := by decide +kernel
theorem dX3_kindNamed_3 : decode cX3_kindNamed 3 = .ok (.invokevirtual 72, 3) := by decide +kernel
theorem dX3_kindNamed_6 : decode cX3_kindNamed 6 = .ok (.ifCond .eq 5, 3) := by decide +kernel
theorem dX3_kindNamed_9 : decode cX3_kindNamed 9 = .ok (.iconst 0, 1) := by decide +kernel
theorem dX3_kindNamed_10 : decode cX3_kindNamed 10 = .ok (.ireturn, 1) := by decide +kernel
theorem dX3_kindNamed_11 : decode cX3_kindNamed 11 = .ok (.aload_n 0, 1) := by decide +kernel
theorem dX3_kindNamed_12 : decode cX3_kindNamed 12 = .ok (.ldc 174, 2) := by decide +kernel
theorem dX3_kindNamed_14 : decode cX3_kindNamed 14 = .ok (.invokevirtual 72, 3) := by decide +kernel
theorem dX3_kindNamed_17 : decode cX3_kindNamed 17 = .ok (.ifCond .eq 5, 3) := by decide +kernel
theorem dX3_kindNamed_20 : decode cX3_kindNamed 20 = .ok (.iconst 1, 1) := by decide +kernel
theorem dX3_kindNamed_21 : decode cX3_kindNamed 21 = .ok (.ireturn, 1) := by decide +kernel
theorem dX3_kindNamed_22 : decode cX3_kindNamed 22 = .ok (.aload_n 0, 1) := by decide +kernel
theorem dX3_kindNamed_23 : decode cX3_kindNamed 23 = .ok (.ldc 176, 2) := by decide +kernel
theorem dX3_kindNamed_25 : decode cX3_kindNamed 25 = .ok (.invokevirtual 72, 3) := by decide +kernel
theorem dX3_kindNamed_28 : decode cX3_kindNamed 28 = .ok (.ifCond .eq 5, 3) := by decide +kernel
theorem dX3_kindNamed_31 : decode cX3_kindNamed 31 = .ok (.iconst 2, 1) := by decide +kernel
theorem dX3_kindNamed_32 : decode cX3_kindNamed 32 = .ok (.ireturn, 1) := by decide +kernel
theorem dX3_kindNamed_33 : decode cX3_kindNamed 33 = .ok (.aload_n 0, 1) := by decide +kernel
theorem dX3_kindNamed_34 : decode cX3_kindNamed 34 = .ok (.ldc 178, 2) := by decide +kernel
theorem dX3_kindNamed_36 : decode cX3_kindNamed 36 = .ok (.invokevirtual 72, 3) := by decide +kernel
theorem dX3_kindNamed_39 : decode cX3_kindNamed 39 = .ok (.ifCond .eq 5, 3) := by decide +kernel
theorem dX3_kindNamed_42 : decode cX3_kindNamed 42 = .ok (.iconst 3, 1) := by decide +kernel
theorem dX3_kindNamed_43 : decode cX3_kindNamed 43 = .ok (.ireturn, 1) := by decide +kernel
theorem dX3_kindNamed_44 : decode cX3_kindNamed 44 = .ok (.aload_n 0, 1) := by decide +kernel
theorem dX3_kindNamed_45 : decode cX3_kindNamed 45 = .ok (.ldc 180, 2) := by decide +kernel
theorem dX3_kindNamed_47 : decode cX3_kindNamed 47 = .ok (.invokevirtual 72, 3) := by decide +kernel
theorem dX3_kindNamed_50 : decode cX3_kindNamed 50 = .ok (.ifCond .eq 7, 3) := by decide +kernel
theorem dX3_kindNamed_53 : decode cX3_kindNamed 53 = .ok (.iconst 4, 1) := by decide +kernel
theorem dX3_kindNamed_54 : decode cX3_kindNamed 54 = .ok (.goto 5, 3) := by decide +kernel
theorem dX3_kindNamed_57 : decode cX3_kindNamed 57 = .ok (.bipush (-4), 2) := by decide +kernel
theorem dX3_kindNamed_59 : decode cX3_kindNamed 59 = .ok (.ireturn, 1) := by decide +kernel
set_option maxRecDepth 20000 in
theorem ggX3_date_X3_figure : GoodIn wsX3_date wsX3_figure := goodIn_r _ [7, 8, 9, 1, 10, 11, 12, 6, 13, 14, 15, 16, 17, 18, 19, 20, 21, 22, 23, 24, 25, 26, 27, 28, 29, 30, 31, 32, 33, 34, 35, 36, 37, 38, 39, 40, 41] (by decide +kernel) (by decide +kernel)
set_option maxRecDepth 20000 in
theorem gX3_date_X3_figure : GoodIn wsX3_date (wsV RX3 99 RX3 yX3_figure wsX3_figure) := goodIn_app (goodIn_of _ (by decide +kernel)) ggX3_date_X3_figure
theorem dX3_date_0 : decode cX3_date 0 = .ok (.aload_n 0, 1) := by decide +kernel
theorem dX3_date_1 : decode cX3_date 1 = .ok (.iconst 0, 1) := by decide +kernel
theorem dX3_date_2 : decode cX3_date 2 = .ok (.bipush 99, 2) := by decide +kernel
theorem dX3_date_4 : decode cX3_date 4 = .ok (.invokevirtual 99, 3) := by decide +kernel
theorem dX3_date_7 : decode cX3_date 7 = .ok (.ifCond .ne 5, 3) := by decide +kernel
theorem dX3_date_10 : decode cX3_date 10 = .ok (.iconst 0, 1) := by decide +kernel
theorem dX3_date_11 : decode cX3_date 11 = .ok (.ireturn, 1) := by decide +kernel
theorem dX3_date_12 : decode cX3_date 12 = .ok (.aload_n 0, 1) := by decide +kernel
theorem dX3_date_13 : decode cX3_date 13 = .ok (.getfield 37, 3) := by decide +kernel
theorem dX3_date_16 : decode cX3_date 16 = .ok (.istore_n 1, 1) := by decide +kernel
theorem dX3_date_17 : decode cX3_date 17 = .ok (.aload_n 0, 1) := by decide +kernel
theorem dX3_date_18 : decode cX3_date 18 = .ok (.iconst 0, 1) := by decide +kernel
theorem dX3_date_19 : decode cX3_date 19 = .ok (.sipush 359, 3) := by decide +kernel
theorem dX3_date_22 : decode cX3_date 22 = .ok (.invokevirtual 99, 3) := by decide +kernel
theorem dX3_date_25 : decode cX3_date 25 = .ok (.ifCond .ne 5, 3) := by decide +kernel
theorem dX3_date_28 : decode cX3_date 28 = .ok (.iconst 0, 1) := by decide +kernel
theorem dX3_date_29 : decode cX3_date 29 = .ok (.ireturn, 1) := by decide +kernel
theorem dX3_date_30 : decode cX3_date 30 = .ok (.aload_n 0, 1) := by decide +kernel
theorem dX3_date_31 : decode cX3_date 31 = .ok (.iload_n 1, 1) := by decide +kernel
theorem dX3_date_32 : decode cX3_date 32 = .ok (.sipush 360, 3) := by decide +kernel
theorem dX3_date_35 : decode cX3_date 35 = .ok (.imul, 1) := by decide +kernel
theorem dX3_date_36 : decode cX3_date 36 = .ok (.aload_n 0, 1) := by decide +kernel
theorem dX3_date_37 : decode cX3_date 37 = .ok (.getfield 37, 3) := by decide +kernel
theorem dX3_date_40 : decode cX3_date 40 = .ok (.iadd, 1) := by decide +kernel
theorem dX3_date_41 : decode cX3_date 41 = .ok (.putfield 40, 3) := by decide +kernel
theorem dX3_date_44 : decode cX3_date 44 = .ok (.iconst 1, 1) := by decide +kernel
theorem dX3_date_45 : decode cX3_date 45 = .ok (.ireturn, 1) := by decide +kernel
set_option maxRecDepth 20000 in
theorem ggX3_figure_X3_next : GoodIn wsX3_figure wsX3_next := goodIn_r _ [8, 9, 10, 11, 2, 3, 1, 12, 13, 7, 14, 15, 16, 17, 18, 19, 20, 21, 22, 23, 24, 25, 26, 27, 28, 29, 30, 31, 32, 33, 34, 35, 36] (by decide +kernel) (by decide +kernel)
set_option maxRecDepth 20000 in
theorem gX3_figure_X3_next : GoodIn wsX3_figure (wsV RX3 55 RX3 yX3_next wsX3_next) := goodIn_app (goodIn_of _ (by decide +kernel)) ggX3_figure_X3_next
set_option maxRecDepth 20000 in
theorem ggX3_figure_X3_fail : GoodIn wsX3_figure wsX3_fail := goodIn_r _ [22, 23, 24, 25, 26, 27, 28, 29, 30, 31, 32, 33, 34, 35, 36] (by decide +kernel) (by decide +kernel)
set_option maxRecDepth 20000 in
theorem gX3_figure_X3_fail : GoodIn wsX3_figure (wsV RX3 63 RX3 yX3_fail wsX3_fail) := goodIn_app (goodIn_of _ (by decide +kernel)) ggX3_figure_X3_fail
theorem dX3_figure_0 : decode cX3_figure 0 = .ok (.aload_n 0, 1) := by decide +kernel
theorem dX3_figure_1 : decode cX3_figure 1 = .ok (.invokevirtual 55, 3) := by decide +kernel
theorem dX3_figure_4 : decode cX3_figure 4 = .ok (.ifCond .ne 5, 3) := by decide +kernel
theorem dX3_figure_7 : decode cX3_figure 7 = .ok (.iconst 0, 1) := by decide +kernel
theorem dX3_figure_8 : decode cX3_figure 8 = .ok (.ireturn, 1) := by decide +kernel
theorem dX3_figure_9 : decode cX3_figure 9 = .ok (.aload_n 0, 1) := by decide +kernel
theorem dX3_figure_10 : decode cX3_figure 10 = .ok (.getfield 31, 3) := by decide +kernel
theorem dX3_figure_13 : decode cX3_figure 13 = .ok (.iconst 2, 1) := by decide +kernel
theorem dX3_figure_14 : decode cX3_figure 14 = .ok (.if_icmp .eq 13, 3) := by decide +kernel
theorem dX3_figure_17 : decode cX3_figure 17 = .ok (.aload_n 0, 1) := by decide +kernel
theorem dX3_figure_18 : decode cX3_figure 18 = .ok (.iconst 2, 1) := by decide +kernel
theorem dX3_figure_19 : decode cX3_figure 19 = .ok (.aload_n 0, 1) := by decide +kernel
theorem dX3_figure_20 : decode cX3_figure 20 = .ok (.getfield 34, 3) := by decide +kernel
theorem dX3_figure_23 : decode cX3_figure 23 = .ok (.invokevirtual 63, 3) := by decide +kernel
theorem dX3_figure_26 : decode cX3_figure 26 = .ok (.ireturn, 1) := by decide +kernel
theorem dX3_figure_27 : decode cX3_figure 27 = .ok (.aload_n 0, 1) := by decide +kernel
theorem dX3_figure_28 : decode cX3_figure 28 = .ok (.getfield 37, 3) := by decide +kernel
theorem dX3_figure_31 : decode cX3_figure 31 = .ok (.iload_n 1, 1) := by decide +kernel
theorem dX3_figure_32 : decode cX3_figure 32 = .ok (.if_icmp .lt 11, 3) := by decide +kernel
theorem dX3_figure_35 : decode cX3_figure 35 = .ok (.aload_n 0, 1) := by decide +kernel
theorem dX3_figure_36 : decode cX3_figure 36 = .ok (.getfield 37, 3) := by decide +kernel
theorem dX3_figure_39 : decode cX3_figure 39 = .ok (.iload_n 2, 1) := by decide +kernel
theorem dX3_figure_40 : decode cX3_figure 40 = .ok (.if_icmp .le 15, 3) := by decide +kernel
theorem dX3_figure_43 : decode cX3_figure 43 = .ok (.aload_n 0, 1) := by decide +kernel
theorem dX3_figure_44 : decode cX3_figure 44 = .ok (.iconst 3, 1) := by decide +kernel
theorem dX3_figure_45 : decode cX3_figure 45 = .ok (.aload_n 0, 1) := by decide +kernel
theorem dX3_figure_46 : decode cX3_figure 46 = .ok (.getfield 34, 3) := by decide +kernel
theorem dX3_figure_49 : decode cX3_figure 49 = .ok (.invokevirtual 63, 3) := by decide +kernel
theorem dX3_figure_52 : decode cX3_figure 52 = .ok (.ifCond .eq 7, 3) := by decide +kernel
theorem dX3_figure_55 : decode cX3_figure 55 = .ok (.iconst 1, 1) := by decide +kernel
theorem dX3_figure_56 : decode cX3_figure 56 = .ok (.goto 4, 3) := by decide +kernel
theorem dX3_figure_59 : decode cX3_figure 59 = .ok (.iconst 0, 1) := by decide +kernel
theorem dX3_figure_60 : decode cX3_figure 60 = .ok (.ireturn, 1) := by decide +kernel
set_option maxRecDepth 20000 in
theorem ggX3_sign_X3_next : GoodIn wsX3_sign wsX3_next := goodIn_r _ [7, 8, 9, 10, 2, 11, 1, 12, 13, 6, 14, 15, 16, 17, 18, 19, 20, 21, 22, 23, 24, 25, 26, 27, 28, 29, 30, 31, 32, 33, 34, 35, 36] (by decide +kernel) (by decide +kernel)
set_option maxRecDepth 20000 in
theorem gX3_sign_X3_next : GoodIn wsX3_sign (wsV RX3 55 RX3 yX3_next wsX3_next) := goodIn_app (goodIn_of _ (by decide +kernel)) ggX3_sign_X3_next
set_option maxRecDepth 20000 in
theorem ggX3_sign_X3_fail : GoodIn wsX3_sign wsX3_fail := goodIn_r _ [22, 23, 24, 25, 26, 27, 28, 29, 30, 31, 32, 33, 34, 35, 36] (by decide +kernel) (by decide +kernel)
set_option maxRecDepth 20000 in
theorem gX3_sign_X3_fail : GoodIn wsX3_sign (wsV RX3 63 RX3 yX3_fail wsX3_fail) := goodIn_app (goodIn_of _ (by decide +kernel)) ggX3_sign_X3_fail
theorem dX3_sign_0 : decode cX3_sign 0 = .ok (.aload_n 0, 1) := by decide +kernel
theorem dX3_sign_1 : decode cX3_sign 1 = .ok (.invokevirtual 55, 3) := by decide +kernel
theorem dX3_sign_4 : decode cX3_sign 4 = .ok (.ifCond .eq 27, 3) := by decide +kernel
theorem dX3_sign_7 : decode cX3_sign 7 = .ok (.aload_n 0, 1) := by decide +kernel
theorem dX3_sign_8 : decode cX3_sign 8 = .ok (.getfield 31, 3) := by decide +kernel
theorem dX3_sign_11 : decode cX3_sign 11 = .ok (.iconst 3, 1) := by decide +kernel
theorem dX3_sign_12 : decode cX3_sign 12 = .ok (.if_icmp .eq 15, 3) := by decide +kernel
theorem dX3_sign_15 : decode cX3_sign 15 = .ok (.aload_n 0, 1) := by decide +kernel
theorem dX3_sign_16 : decode cX3_sign 16 = .ok (.iconst 2, 1) := by decide +kernel
theorem dX3_sign_17 : decode cX3_sign 17 = .ok (.aload_n 0, 1) := by decide +kernel
theorem dX3_sign_18 : decode cX3_sign 18 = .ok (.getfield 34, 3) := by decide +kernel
theorem dX3_sign_21 : decode cX3_sign 21 = .ok (.invokevirtual 63, 3) := by decide +kernel
theorem dX3_sign_24 : decode cX3_sign 24 = .ok (.ifCond .eq 7, 3) := by decide +kernel
theorem dX3_sign_27 : decode cX3_sign 27 = .ok (.iconst 1, 1) := by decide +kernel
theorem dX3_sign_28 : decode cX3_sign 28 = .ok (.goto 4, 3) := by decide +kernel
theorem dX3_sign_31 : decode cX3_sign 31 = .ok (.iconst 0, 1) := by decide +kernel
theorem dX3_sign_32 : decode cX3_sign 32 = .ok (.ireturn, 1) := by decide +kernel
theorem dX3_fail_0 : decode cX3_fail 0 = .ok (.aload_n 0, 1) := by decide +kernel
theorem dX3_fail_1 : decode cX3_fail 1 = .ok (.iload_n 1, 1) := by decide +kernel
theorem dX3_fail_2 : decode cX3_fail 2 = .ok (.putfield 22, 3) := by decide +kernel
theorem dX3_fail_5 : decode cX3_fail 5 = .ok (.aload_n 0, 1) := by decide +kernel
theorem dX3_fail_6 : decode cX3_fail 6 = .ok (.iload_n 2, 1) := by decide +kernel
theorem dX3_fail_7 : decode cX3_fail 7 = .ok (.putfield 25, 3) := by decide +kernel
theorem dX3_fail_10 : decode cX3_fail 10 = .ok (.iconst 0, 1) := by decide +kernel
theorem dX3_fail_11 : decode cX3_fail 11 = .ok (.ireturn, 1) := by decide +kernel
set_option maxRecDepth 20000 in
theorem ggX3_next_X3_isLetter : GoodIn wsX3_next wsX3_isLetter := goodIn_r _ [10] (by decide +kernel) (by decide +kernel)
set_option maxRecDepth 20000 in
theorem gX3_next_X3_isLetter : GoodIn wsX3_next (va_wsS RX3 182 yX3_isLetter wsX3_isLetter) := goodIn_app (goodIn_of _ (by decide +kernel)) ggX3_next_X3_isLetter
set_option maxRecDepth 20000 in
theorem ggX3_next_X3_nextNumber : GoodIn wsX3_next wsX3_nextNumber := goodIn_r _ [14, 6, 1, 2, 3, 4, 5, 21, 22, 23, 24, 25, 26, 27, 28, 29, 30, 31, 32] (by decide +kernel) (by decide +kernel)
set_option maxRecDepth 20000 in
theorem gX3_next_X3_nextNumber : GoodIn wsX3_next (wsV RX3 185 RX3 yX3_nextNumber wsX3_nextNumber) := goodIn_app (goodIn_of _ (by decide +kernel)) ggX3_next_X3_nextNumber
set_option maxRecDepth 20000 in
theorem ggX3_next_X3_fail : GoodIn wsX3_next wsX3_fail := goodIn_r _ [18, 19, 20, 21, 22, 23, 24, 25, 26, 27, 28, 29, 30, 31, 32] (by decide +kernel) (by decide +kernel)
set_option maxRecDepth 20000 in
theorem gX3_next_X3_fail : GoodIn wsX3_next (wsV RX3 63 RX3 yX3_fail wsX3_fail) := goodIn_app (goodIn_of _ (by decide +kernel)) ggX3_next_X3_fail
theorem dX3_next_0 : decode cX3_next 0 = .ok (.aload_n 0, 1) := by decide +kernel
theorem dX3_next_1 : decode cX3_next 1 = .ok (.getfield 28, 3) := by decide +kernel
theorem dX3_next_4 : decode cX3_next 4 = .ok (.aload_n 0, 1) := by decide +kernel
theorem dX3_next_5 : decode cX3_next 5 = .ok (.getfield 15, 3) := by decide +kernel
theorem dX3_next_8 : decode cX3_next 8 = .ok (.if_icmp .ge 30, 3) := by decide +kernel
theorem dX3_next_11 : decode cX3_next 11 = .ok (.aload_n 0, 1) := by decide +kernel
theorem dX3_next_12 : decode cX3_next 12 = .ok (.getfield 11, 3) := by decide +kernel
theorem dX3_next_15 : decode cX3_next 15 = .ok (.aload_n 0, 1) := by decide +kernel
theorem dX3_next_16 : decode cX3_next 16 = .ok (.getfield 28, 3) := by decide +kernel
theorem dX3_next_19 : decode cX3_next 19 = .ok (.iaload, 1) := by decide +kernel
theorem dX3_next_20 : decode cX3_next 20 = .ok (.bipush 32, 2) := by decide +kernel
theorem dX3_next_22 : decode cX3_next 22 = .ok (.if_icmp .ne 16, 3) := by decide +kernel
theorem dX3_next_25 : decode cX3_next 25 = .ok (.aload_n 0, 1) := by decide +kernel
theorem dX3_next_26 : decode cX3_next 26 = .ok (.dup, 1) := by decide +kernel
theorem dX3_next_27 : decode cX3_next 27 = .ok (.getfield 28, 3) := by decide +kernel
theorem dX3_next_30 : decode cX3_next 30 = .ok (.iconst 1, 1) := by decide +kernel
theorem dX3_next_31 : decode cX3_next 31 = .ok (.iadd, 1) := by decide +kernel
theorem dX3_next_32 : decode cX3_next 32 = .ok (.putfield 28, 3) := by decide +kernel
theorem dX3_next_35 : decode cX3_next 35 = .ok (.goto (-35), 3) := by decide +kernel
theorem dX3_next_38 : decode cX3_next 38 = .ok (.aload_n 0, 1) := by decide +kernel
theorem dX3_next_39 : decode cX3_next 39 = .ok (.aload_n 0, 1) := by decide +kernel
theorem dX3_next_40 : decode cX3_next 40 = .ok (.getfield 28, 3) := by decide +kernel
theorem dX3_next_43 : decode cX3_next 43 = .ok (.putfield 34, 3) := by decide +kernel
theorem dX3_next_46 : decode cX3_next 46 = .ok (.aload_n 0, 1) := by decide +kernel
theorem dX3_next_47 : decode cX3_next 47 = .ok (.iconst 0, 1) := by decide +kernel
theorem dX3_next_48 : decode cX3_next 48 = .ok (.putfield 37, 3) := by decide +kernel
theorem dX3_next_51 : decode cX3_next 51 = .ok (.aload_n 0, 1) := by decide +kernel
theorem dX3_next_52 : decode cX3_next 52 = .ok (.getfield 28, 3) := by decide +kernel
theorem dX3_next_55 : decode cX3_next 55 = .ok (.aload_n 0, 1) := by decide +kernel
theorem dX3_next_56 : decode cX3_next 56 = .ok (.getfield 15, 3) := by decide +kernel
theorem dX3_next_59 : decode cX3_next 59 = .ok (.if_icmp .lt 10, 3) := by decide +kernel
theorem dX3_next_62 : decode cX3_next 62 = .ok (.aload_n 0, 1) := by decide +kernel
theorem dX3_next_63 : decode cX3_next 63 = .ok (.iconst 0, 1) := by decide +kernel
theorem dX3_next_64 : decode cX3_next 64 = .ok (.putfield 31, 3) := by decide +kernel
theorem dX3_next_67 : decode cX3_next 67 = .ok (.iconst 1, 1) := by decide +kernel
theorem dX3_next_68 : decode cX3_next 68 = .ok (.ireturn, 1) := by decide +kernel
theorem dX3_next_69 : decode cX3_next 69 = .ok (.aload_n 0, 1) := by decide +kernel
theorem dX3_next_70 : decode cX3_next 70 = .ok (.getfield 11, 3) := by decide +kernel
theorem dX3_next_73 : decode cX3_next 73 = .ok (.aload_n 0, 1) := by decide +kernel
theorem dX3_next_74 : decode cX3_next 74 = .ok (.getfield 28, 3) := by decide +kernel
theorem dX3_next_77 : decode cX3_next 77 = .ok (.iaload, 1) := by decide +kernel
theorem dX3_next_78 : decode cX3_next 78 = .ok (.bipush 59, 2) := by decide +kernel
theorem dX3_next_80 : decode cX3_next 80 = .ok (.if_icmp .ne 20, 3) := by decide +kernel
theorem dX3_next_83 : decode cX3_next 83 = .ok (.aload_n 0, 1) := by decide +kernel
theorem dX3_next_84 : decode cX3_next 84 = .ok (.iconst 3, 1) := by decide +kernel
theorem dX3_next_85 : decode cX3_next 85 = .ok (.putfield 31, 3) := by decide +kernel
theorem dX3_next_88 : decode cX3_next 88 = .ok (.aload_n 0, 1) := by decide +kernel
theorem dX3_next_89 : decode cX3_next 89 = .ok (.dup, 1) := by decide +kernel
theorem dX3_next_90 : decode cX3_next 90 = .ok (.getfield 28, 3) := by decide +kernel
theorem dX3_next_93 : decode cX3_next 93 = .ok (.iconst 1, 1) := by decide +kernel
theorem dX3_next_94 : decode cX3_next 94 = .ok (.iadd, 1) := by decide +kernel
theorem dX3_next_95 : decode cX3_next 95 = .ok (.putfield 28, 3) := by decide +kernel
theorem dX3_next_98 : decode cX3_next 98 = .ok (.iconst 1, 1) := by decide +kernel
theorem dX3_next_99 : decode cX3_next 99 = .ok (.ireturn, 1) := by decide +kernel
theorem dX3_next_100 : decode cX3_next 100 = .ok (.aload_n 0, 1) := by decide +kernel
theorem dX3_next_101 : decode cX3_next 101 = .ok (.getfield 28, 3) := by decide +kernel
theorem dX3_next_104 : decode cX3_next 104 = .ok (.aload_n 0, 1) := by decide +kernel
theorem dX3_next_105 : decode cX3_next 105 = .ok (.getfield 15, 3) := by decide +kernel
theorem dX3_next_108 : decode cX3_next 108 = .ok (.if_icmp .ge 31, 3) := by decide +kernel
theorem dX3_next_111 : decode cX3_next 111 = .ok (.aload_n 0, 1) := by decide +kernel
theorem dX3_next_112 : decode cX3_next 112 = .ok (.getfield 11, 3) := by decide +kernel
theorem dX3_next_115 : decode cX3_next 115 = .ok (.aload_n 0, 1) := by decide +kernel
theorem dX3_next_116 : decode cX3_next 116 = .ok (.getfield 28, 3) := by decide +kernel
theorem dX3_next_119 : decode cX3_next 119 = .ok (.iaload, 1) := by decide +kernel
theorem dX3_next_120 : decode cX3_next 120 = .ok (.invokestatic 182, 3) := by decide +kernel
theorem dX3_next_123 : decode cX3_next 123 = .ok (.ifCond .eq 16, 3) := by decide +kernel
theorem dX3_next_126 : decode cX3_next 126 = .ok (.aload_n 0, 1) := by decide +kernel
theorem dX3_next_127 : decode cX3_next 127 = .ok (.dup, 1) := by decide +kernel
theorem dX3_next_128 : decode cX3_next 128 = .ok (.getfield 28, 3) := by decide +kernel
theorem dX3_next_131 : decode cX3_next 131 = .ok (.iconst 1, 1) := by decide +kernel
theorem dX3_next_132 : decode cX3_next 132 = .ok (.iadd, 1) := by decide +kernel
theorem dX3_next_133 : decode cX3_next 133 = .ok (.putfield 28, 3) := by decide +kernel
theorem dX3_next_136 : decode cX3_next 136 = .ok (.goto (-36), 3) := by decide +kernel
theorem dX3_next_139 : decode cX3_next 139 = .ok (.aload_n 0, 1) := by decide +kernel
theorem dX3_next_140 : decode cX3_next 140 = .ok (.getfield 28, 3) := by decide +kernel
theorem dX3_next_143 : decode cX3_next 143 = .ok (.aload_n 0, 1) := by decide +kernel
theorem dX3_next_144 : decode cX3_next 144 = .ok (.getfield 34, 3) := by decide +kernel
theorem dX3_next_147 : decode cX3_next 147 = .ok (.if_icmp .le 10, 3) := by decide +kernel
theorem dX3_next_150 : decode cX3_next 150 = .ok (.aload_n 0, 1) := by decide +kernel
theorem dX3_next_151 : decode cX3_next 151 = .ok (.iconst 1, 1) := by decide +kernel
theorem dX3_next_152 : decode cX3_next 152 = .ok (.putfield 31, 3) := by decide +kernel
theorem dX3_next_155 : decode cX3_next 155 = .ok (.iconst 1, 1) := by decide +kernel
theorem dX3_next_156 : decode cX3_next 156 = .ok (.ireturn, 1) := by decide +kernel
theorem dX3_next_157 : decode cX3_next 157 = .ok (.aload_n 0, 1) := by decide +kernel
theorem dX3_next_158 : decode cX3_next 158 = .ok (.invokevirtual 185, 3) := by decide +kernel
theorem dX3_next_161 : decode cX3_next 161 = .ok (.ifCond .ne 15, 3) := by decide +kernel
theorem dX3_next_164 : decode cX3_next 164 = .ok (.aload_n 0, 1) := by decide +kernel
theorem dX3_next_165 : decode cX3_next 165 = .ok (.iconst 1, 1) := by decide +kernel
theorem dX3_next_166 : decode cX3_next 166 = .ok (.aload_n 0, 1) := by decide +kernel
theorem dX3_next_167 : decode cX3_next 167 = .ok (.getfield 34, 3) := by decide +kernel
theorem dX3_next_170 : decode cX3_next 170 = .ok (.invokevirtual 63, 3) := by decide +kernel
theorem dX3_next_173 : decode cX3_next 173 = .ok (.ifCond .eq 7, 3) := by decide +kernel
theorem dX3_next_176 : decode cX3_next 176 = .ok (.iconst 1, 1) := by decide +kernel
theorem dX3_next_177 : decode cX3_next 177 = .ok (.goto 4, 3) := by decide +kernel
theorem dX3_next_180 : decode cX3_next 180 = .ok (.iconst 0, 1) := by decide +kernel
theorem dX3_next_181 : decode cX3_next 181 = .ok (.ireturn, 1) := by decide +kernel
theorem dX3_nextNumber_0 : decode cX3_nextNumber 0 = .ok (.aload_n 0, 1) := by decide +kernel
theorem dX3_nextNumber_1 : decode cX3_nextNumber 1 = .ok (.iconst 2, 1) := by decide +kernel
theorem dX3_nextNumber_2 : decode cX3_nextNumber 2 = .ok (.putfield 31, 3) := by decide +kernel
theorem dX3_nextNumber_5 : decode cX3_nextNumber 5 = .ok (.aload_n 0, 1) := by decide +kernel
theorem dX3_nextNumber_6 : decode cX3_nextNumber 6 = .ok (.getfield 28, 3) := by decide +kernel
theorem dX3_nextNumber_9 : decode cX3_nextNumber 9 = .ok (.aload_n 0, 1) := by decide +kernel
theorem dX3_nextNumber_10 : decode cX3_nextNumber 10 = .ok (.getfield 15, 3) := by decide +kernel
theorem dX3_nextNumber_13 : decode cX3_nextNumber 13 = .ok (.if_icmp .ge 81, 3) := by decide +kernel
theorem dX3_nextNumber_16 : decode cX3_nextNumber 16 = .ok (.aload_n 0, 1) := by decide +kernel
theorem dX3_nextNumber_17 : decode cX3_nextNumber 17 = .ok (.getfield 11, 3) := by decide +kernel
theorem dX3_nextNumber_20 : decode cX3_nextNumber 20 = .ok (.aload_n 0, 1) := by decide +kernel
theorem dX3_nextNumber_21 : decode cX3_nextNumber 21 = .ok (.getfield 28, 3) := by decide +kernel
theorem dX3_nextNumber_24 : decode cX3_nextNumber 24 = .ok (.iaload, 1) := by decide +kernel
theorem dX3_nextNumber_25 : decode cX3_nextNumber 25 = .ok (.bipush 48, 2) := by decide +kernel
theorem dX3_nextNumber_27 : decode cX3_nextNumber 27 = .ok (.if_icmp .lt 67, 3) := by decide +kernel
theorem dX3_nextNumber_30 : decode cX3_nextNumber 30 = .ok (.aload_n 0, 1) := by decide +kernel
theorem dX3_nextNumber_31 : decode cX3_nextNumber 31 = .ok (.getfield 11, 3) := by decide +kernel
theorem dX3_nextNumber_34 : decode cX3_nextNumber 34 = .ok (.aload_n 0, 1) := by decide +kernel
theorem dX3_nextNumber_35 : decode cX3_nextNumber 35 = .ok (.getfield 28, 3) := by decide +kernel
theorem dX3_nextNumber_38 : decode cX3_nextNumber 38 = .ok (.iaload, 1) := by decide +kernel
theorem dX3_nextNumber_39 : decode cX3_nextNumber 39 = .ok (.bipush 57, 2) := by decide +kernel
theorem dX3_nextNumber_41 : decode cX3_nextNumber 41 = .ok (.if_icmp .gt 53, 3) := by decide +kernel
theorem dX3_nextNumber_44 : decode cX3_nextNumber 44 = .ok (.aload_n 0, 1) := by decide +kernel
theorem dX3_nextNumber_45 : decode cX3_nextNumber 45 = .ok (.getfield 28, 3) := by decide +kernel
theorem dX3_nextNumber_48 : decode cX3_nextNumber 48 = .ok (.aload_n 0, 1) := by decide +kernel
theorem dX3_nextNumber_49 : decode cX3_nextNumber 49 = .ok (.getfield 34, 3) := by decide +kernel
theorem dX3_nextNumber_52 : decode cX3_nextNumber 52 = .ok (.isub, 1) := by decide +kernel
theorem dX3_nextNumber_53 : decode cX3_nextNumber 53 = .ok (.iconst 3, 1) := by decide +kernel
theorem dX3_nextNumber_54 : decode cX3_nextNumber 54 = .ok (.if_icmp .ge 27, 3) := by decide +kernel
theorem dX3_nextNumber_57 : decode cX3_nextNumber 57 = .ok (.aload_n 0, 1) := by decide +kernel
theorem dX3_nextNumber_58 : decode cX3_nextNumber 58 = .ok (.aload_n 0, 1) := by decide +kernel
theorem dX3_nextNumber_59 : decode cX3_nextNumber 59 = .ok (.getfield 37, 3) := by decide +kernel
theorem dX3_nextNumber_62 : decode cX3_nextNumber 62 = .ok (.bipush 10, 2) := by decide +kernel
theorem dX3_nextNumber_64 : decode cX3_nextNumber 64 = .ok (.imul, 1) := by decide +kernel
theorem dX3_nextNumber_65 : decode cX3_nextNumber 65 = .ok (.aload_n 0, 1) := by decide +kernel
theorem dX3_nextNumber_66 : decode cX3_nextNumber 66 = .ok (.getfield 11, 3) := by decide +kernel
theorem dX3_nextNumber_69 : decode cX3_nextNumber 69 = .ok (.aload_n 0, 1) := by decide +kernel
theorem dX3_nextNumber_70 : decode cX3_nextNumber 70 = .ok (.getfield 28, 3) := by decide +kernel
theorem dX3_nextNumber_73 : decode cX3_nextNumber 73 = .ok (.iaload, 1) := by decide +kernel
theorem dX3_nextNumber_74 : decode cX3_nextNumber 74 = .ok (.iadd, 1) := by decide +kernel
theorem dX3_nextNumber_75 : decode cX3_nextNumber 75 = .ok (.bipush 48, 2) := by decide +kernel
theorem dX3_nextNumber_77 : decode cX3_nextNumber 77 = .ok (.isub, 1) := by decide +kernel
theorem dX3_nextNumber_78 : decode cX3_nextNumber 78 = .ok (.putfield 37, 3) := by decide +kernel
theorem dX3_nextNumber_81 : decode cX3_nextNumber 81 = .ok (.aload_n 0, 1) := by decide +kernel
theorem dX3_nextNumber_82 : decode cX3_nextNumber 82 = .ok (.dup, 1) := by decide +kernel
theorem dX3_nextNumber_83 : decode cX3_nextNumber 83 = .ok (.getfield 28, 3) := by decide +kernel
theorem dX3_nextNumber_86 : decode cX3_nextNumber 86 = .ok (.iconst 1, 1) := by decide +kernel
theorem dX3_nextNumber_87 : decode cX3_nextNumber 87 = .ok (.iadd, 1) := by decide +kernel
theorem dX3_nextNumber_88 : decode cX3_nextNumber 88 = .ok (.putfield 28, 3) := by decide +kernel
theorem dX3_nextNumber_91 : decode cX3_nextNumber 91 = .ok (.goto (-86), 3) := by decide +kernel
theorem dX3_nextNumber_94 : decode cX3_nextNumber 94 = .ok (.aload_n 0, 1) := by decide +kernel
theorem dX3_nextNumber_95 : decode cX3_nextNumber 95 = .ok (.getfield 28, 3) := by decide +kernel
theorem dX3_nextNumber_98 : decode cX3_nextNumber 98 = .ok (.aload_n 0, 1) := by decide +kernel
theorem dX3_nextNumber_99 : decode cX3_nextNumber 99 = .ok (.getfield 34, 3) := by decide +kernel
theorem dX3_nextNumber_102 : decode cX3_nextNumber 102 = .ok (.if_icmp .le 20, 3) := by decide +kernel
theorem dX3_nextNumber_105 : decode cX3_nextNumber 105 = .ok (.aload_n 0, 1) := by decide +kernel
theorem dX3_nextNumber_106 : decode cX3_nextNumber 106 = .ok (.getfield 28, 3) := by decide +kernel
theorem dX3_nextNumber_109 : decode cX3_nextNumber 109 = .ok (.aload_n 0, 1) := by decide +kernel
theorem dX3_nextNumber_110 : decode cX3_nextNumber 110 = .ok (.getfield 34, 3) := by decide +kernel
theorem dX3_nextNumber_113 : decode cX3_nextNumber 113 = .ok (.isub, 1) := by decide +kernel
theorem dX3_nextNumber_114 : decode cX3_nextNumber 114 = .ok (.iconst 3, 1) := by decide +kernel
theorem dX3_nextNumber_115 : decode cX3_nextNumber 115 = .ok (.if_icmp .gt 7, 3) := by decide +kernel
theorem dX3_nextNumber_118 : decode cX3_nextNumber 118 = .ok (.iconst 1, 1) := by decide +kernel
theorem dX3_nextNumber_119 : decode cX3_nextNumber 119 = .ok (.goto 4, 3) := by decide +kernel
theorem dX3_nextNumber_122 : decode cX3_nextNumber 122 = .ok (.iconst 0, 1) := by decide +kernel
theorem dX3_nextNumber_123 : decode cX3_nextNumber 123 = .ok (.ireturn, 1) := by decide +kernel
theorem dX3_isLetter_0 : decode cX3_isLetter 0 = .ok (.iload_n 0, 1) := by decide +kernel
theorem dX3_isLetter_1 : decode cX3_isLetter 1 = .ok (.bipush 97, 2) := by decide +kernel
theorem dX3_isLetter_3 : decode cX3_isLetter 3 = .ok (.if_icmp .lt 13, 3) := by decide +kernel
theorem dX3_isLetter_6 : decode cX3_isLetter 6 = .ok (.iload_n 0, 1) := by decide +kernel
theorem dX3_isLetter_7 : decode cX3_isLetter 7 = .ok (.bipush 122, 2) := by decide +kernel
theorem dX3_isLetter_9 : decode cX3_isLetter 9 = .ok (.if_icmp .gt 7, 3) := by decide +kernel
theorem dX3_isLetter_12 : decode cX3_isLetter 12 = .ok (.iconst 1, 1) := by decide +kernel
theorem dX3_isLetter_13 : decode cX3_isLetter 13 = .ok (.goto 4, 3) := by decide +kernel
theorem dX3_isLetter_16 : decode cX3_isLetter 16 = .ok (.iconst 0, 1) := by decide +kernel
theorem dX3_isLetter_17 : decode cX3_isLetter 17 = .ok (.ireturn, 1) := by decide +kernel
set_option maxRecDepth 20000 in
theorem ggX3_isName_J0_length_8abf5 : GoodIn wsX3_isName wsJ0_length_8abf5 := goodIn_r _ [9, 10, 11, 12, 13, 8, 14, 15, 16] (by decide +kernel) (by decide +kernel)
set_option maxRecDepth 20000 in
theorem gX3_isName_J0_length_8abf5 : GoodIn wsX3_isName (wsV RX3 188 RJ0 yJ0_length_8abf5 wsJ0_length_8abf5) := goodIn_app (goodIn_of _ (by decide +kernel)) ggX3_isName_J0_length_8abf5
set_option maxRecDepth 20000 in
theorem ggX3_isName_J0_charAt_5068e : GoodIn wsX3_isName wsJ0_charAt_5068e := goodIn_r _ [20, 10, 21, 22, 23, 8, 24, 15, 16, 25, 26, 27, 28, 29, 30, 31, 32, 33, 34, 35, 36, 37, 38, 39, 40, 41, 42, 43, 44, 45, 46, 47, 48, 49, 50, 51, 52, 53] (by decide +kernel) (by decide +kernel)
set_option maxRecDepth 20000 in
theorem gX3_isName_J0_charAt_5068e : GoodIn wsX3_isName (wsV RX3 192 RJ0 yJ0_charAt_5068e wsJ0_charAt_5068e) := goodIn_app (goodIn_of _ (by decide +kernel)) ggX3_isName_J0_charAt_5068e
theorem dX3_isName_0 : decode cX3_isName 0 = .ok (.aload_n 0, 1) := by decide +kernel
theorem dX3_isName_1 : decode cX3_isName 1 = .ok (.getfield 31, 3) := by decide +kernel
theorem dX3_isName_4 : decode cX3_isName 4 = .ok (.iconst 1, 1) := by decide +kernel
theorem dX3_isName_5 : decode cX3_isName 5 = .ok (.if_icmp .ne 19, 3) := by decide +kernel
theorem dX3_isName_8 : decode cX3_isName 8 = .ok (.aload_n 0, 1) := by decide +kernel
theorem dX3_isName_9 : decode cX3_isName 9 = .ok (.getfield 28, 3) := by decide +kernel
theorem dX3_isName_12 : decode cX3_isName 12 = .ok (.aload_n 0, 1) := by decide +kernel
theorem dX3_isName_13 : decode cX3_isName 13 = .ok (.getfield 34, 3) := by decide +kernel
theorem dX3_isName_16 : decode cX3_isName 16 = .ok (.isub, 1) := by decide +kernel
theorem dX3_isName_17 : decode cX3_isName 17 = .ok (.aload_n 1, 1) := by decide +kernel
theorem dX3_isName_18 : decode cX3_isName 18 = .ok (.invokevirtual 188, 3) := by decide +kernel
theorem dX3_isName_21 : decode cX3_isName 21 = .ok (.if_icmp .eq 5, 3) := by decide +kernel
theorem dX3_isName_24 : decode cX3_isName 24 = .ok (.iconst 0, 1) := by decide +kernel
theorem dX3_isName_25 : decode cX3_isName 25 = .ok (.ireturn, 1) := by decide +kernel
theorem dX3_isName_26 : decode cX3_isName 26 = .ok (.iconst 0, 1) := by decide +kernel
theorem dX3_isName_27 : decode cX3_isName 27 = .ok (.istore_n 2, 1) := by decide +kernel
theorem dX3_isName_28 : decode cX3_isName 28 = .ok (.iload_n 2, 1) := by decide +kernel
theorem dX3_isName_29 : decode cX3_isName 29 = .ok (.aload_n 1, 1) := by decide +kernel
theorem dX3_isName_30 : decode cX3_isName 30 = .ok (.invokevirtual 188, 3) := by decide +kernel
theorem dX3_isName_33 : decode cX3_isName 33 = .ok (.if_icmp .ge 30, 3) := by decide +kernel
theorem dX3_isName_36 : decode cX3_isName 36 = .ok (.aload_n 0, 1) := by decide +kernel
theorem dX3_isName_37 : decode cX3_isName 37 = .ok (.getfield 11, 3) := by decide +kernel
theorem dX3_isName_40 : decode cX3_isName 40 = .ok (.aload_n 0, 1) := by decide +kernel
theorem dX3_isName_41 : decode cX3_isName 41 = .ok (.getfield 34, 3) := by decide +kernel
theorem dX3_isName_44 : decode cX3_isName 44 = .ok (.iload_n 2, 1) := by decide +kernel
theorem dX3_isName_45 : decode cX3_isName 45 = .ok (.iadd, 1) := by decide +kernel
theorem dX3_isName_46 : decode cX3_isName 46 = .ok (.iaload, 1) := by decide +kernel
theorem dX3_isName_47 : decode cX3_isName 47 = .ok (.aload_n 1, 1) := by decide +kernel
theorem dX3_isName_48 : decode cX3_isName 48 = .ok (.iload_n 2, 1) := by decide +kernel
theorem dX3_isName_49 : decode cX3_isName 49 = .ok (.invokevirtual 192, 3) := by decide +kernel
theorem dX3_isName_52 : decode cX3_isName 52 = .ok (.if_icmp .eq 5, 3) := by decide +kernel
theorem dX3_isName_55 : decode cX3_isName 55 = .ok (.iconst 0, 1) := by decide +kernel
theorem dX3_isName_56 : decode cX3_isName 56 = .ok (.ireturn, 1) := by decide +kernel
theorem dX3_isName_57 : decode cX3_isName 57 = .ok (.iinc 2 1, 3) := by decide +kernel
theorem dX3_isName_60 : decode cX3_isName 60 = .ok (.goto (-32), 3) := by decide +kernel
theorem dX3_isName_63 : decode cX3_isName 63 = .ok (.iconst 1, 1) := by decide +kernel
theorem dX3_isName_64 : decode cX3_isName 64 = .ok (.ireturn, 1) := by decide +kernel
