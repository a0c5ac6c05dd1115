theorem dX4_init_0 : decode cX4_init 0 = .ok (.aload_n 0, 1) := by decide +kernel
theorem dX4_init_1 : decode cX4_init 1 = .ok (.invokespecial 3, 3) := by decide +kernel
theorem dX4_init_4 : decode cX4_init 4 = .ok (.aload_n 0, 1) := by decide +kernel
theorem dX4_init_5 : decode cX4_init 5 = .ok (.iconst 0, 1) := by decide +kernel
theorem dX4_init_6 : decode cX4_init 6 = .ok (.putfield 9, 3) := by decide +kernel
theorem dX4_init_9 : decode cX4_init 9 = .ok (.aload_n 0, 1) := by decide +kernel
theorem dX4_init_10 : decode cX4_init 10 = .ok (.iconst 0, 1) := by decide +kernel
theorem dX4_init_11 : decode cX4_init 11 = .ok (.iload_n 1, 1) := by decide +kernel
theorem dX4_init_12 : decode cX4_init 12 = .ok (.invokestatic 15, 3) := by decide +kernel
theorem dX4_init_15 : decode cX4_init 15 = .ok (.putfield 21, 3) := by decide +kernel
theorem dX4_init_18 : decode cX4_init 18 = .ok (.aload_n 0, 1) := by decide +kernel
theorem dX4_init_19 : decode cX4_init 19 = .ok (.aload_n 0, 1) := by decide +kernel
theorem dX4_init_20 : decode cX4_init 20 = .ok (.getfield 21, 3) := by decide +kernel
theorem dX4_init_23 : decode cX4_init 23 = .ok (.newarray .int, 2) := by decide +kernel
theorem dX4_init_25 : decode cX4_init 25 = .ok (.putfield 24, 3) := by decide +kernel
theorem dX4_init_28 : decode cX4_init 28 = .ok (.aload_n 0, 1) := by decide +kernel
theorem dX4_init_29 : decode cX4_init 29 = .ok (.aload_n 0, 1) := by decide +kernel
theorem dX4_init_30 : decode cX4_init 30 = .ok (.getfield 21, 3) := by decide +kernel
theorem dX4_init_33 : decode cX4_init 33 = .ok (.newarray .int, 2) := by decide +kernel
theorem dX4_init_35 : decode cX4_init 35 = .ok (.putfield 28, 3) := by decide +kernel
theorem dX4_init_38 : decode cX4_init 38 = .ok (.aload_n 0, 1) := by decide +kernel
theorem dX4_init_39 : decode cX4_init 39 = .ok (.aload_n 0, 1) := by decide +kernel
theorem dX4_init_40 : decode cX4_init 40 = .ok (.getfield 21, 3) := by decide +kernel
theorem dX4_init_43 : decode cX4_init 43 = .ok (.newarray .int, 2) := by decide +kernel
theorem dX4_init_45 : decode cX4_init 45 = .ok (.putfield 31, 3) := by decide +kernel
theorem dX4_init_48 : decode cX4_init 48 = .ok (.return_, 1) := by decide +kernel
theorem dX4_add_0 : decode cX4_add 0 = .ok (.aload_n 0, 1) := by decide +kernel
theorem dX4_add_1 : decode cX4_add 1 = .ok (.getfield 9, 3) := by decide +kernel
theorem dX4_add_4 : decode cX4_add 4 = .ok (.aload_n 0, 1) := by decide +kernel
theorem dX4_add_5 : decode cX4_add 5 = .ok (.getfield 21, 3) := by decide +kernel
theorem dX4_add_8 : decode cX4_add 8 = .ok (.if_icmp .lt 5, 3) := by decide +kernel
theorem dX4_add_11 : decode cX4_add 11 = .ok (.iconst 0, 1) := by decide +kernel
theorem dX4_add_12 : decode cX4_add 12 = .ok (.ireturn, 1) := by decide +kernel
theorem dX4_add_13 : decode cX4_add 13 = .ok (.aload_n 0, 1) := by decide +kernel
theorem dX4_add_14 : decode cX4_add 14 = .ok (.getfield 24, 3) := by decide +kernel
theorem dX4_add_17 : decode cX4_add 17 = .ok (.aload_n 0, 1) := by decide +kernel
theorem dX4_add_18 : decode cX4_add 18 = .ok (.getfield 9, 3) := by decide +kernel
theorem dX4_add_21 : decode cX4_add 21 = .ok (.iload_n 1, 1) := by decide +kernel
theorem dX4_add_22 : decode cX4_add 22 = .ok (.iastore, 1) := by decide +kernel
theorem dX4_add_23 : decode cX4_add 23 = .ok (.aload_n 0, 1) := by decide +kernel
theorem dX4_add_24 : decode cX4_add 24 = .ok (.getfield 28, 3) := by decide +kernel
theorem dX4_add_27 : decode cX4_add 27 = .ok (.aload_n 0, 1) := by decide +kernel
theorem dX4_add_28 : decode cX4_add 28 = .ok (.getfield 9, 3) := by decide +kernel
theorem dX4_add_31 : decode cX4_add 31 = .ok (.iload_n 2, 1) := by decide +kernel
theorem dX4_add_32 : decode cX4_add 32 = .ok (.iastore, 1) := by decide +kernel
theorem dX4_add_33 : decode cX4_add 33 = .ok (.aload_n 0, 1) := by decide +kernel
theorem dX4_add_34 : decode cX4_add 34 = .ok (.getfield 31, 3) := by decide +kernel
theorem dX4_add_37 : decode cX4_add 37 = .ok (.aload_n 0, 1) := by decide +kernel
theorem dX4_add_38 : decode cX4_add 38 = .ok (.getfield 9, 3) := by decide +kernel
theorem dX4_add_41 : decode cX4_add 41 = .ok (.iload_n 3, 1) := by decide +kernel
theorem dX4_add_42 : decode cX4_add 42 = .ok (.iastore, 1) := by decide +kernel
theorem dX4_add_43 : decode cX4_add 43 = .ok (.aload_n 0, 1) := by decide +kernel
theorem dX4_add_44 : decode cX4_add 44 = .ok (.dup, 1) := by decide +kernel
theorem dX4_add_45 : decode cX4_add 45 = .ok (.getfield 9, 3) := by decide +kernel
theorem dX4_add_48 : decode cX4_add 48 = .ok (.iconst 1, 1) := by decide +kernel
theorem dX4_add_49 : decode cX4_add 49 = .ok (.iadd, 1) := by decide +kernel
theorem dX4_add_50 : decode cX4_add 50 = .ok (.putfield 9, 3) := by decide +kernel
theorem dX4_add_53 : decode cX4_add 53 = .ok (.iconst 1, 1) := by decide +kernel
theorem dX4_add_54 : decode cX4_add 54 = .ok (.ireturn, 1) := by decide +kernel
set_option maxRecDepth 20000 in
theorem ggX4_firstLie_X5_numberOf : GoodIn wsX4_firstLie wsX5_numberOf := goodIn_r _ [9, 10, 11, 12, 13, 8, 14, 15, 16, 17, 18, 19, 20, 21, 22, 23, 24, 25, 26, 27, 28, 29, 30, 31, 32, 33, 34, 35, 36, 37, 38, 39, 40, 41, 42, 43, 44, 45, 46, 47, 48, 49, 50, 51, 52, 53, 54, 55, 56, 57, 58, 59, 60, 66, 67, 68, 69, 70, 71, 72, 73, 74, 75, 76, 77, 78, 79, 80, 81, 82, 83, 84, 85] (by decide +kernel) (by decide +kernel)
set_option maxRecDepth 20000 in
theorem gX4_firstLie_X5_numberOf : GoodIn wsX4_firstLie (wsV RX4 34 RX5 yX5_numberOf wsX5_numberOf) := goodIn_app (goodIn_of _ (by decide +kernel)) ggX4_firstLie_X5_numberOf
theorem dX4_firstLie_0 : decode cX4_firstLie 0 = .ok (.iconst 0, 1) := by decide +kernel
theorem dX4_firstLie_1 : decode cX4_firstLie 1 = .ok (.istore_n 2, 1) := by decide +kernel
theorem dX4_firstLie_2 : decode cX4_firstLie 2 = .ok (.iload_n 2, 1) := by decide +kernel
theorem dX4_firstLie_3 : decode cX4_firstLie 3 = .ok (.aload_n 0, 1) := by decide +kernel
theorem dX4_firstLie_4 : decode cX4_firstLie 4 = .ok (.getfield 9, 3) := by decide +kernel
theorem dX4_firstLie_7 : decode cX4_firstLie 7 = .ok (.if_icmp .ge 36, 3) := by decide +kernel
theorem dX4_firstLie_10 : decode cX4_firstLie 10 = .ok (.aload_n 1, 1) := by decide +kernel
theorem dX4_firstLie_11 : decode cX4_firstLie 11 = .ok (.aload_n 0, 1) := by decide +kernel
theorem dX4_firstLie_12 : decode cX4_firstLie 12 = .ok (.getfield 24, 3) := by decide +kernel
theorem dX4_firstLie_15 : decode cX4_firstLie 15 = .ok (.iload_n 2, 1) := by decide +kernel
theorem dX4_firstLie_16 : decode cX4_firstLie 16 = .ok (.iaload, 1) := by decide +kernel
theorem dX4_firstLie_17 : decode cX4_firstLie 17 = .ok (.aload_n 0, 1) := by decide +kernel
theorem dX4_firstLie_18 : decode cX4_firstLie 18 = .ok (.getfield 28, 3) := by decide +kernel
theorem dX4_firstLie_21 : decode cX4_firstLie 21 = .ok (.iload_n 2, 1) := by decide +kernel
theorem dX4_firstLie_22 : decode cX4_firstLie 22 = .ok (.iaload, 1) := by decide +kernel
theorem dX4_firstLie_23 : decode cX4_firstLie 23 = .ok (.invokevirtual 34, 3) := by decide +kernel
theorem dX4_firstLie_26 : decode cX4_firstLie 26 = .ok (.aload_n 0, 1) := by decide +kernel
theorem dX4_firstLie_27 : decode cX4_firstLie 27 = .ok (.getfield 31, 3) := by decide +kernel
theorem dX4_firstLie_30 : decode cX4_firstLie 30 = .ok (.iload_n 2, 1) := by decide +kernel
theorem dX4_firstLie_31 : decode cX4_firstLie 31 = .ok (.iaload, 1) := by decide +kernel
theorem dX4_firstLie_32 : decode cX4_firstLie 32 = .ok (.if_icmp .eq 5, 3) := by decide +kernel
theorem dX4_firstLie_35 : decode cX4_firstLie 35 = .ok (.iload_n 2, 1) := by decide +kernel
theorem dX4_firstLie_36 : decode cX4_firstLie 36 = .ok (.ireturn, 1) := by decide +kernel
theorem dX4_firstLie_37 : decode cX4_firstLie 37 = .ok (.iinc 2 1, 3) := by decide +kernel
theorem dX4_firstLie_40 : decode cX4_firstLie 40 = .ok (.goto (-38), 3) := by decide +kernel
theorem dX4_firstLie_43 : decode cX4_firstLie 43 = .ok (.bipush (-4), 2) := by decide +kernel
theorem dX4_firstLie_45 : decode cX4_firstLie 45 = .ok (.ireturn, 1) := by decide +kernel
