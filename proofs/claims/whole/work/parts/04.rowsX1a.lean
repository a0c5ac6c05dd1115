theorem dX1_init_0 : decode cX1_init 0 = .ok (.aload_n 0, 1) := by decide +kernel
theorem dX1_init_1 : decode cX1_init 1 = .ok (.invokespecial 3, 3) := by decide +kernel
theorem dX1_init_4 : decode cX1_init 4 = .ok (.aload_n 0, 1) := by decide +kernel
theorem dX1_init_5 : decode cX1_init 5 = .ok (.iconst 4, 1) := by decide +kernel
theorem dX1_init_6 : decode cX1_init 6 = .ok (.bipush 40, 2) := by decide +kernel
theorem dX1_init_8 : decode cX1_init 8 = .ok (.multianewarray 11 2, 4) := by decide +kernel
theorem dX1_init_12 : decode cX1_init 12 = .ok (.putfield 13, 3) := by decide +kernel
theorem dX1_init_15 : decode cX1_init 15 = .ok (.aload_n 0, 1) := by decide +kernel
theorem dX1_init_16 : decode cX1_init 16 = .ok (.iconst 4, 1) := by decide +kernel
theorem dX1_init_17 : decode cX1_init 17 = .ok (.newarray .int, 2) := by decide +kernel
theorem dX1_init_19 : decode cX1_init 19 = .ok (.putfield 16, 3) := by decide +kernel
theorem dX1_init_22 : decode cX1_init 22 = .ok (.aload_n 0, 1) := by decide +kernel
theorem dX1_init_23 : decode cX1_init 23 = .ok (.iconst 4, 1) := by decide +kernel
theorem dX1_init_24 : decode cX1_init 24 = .ok (.newarray .int, 2) := by decide +kernel
theorem dX1_init_26 : decode cX1_init 26 = .ok (.dup, 1) := by decide +kernel
theorem dX1_init_27 : decode cX1_init 27 = .ok (.iconst 0, 1) := by decide +kernel
theorem dX1_init_28 : decode cX1_init 28 = .ok (.iconst (-1), 1) := by decide +kernel
theorem dX1_init_29 : decode cX1_init 29 = .ok (.iastore, 1) := by decide +kernel
theorem dX1_init_30 : decode cX1_init 30 = .ok (.dup, 1) := by decide +kernel
theorem dX1_init_31 : decode cX1_init 31 = .ok (.iconst 1, 1) := by decide +kernel
theorem dX1_init_32 : decode cX1_init 32 = .ok (.iconst (-1), 1) := by decide +kernel
theorem dX1_init_33 : decode cX1_init 33 = .ok (.iastore, 1) := by decide +kernel
theorem dX1_init_34 : decode cX1_init 34 = .ok (.dup, 1) := by decide +kernel
theorem dX1_init_35 : decode cX1_init 35 = .ok (.iconst 2, 1) := by decide +kernel
theorem dX1_init_36 : decode cX1_init 36 = .ok (.iconst (-1), 1) := by decide +kernel
theorem dX1_init_37 : decode cX1_init 37 = .ok (.iastore, 1) := by decide +kernel
theorem dX1_init_38 : decode cX1_init 38 = .ok (.dup, 1) := by decide +kernel
theorem dX1_init_39 : decode cX1_init 39 = .ok (.iconst 3, 1) := by decide +kernel
theorem dX1_init_40 : decode cX1_init 40 = .ok (.iconst (-1), 1) := by decide +kernel
theorem dX1_init_41 : decode cX1_init 41 = .ok (.iastore, 1) := by decide +kernel
theorem dX1_init_42 : decode cX1_init 42 = .ok (.putfield 20, 3) := by decide +kernel
theorem dX1_init_45 : decode cX1_init 45 = .ok (.return_, 1) := by decide +kernel
theorem dX1_isSheet_0 : decode cX1_isSheet 0 = .ok (.iload_n 1, 1) := by decide +kernel
theorem dX1_isSheet_1 : decode cX1_isSheet 1 = .ok (.ifCond .lt 12, 3) := by decide +kernel
theorem dX1_isSheet_4 : decode cX1_isSheet 4 = .ok (.iload_n 1, 1) := by decide +kernel
theorem dX1_isSheet_5 : decode cX1_isSheet 5 = .ok (.iconst 4, 1) := by decide +kernel
theorem dX1_isSheet_6 : decode cX1_isSheet 6 = .ok (.if_icmp .ge 7, 3) := by decide +kernel
theorem dX1_isSheet_9 : decode cX1_isSheet 9 = .ok (.iconst 1, 1) := by decide +kernel
theorem dX1_isSheet_10 : decode cX1_isSheet 10 = .ok (.goto 4, 3) := by decide +kernel
theorem dX1_isSheet_13 : decode cX1_isSheet 13 = .ok (.iconst 0, 1) := by decide +kernel
theorem dX1_isSheet_14 : decode cX1_isSheet 14 = .ok (.ireturn, 1) := by decide +kernel
theorem dX1_isLane_0 : decode cX1_isLane 0 = .ok (.iload_n 1, 1) := by decide +kernel
theorem dX1_isLane_1 : decode cX1_isLane 1 = .ok (.ifCond .lt 12, 3) := by decide +kernel
theorem dX1_isLane_4 : decode cX1_isLane 4 = .ok (.iload_n 1, 1) := by decide +kernel
theorem dX1_isLane_5 : decode cX1_isLane 5 = .ok (.iconst 3, 1) := by decide +kernel
theorem dX1_isLane_6 : decode cX1_isLane 6 = .ok (.if_icmp .ge 7, 3) := by decide +kernel
theorem dX1_isLane_9 : decode cX1_isLane 9 = .ok (.iconst 1, 1) := by decide +kernel
theorem dX1_isLane_10 : decode cX1_isLane 10 = .ok (.goto 4, 3) := by decide +kernel
theorem dX1_isLane_13 : decode cX1_isLane 13 = .ok (.iconst 0, 1) := by decide +kernel
theorem dX1_isLane_14 : decode cX1_isLane 14 = .ok (.ireturn, 1) := by decide +kernel
theorem dX1_renew_0 : decode cX1_renew 0 = .ok (.aload_n 0, 1) := by decide +kernel
theorem dX1_renew_1 : decode cX1_renew 1 = .ok (.getfield 16, 3) := by decide +kernel
theorem dX1_renew_4 : decode cX1_renew 4 = .ok (.iload_n 1, 1) := by decide +kernel
theorem dX1_renew_5 : decode cX1_renew 5 = .ok (.iload_n 2, 1) := by decide +kernel
theorem dX1_renew_6 : decode cX1_renew 6 = .ok (.iastore, 1) := by decide +kernel
theorem dX1_renew_7 : decode cX1_renew 7 = .ok (.aload_n 0, 1) := by decide +kernel
theorem dX1_renew_8 : decode cX1_renew 8 = .ok (.getfield 20, 3) := by decide +kernel
theorem dX1_renew_11 : decode cX1_renew 11 = .ok (.iload_n 1, 1) := by decide +kernel
theorem dX1_renew_12 : decode cX1_renew 12 = .ok (.iload_n 3, 1) := by decide +kernel
theorem dX1_renew_13 : decode cX1_renew 13 = .ok (.iastore, 1) := by decide +kernel
theorem dX1_renew_14 : decode cX1_renew 14 = .ok (.iconst 0, 1) := by decide +kernel
theorem dX1_renew_15 : decode cX1_renew 15 = .ok (.istore 4, 2) := by decide +kernel
theorem dX1_renew_17 : decode cX1_renew 17 = .ok (.iload 4, 2) := by decide +kernel
theorem dX1_renew_19 : decode cX1_renew 19 = .ok (.bipush 40, 2) := by decide +kernel
theorem dX1_renew_21 : decode cX1_renew 21 = .ok (.if_icmp .ge 19, 3) := by decide +kernel
theorem dX1_renew_24 : decode cX1_renew 24 = .ok (.aload_n 0, 1) := by decide +kernel
theorem dX1_renew_25 : decode cX1_renew 25 = .ok (.getfield 13, 3) := by decide +kernel
theorem dX1_renew_28 : decode cX1_renew 28 = .ok (.iload_n 1, 1) := by decide +kernel
theorem dX1_renew_29 : decode cX1_renew 29 = .ok (.aaload, 1) := by decide +kernel
theorem dX1_renew_30 : decode cX1_renew 30 = .ok (.iload 4, 2) := by decide +kernel
theorem dX1_renew_32 : decode cX1_renew 32 = .ok (.iconst 0, 1) := by decide +kernel
theorem dX1_renew_33 : decode cX1_renew 33 = .ok (.iastore, 1) := by decide +kernel
theorem dX1_renew_34 : decode cX1_renew 34 = .ok (.iinc 4 1, 3) := by decide +kernel
theorem dX1_renew_37 : decode cX1_renew 37 = .ok (.goto (-20), 3) := by decide +kernel
theorem dX1_renew_40 : decode cX1_renew 40 = .ok (.return_, 1) := by decide +kernel
theorem dX1_faultAt_0 : decode cX1_faultAt 0 = .ok (.aload_n 0, 1) := by decide +kernel
theorem dX1_faultAt_1 : decode cX1_faultAt 1 = .ok (.getfield 20, 3) := by decide +kernel
theorem dX1_faultAt_4 : decode cX1_faultAt 4 = .ok (.iload_n 1, 1) := by decide +kernel
theorem dX1_faultAt_5 : decode cX1_faultAt 5 = .ok (.iaload, 1) := by decide +kernel
theorem dX1_faultAt_6 : decode cX1_faultAt 6 = .ok (.ifCond .ge 5, 3) := by decide +kernel
theorem dX1_faultAt_9 : decode cX1_faultAt 9 = .ok (.iconst 1, 1) := by decide +kernel
theorem dX1_faultAt_10 : decode cX1_faultAt 10 = .ok (.ireturn, 1) := by decide +kernel
theorem dX1_faultAt_11 : decode cX1_faultAt 11 = .ok (.aload_n 0, 1) := by decide +kernel
theorem dX1_faultAt_12 : decode cX1_faultAt 12 = .ok (.getfield 16, 3) := by decide +kernel
theorem dX1_faultAt_15 : decode cX1_faultAt 15 = .ok (.iload_n 1, 1) := by decide +kernel
theorem dX1_faultAt_16 : decode cX1_faultAt 16 = .ok (.iaload, 1) := by decide +kernel
theorem dX1_faultAt_17 : decode cX1_faultAt 17 = .ok (.iload_n 2, 1) := by decide +kernel
theorem dX1_faultAt_18 : decode cX1_faultAt 18 = .ok (.if_icmp .eq 5, 3) := by decide +kernel
theorem dX1_faultAt_21 : decode cX1_faultAt 21 = .ok (.iconst 3, 1) := by decide +kernel
theorem dX1_faultAt_22 : decode cX1_faultAt 22 = .ok (.ireturn, 1) := by decide +kernel
theorem dX1_faultAt_23 : decode cX1_faultAt 23 = .ok (.iload_n 3, 1) := by decide +kernel
theorem dX1_faultAt_24 : decode cX1_faultAt 24 = .ok (.ifCond .lt 13, 3) := by decide +kernel
theorem dX1_faultAt_27 : decode cX1_faultAt 27 = .ok (.iload_n 3, 1) := by decide +kernel
theorem dX1_faultAt_28 : decode cX1_faultAt 28 = .ok (.aload_n 0, 1) := by decide +kernel
theorem dX1_faultAt_29 : decode cX1_faultAt 29 = .ok (.getfield 20, 3) := by decide +kernel
theorem dX1_faultAt_32 : decode cX1_faultAt 32 = .ok (.iload_n 1, 1) := by decide +kernel
theorem dX1_faultAt_33 : decode cX1_faultAt 33 = .ok (.iaload, 1) := by decide +kernel
theorem dX1_faultAt_34 : decode cX1_faultAt 34 = .ok (.if_icmp .lt 7, 3) := by decide +kernel
theorem dX1_faultAt_37 : decode cX1_faultAt 37 = .ok (.iconst 2, 1) := by decide +kernel
theorem dX1_faultAt_38 : decode cX1_faultAt 38 = .ok (.goto 4, 3) := by decide +kernel
theorem dX1_faultAt_41 : decode cX1_faultAt 41 = .ok (.iconst 0, 1) := by decide +kernel
theorem dX1_faultAt_42 : decode cX1_faultAt 42 = .ok (.ireturn, 1) := by decide +kernel
set_option maxRecDepth 20000 in
theorem ggX1_faultOfThree_X1_faultAt : GoodIn wsX1_faultOfThree wsX1_faultAt := goodIn_r _ [5, 6, 7, 8, 9, 10] (by decide +kernel) (by decide +kernel)
set_option maxRecDepth 20000 in
theorem gX1_faultOfThree_X1_faultAt : GoodIn wsX1_faultOfThree (wsV RX1 23 RX1 yX1_faultAt wsX1_faultAt) := goodIn_app (goodIn_of _ (by decide +kernel)) ggX1_faultOfThree_X1_faultAt
theorem dX1_faultOfThree_0 : decode cX1_faultOfThree 0 = .ok (.iconst 0, 1) := by decide +kernel
theorem dX1_faultOfThree_1 : decode cX1_faultOfThree 1 = .ok (.istore 4, 2) := by decide +kernel
theorem dX1_faultOfThree_3 : decode cX1_faultOfThree 3 = .ok (.iconst 0, 1) := by decide +kernel
theorem dX1_faultOfThree_4 : decode cX1_faultOfThree 4 = .ok (.istore 5, 2) := by decide +kernel
theorem dX1_faultOfThree_6 : decode cX1_faultOfThree 6 = .ok (.iload 5, 2) := by decide +kernel
theorem dX1_faultOfThree_8 : decode cX1_faultOfThree 8 = .ok (.iconst 3, 1) := by decide +kernel
theorem dX1_faultOfThree_9 : decode cX1_faultOfThree 9 = .ok (.if_icmp .ge 26, 3) := by decide +kernel
theorem dX1_faultOfThree_12 : decode cX1_faultOfThree 12 = .ok (.iload 4, 2) := by decide +kernel
theorem dX1_faultOfThree_14 : decode cX1_faultOfThree 14 = .ok (.ifCond .ne 21, 3) := by decide +kernel
theorem dX1_faultOfThree_17 : decode cX1_faultOfThree 17 = .ok (.aload_n 0, 1) := by decide +kernel
theorem dX1_faultOfThree_18 : decode cX1_faultOfThree 18 = .ok (.iload_n 1, 1) := by decide +kernel
theorem dX1_faultOfThree_19 : decode cX1_faultOfThree 19 = .ok (.iload_n 2, 1) := by decide +kernel
theorem dX1_faultOfThree_20 : decode cX1_faultOfThree 20 = .ok (.iload_n 3, 1) := by decide +kernel
theorem dX1_faultOfThree_21 : decode cX1_faultOfThree 21 = .ok (.iload 5, 2) := by decide +kernel
theorem dX1_faultOfThree_23 : decode cX1_faultOfThree 23 = .ok (.iadd, 1) := by decide +kernel
theorem dX1_faultOfThree_24 : decode cX1_faultOfThree 24 = .ok (.invokevirtual 23, 3) := by decide +kernel
theorem dX1_faultOfThree_27 : decode cX1_faultOfThree 27 = .ok (.istore 4, 2) := by decide +kernel
theorem dX1_faultOfThree_29 : decode cX1_faultOfThree 29 = .ok (.iinc 5 1, 3) := by decide +kernel
theorem dX1_faultOfThree_32 : decode cX1_faultOfThree 32 = .ok (.goto (-26), 3) := by decide +kernel
theorem dX1_faultOfThree_35 : decode cX1_faultOfThree 35 = .ok (.iload 4, 2) := by decide +kernel
theorem dX1_faultOfThree_37 : decode cX1_faultOfThree 37 = .ok (.ireturn, 1) := by decide +kernel
theorem dX1_put_0 : decode cX1_put 0 = .ok (.aload_n 0, 1) := by decide +kernel
theorem dX1_put_1 : decode cX1_put 1 = .ok (.getfield 16, 3) := by decide +kernel
theorem dX1_put_4 : decode cX1_put 4 = .ok (.iload_n 1, 1) := by decide +kernel
theorem dX1_put_5 : decode cX1_put 5 = .ok (.iaload, 1) := by decide +kernel
theorem dX1_put_6 : decode cX1_put 6 = .ok (.lookupswitch 52 #[(0, 26), (1, 39)], 26) := by decide +kernel
theorem dX1_put_32 : decode cX1_put 32 = .ok (.aload_n 0, 1) := by decide +kernel
theorem dX1_put_33 : decode cX1_put 33 = .ok (.getfield 13, 3) := by decide +kernel
theorem dX1_put_36 : decode cX1_put 36 = .ok (.iload_n 1, 1) := by decide +kernel
theorem dX1_put_37 : decode cX1_put 37 = .ok (.aaload, 1) := by decide +kernel
theorem dX1_put_38 : decode cX1_put 38 = .ok (.iload_n 2, 1) := by decide +kernel
theorem dX1_put_39 : decode cX1_put 39 = .ok (.iload_n 3, 1) := by decide +kernel
theorem dX1_put_40 : decode cX1_put 40 = .ok (.i2b, 1) := by decide +kernel
theorem dX1_put_41 : decode cX1_put 41 = .ok (.iastore, 1) := by decide +kernel
theorem dX1_put_42 : decode cX1_put 42 = .ok (.goto 25, 3) := by decide +kernel
theorem dX1_put_45 : decode cX1_put 45 = .ok (.aload_n 0, 1) := by decide +kernel
theorem dX1_put_46 : decode cX1_put 46 = .ok (.getfield 13, 3) := by decide +kernel
theorem dX1_put_49 : decode cX1_put 49 = .ok (.iload_n 1, 1) := by decide +kernel
theorem dX1_put_50 : decode cX1_put 50 = .ok (.aaload, 1) := by decide +kernel
theorem dX1_put_51 : decode cX1_put 51 = .ok (.iload_n 2, 1) := by decide +kernel
theorem dX1_put_52 : decode cX1_put 52 = .ok (.iload_n 3, 1) := by decide +kernel
theorem dX1_put_53 : decode cX1_put 53 = .ok (.i2s, 1) := by decide +kernel
theorem dX1_put_54 : decode cX1_put 54 = .ok (.iastore, 1) := by decide +kernel
theorem dX1_put_55 : decode cX1_put 55 = .ok (.goto 12, 3) := by decide +kernel
theorem dX1_put_58 : decode cX1_put 58 = .ok (.aload_n 0, 1) := by decide +kernel
theorem dX1_put_59 : decode cX1_put 59 = .ok (.getfield 13, 3) := by decide +kernel
theorem dX1_put_62 : decode cX1_put 62 = .ok (.iload_n 1, 1) := by decide +kernel
theorem dX1_put_63 : decode cX1_put 63 = .ok (.aaload, 1) := by decide +kernel
theorem dX1_put_64 : decode cX1_put 64 = .ok (.iload_n 2, 1) := by decide +kernel
theorem dX1_put_65 : decode cX1_put 65 = .ok (.iload_n 3, 1) := by decide +kernel
theorem dX1_put_66 : decode cX1_put 66 = .ok (.iastore, 1) := by decide +kernel
theorem dX1_put_67 : decode cX1_put 67 = .ok (.return_, 1) := by decide +kernel
