theorem dX5_remove_9 : decode cX5_remove 9 = .ok (.if_icmp .ge 65, 3) := by decide +kernel
theorem dX5_remove_12 : decode cX5_remove 12 = .ok (.aload_n 0, 1) := by decide +kernel
theorem dX5_remove_13 : decode cX5_remove 13 = .ok (.getfield 9, 3) := by decide +kernel
theorem dX5_remove_16 : decode cX5_remove 16 = .ok (.iload_n 2, 1) := by decide +kernel
theorem dX5_remove_17 : decode cX5_remove 17 = .ok (.iconst 1, 1) := by decide +kernel
theorem dX5_remove_18 : decode cX5_remove 18 = .ok (.isub, 1) := by decide +kernel
theorem dX5_remove_19 : decode cX5_remove 19 = .ok (.aload_n 0, 1) := by decide +kernel
theorem dX5_remove_20 : decode cX5_remove 20 = .ok (.getfield 9, 3) := by decide +kernel
theorem dX5_remove_23 : decode cX5_remove 23 = .ok (.iload_n 2, 1) := by decide +kernel
theorem dX5_remove_24 : decode cX5_remove 24 = .ok (.iaload, 1) := by decide +kernel
theorem dX5_remove_25 : decode cX5_remove 25 = .ok (.iastore, 1) := by decide +kernel
theorem dX5_remove_26 : decode cX5_remove 26 = .ok (.aload_n 0, 1) := by decide +kernel
theorem dX5_remove_27 : decode cX5_remove 27 = .ok (.getfield 15, 3) := by decide +kernel
theorem dX5_remove_30 : decode cX5_remove 30 = .ok (.iload_n 2, 1) := by decide +kernel
theorem dX5_remove_31 : decode cX5_remove 31 = .ok (.iconst 1, 1) := by decide +kernel
theorem dX5_remove_32 : decode cX5_remove 32 = .ok (.isub, 1) := by decide +kernel
theorem dX5_remove_33 : decode cX5_remove 33 = .ok (.aload_n 0, 1) := by decide +kernel
theorem dX5_remove_34 : decode cX5_remove 34 = .ok (.getfield 15, 3) := by decide +kernel
theorem dX5_remove_37 : decode cX5_remove 37 = .ok (.iload_n 2, 1) := by decide +kernel
theorem dX5_remove_38 : decode cX5_remove 38 = .ok (.iaload, 1) := by decide +kernel
theorem dX5_remove_39 : decode cX5_remove 39 = .ok (.iastore, 1) := by decide +kernel
theorem dX5_remove_40 : decode cX5_remove 40 = .ok (.aload_n 0, 1) := by decide +kernel
theorem dX5_remove_41 : decode cX5_remove 41 = .ok (.getfield 18, 3) := by decide +kernel
theorem dX5_remove_44 : decode cX5_remove 44 = .ok (.iload_n 2, 1) := by decide +kernel
theorem dX5_remove_45 : decode cX5_remove 45 = .ok (.iconst 1, 1) := by decide +kernel
theorem dX5_remove_46 : decode cX5_remove 46 = .ok (.isub, 1) := by decide +kernel
theorem dX5_remove_47 : decode cX5_remove 47 = .ok (.aload_n 0, 1) := by decide +kernel
theorem dX5_remove_48 : decode cX5_remove 48 = .ok (.getfield 18, 3) := by decide +kernel
theorem dX5_remove_51 : decode cX5_remove 51 = .ok (.iload_n 2, 1) := by decide +kernel
theorem dX5_remove_52 : decode cX5_remove 52 = .ok (.iaload, 1) := by decide +kernel
theorem dX5_remove_53 : decode cX5_remove 53 = .ok (.iastore, 1) := by decide +kernel
theorem dX5_remove_54 : decode cX5_remove 54 = .ok (.aload_n 0, 1) := by decide +kernel
theorem dX5_remove_55 : decode cX5_remove 55 = .ok (.getfield 21, 3) := by decide +kernel
theorem dX5_remove_58 : decode cX5_remove 58 = .ok (.iload_n 2, 1) := by decide +kernel
theorem dX5_remove_59 : decode cX5_remove 59 = .ok (.iconst 1, 1) := by decide +kernel
theorem dX5_remove_60 : decode cX5_remove 60 = .ok (.isub, 1) := by decide +kernel
theorem dX5_remove_61 : decode cX5_remove 61 = .ok (.aload_n 0, 1) := by decide +kernel
theorem dX5_remove_62 : decode cX5_remove 62 = .ok (.getfield 21, 3) := by decide +kernel
theorem dX5_remove_65 : decode cX5_remove 65 = .ok (.iload_n 2, 1) := by decide +kernel
theorem dX5_remove_66 : decode cX5_remove 66 = .ok (.iaload, 1) := by decide +kernel
theorem dX5_remove_67 : decode cX5_remove 67 = .ok (.iastore, 1) := by decide +kernel
theorem dX5_remove_68 : decode cX5_remove 68 = .ok (.iinc 2 1, 3) := by decide +kernel
theorem dX5_remove_71 : decode cX5_remove 71 = .ok (.goto (-67), 3) := by decide +kernel
theorem dX5_remove_74 : decode cX5_remove 74 = .ok (.aload_n 0, 1) := by decide +kernel
theorem dX5_remove_75 : decode cX5_remove 75 = .ok (.dup, 1) := by decide +kernel
theorem dX5_remove_76 : decode cX5_remove 76 = .ok (.getfield 31, 3) := by decide +kernel
theorem dX5_remove_79 : decode cX5_remove 79 = .ok (.iconst 1, 1) := by decide +kernel
theorem dX5_remove_80 : decode cX5_remove 80 = .ok (.isub, 1) := by decide +kernel
theorem dX5_remove_81 : decode cX5_remove 81 = .ok (.putfield 31, 3) := by decide +kernel
theorem dX5_remove_84 : decode cX5_remove 84 = .ok (.iconst 0, 1) := by decide +kernel
theorem dX5_remove_85 : decode cX5_remove 85 = .ok (.istore_n 2, 1) := by decide +kernel
theorem dX5_remove_86 : decode cX5_remove 86 = .ok (.iload_n 2, 1) := by decide +kernel
theorem dX5_remove_87 : decode cX5_remove 87 = .ok (.aload_n 0, 1) := by decide +kernel
theorem dX5_remove_88 : decode cX5_remove 88 = .ok (.getfield 34, 3) := by decide +kernel
theorem dX5_remove_91 : decode cX5_remove 91 = .ok (.if_icmp .ge 29, 3) := by decide +kernel
theorem dX5_remove_94 : decode cX5_remove 94 = .ok (.aload_n 0, 1) := by decide +kernel
theorem dX5_remove_95 : decode cX5_remove 95 = .ok (.getfield 24, 3) := by decide +kernel
theorem dX5_remove_98 : decode cX5_remove 98 = .ok (.iload_n 2, 1) := by decide +kernel
theorem dX5_remove_99 : decode cX5_remove 99 = .ok (.iaload, 1) := by decide +kernel
theorem dX5_remove_100 : decode cX5_remove 100 = .ok (.iload_n 1, 1) := by decide +kernel
theorem dX5_remove_101 : decode cX5_remove 101 = .ok (.if_icmp .le 13, 3) := by decide +kernel
theorem dX5_remove_104 : decode cX5_remove 104 = .ok (.aload_n 0, 1) := by decide +kernel
theorem dX5_remove_105 : decode cX5_remove 105 = .ok (.getfield 24, 3) := by decide +kernel
theorem dX5_remove_108 : decode cX5_remove 108 = .ok (.iload_n 2, 1) := by decide +kernel
theorem dX5_remove_109 : decode cX5_remove 109 = .ok (.dup2, 1) := by decide +kernel
theorem dX5_remove_110 : decode cX5_remove 110 = .ok (.iaload, 1) := by decide +kernel
theorem dX5_remove_111 : decode cX5_remove 111 = .ok (.iconst 1, 1) := by decide +kernel
theorem dX5_remove_112 : decode cX5_remove 112 = .ok (.isub, 1) := by decide +kernel
theorem dX5_remove_113 : decode cX5_remove 113 = .ok (.iastore, 1) := by decide +kernel
theorem dX5_remove_114 : decode cX5_remove 114 = .ok (.iinc 2 1, 3) := by decide +kernel
theorem dX5_remove_117 : decode cX5_remove 117 = .ok (.goto (-31), 3) := by decide +kernel
theorem dX5_remove_120 : decode cX5_remove 120 = .ok (.return_, 1) := by decide +kernel
theorem dX5_shiftedLimit_0 : decode cX5_shiftedLimit 0 = .ok (.aload_n 0, 1) := by decide +kernel
theorem dX5_shiftedLimit_1 : decode cX5_shiftedLimit 1 = .ok (.getfield 9, 3) := by decide +kernel
theorem dX5_shiftedLimit_4 : decode cX5_shiftedLimit 4 = .ok (.iload_n 1, 1) := by decide +kernel
theorem dX5_shiftedLimit_5 : decode cX5_shiftedLimit 5 = .ok (.iaload, 1) := by decide +kernel
theorem dX5_shiftedLimit_6 : decode cX5_shiftedLimit 6 = .ok (.iload_n 2, 1) := by decide +kernel
theorem dX5_shiftedLimit_7 : decode cX5_shiftedLimit 7 = .ok (.if_icmp .ne 14, 3) := by decide +kernel
theorem dX5_shiftedLimit_10 : decode cX5_shiftedLimit 10 = .ok (.aload_n 0, 1) := by decide +kernel
theorem dX5_shiftedLimit_11 : decode cX5_shiftedLimit 11 = .ok (.getfield 18, 3) := by decide +kernel
theorem dX5_shiftedLimit_14 : decode cX5_shiftedLimit 14 = .ok (.iload_n 1, 1) := by decide +kernel
theorem dX5_shiftedLimit_15 : decode cX5_shiftedLimit 15 = .ok (.iaload, 1) := by decide +kernel
theorem dX5_shiftedLimit_16 : decode cX5_shiftedLimit 16 = .ok (.i2l, 1) := by decide +kernel
theorem dX5_shiftedLimit_17 : decode cX5_shiftedLimit 17 = .ok (.iload_n 3, 1) := by decide +kernel
theorem dX5_shiftedLimit_18 : decode cX5_shiftedLimit 18 = .ok (.i2l, 1) := by decide +kernel
theorem dX5_shiftedLimit_19 : decode cX5_shiftedLimit 19 = .ok (.ladd, 1) := by decide +kernel
theorem dX5_shiftedLimit_20 : decode cX5_shiftedLimit 20 = .ok (.lreturn, 1) := by decide +kernel
theorem dX5_shiftedLimit_21 : decode cX5_shiftedLimit 21 = .ok (.aload_n 0, 1) := by decide +kernel
theorem dX5_shiftedLimit_22 : decode cX5_shiftedLimit 22 = .ok (.getfield 15, 3) := by decide +kernel
theorem dX5_shiftedLimit_25 : decode cX5_shiftedLimit 25 = .ok (.iload_n 1, 1) := by decide +kernel
theorem dX5_shiftedLimit_26 : decode cX5_shiftedLimit 26 = .ok (.iaload, 1) := by decide +kernel
theorem dX5_shiftedLimit_27 : decode cX5_shiftedLimit 27 = .ok (.iload_n 2, 1) := by decide +kernel
theorem dX5_shiftedLimit_28 : decode cX5_shiftedLimit 28 = .ok (.if_icmp .ne 16, 3) := by decide +kernel
theorem dX5_shiftedLimit_31 : decode cX5_shiftedLimit 31 = .ok (.aload_n 0, 1) := by decide +kernel
theorem dX5_shiftedLimit_32 : decode cX5_shiftedLimit 32 = .ok (.getfield 18, 3) := by decide +kernel
theorem dX5_shiftedLimit_35 : decode cX5_shiftedLimit 35 = .ok (.iload_n 1, 1) := by decide +kernel
theorem dX5_shiftedLimit_36 : decode cX5_shiftedLimit 36 = .ok (.iaload, 1) := by decide +kernel
theorem dX5_shiftedLimit_37 : decode cX5_shiftedLimit 37 = .ok (.i2l, 1) := by decide +kernel
theorem dX5_shiftedLimit_38 : decode cX5_shiftedLimit 38 = .ok (.iload_n 3, 1) := by decide +kernel
theorem dX5_shiftedLimit_39 : decode cX5_shiftedLimit 39 = .ok (.i2l, 1) := by decide +kernel
theorem dX5_shiftedLimit_40 : decode cX5_shiftedLimit 40 = .ok (.lsub, 1) := by decide +kernel
theorem dX5_shiftedLimit_41 : decode cX5_shiftedLimit 41 = .ok (.goto 10, 3) := by decide +kernel
theorem dX5_shiftedLimit_44 : decode cX5_shiftedLimit 44 = .ok (.aload_n 0, 1) := by decide +kernel
theorem dX5_shiftedLimit_45 : decode cX5_shiftedLimit 45 = .ok (.getfield 18, 3) := by decide +kernel
theorem dX5_shiftedLimit_48 : decode cX5_shiftedLimit 48 = .ok (.iload_n 1, 1) := by decide +kernel
theorem dX5_shiftedLimit_49 : decode cX5_shiftedLimit 49 = .ok (.iaload, 1) := by decide +kernel
theorem dX5_shiftedLimit_50 : decode cX5_shiftedLimit 50 = .ok (.i2l, 1) := by decide +kernel
theorem dX5_shiftedLimit_51 : decode cX5_shiftedLimit 51 = .ok (.lreturn, 1) := by decide +kernel
set_option maxRecDepth 20000 in
theorem ggX5_isFirstOfPair_X5_isOf : GoodIn wsX5_isFirstOfPair wsX5_isOf := goodIn_r _ [7, 1, 2, 8, 9, 10, 11, 12, 13, 14, 15] (by decide +kernel) (by decide +kernel)
set_option maxRecDepth 20000 in
theorem gX5_isFirstOfPair_X5_isOf : GoodIn wsX5_isFirstOfPair (wsV RX5 47 RX5 yX5_isOf wsX5_isOf) := goodIn_app (goodIn_of _ (by decide +kernel)) ggX5_isFirstOfPair_X5_isOf
theorem dX5_isFirstOfPair_0 : decode cX5_isFirstOfPair 0 = .ok (.iconst 0, 1) := by decide +kernel
theorem dX5_isFirstOfPair_1 : decode cX5_isFirstOfPair 1 = .ok (.istore_n 2, 1) := by decide +kernel
theorem dX5_isFirstOfPair_2 : decode cX5_isFirstOfPair 2 = .ok (.iload_n 2, 1) := by decide +kernel
theorem dX5_isFirstOfPair_3 : decode cX5_isFirstOfPair 3 = .ok (.iload_n 1, 1) := by decide +kernel
theorem dX5_isFirstOfPair_4 : decode cX5_isFirstOfPair 4 = .ok (.if_icmp .ge 31, 3) := by decide +kernel
theorem dX5_isFirstOfPair_7 : decode cX5_isFirstOfPair 7 = .ok (.aload_n 0, 1) := by decide +kernel
theorem dX5_isFirstOfPair_8 : decode cX5_isFirstOfPair 8 = .ok (.iload_n 2, 1) := by decide +kernel
theorem dX5_isFirstOfPair_9 : decode cX5_isFirstOfPair 9 = .ok (.aload_n 0, 1) := by decide +kernel
theorem dX5_isFirstOfPair_10 : decode cX5_isFirstOfPair 10 = .ok (.getfield 9, 3) := by decide +kernel
theorem dX5_isFirstOfPair_13 : decode cX5_isFirstOfPair 13 = .ok (.iload_n 1, 1) := by decide +kernel
theorem dX5_isFirstOfPair_14 : decode cX5_isFirstOfPair 14 = .ok (.iaload, 1) := by decide +kernel
theorem dX5_isFirstOfPair_15 : decode cX5_isFirstOfPair 15 = .ok (.aload_n 0, 1) := by decide +kernel
theorem dX5_isFirstOfPair_16 : decode cX5_isFirstOfPair 16 = .ok (.getfield 15, 3) := by decide +kernel
theorem dX5_isFirstOfPair_19 : decode cX5_isFirstOfPair 19 = .ok (.iload_n 1, 1) := by decide +kernel
theorem dX5_isFirstOfPair_20 : decode cX5_isFirstOfPair 20 = .ok (.iaload, 1) := by decide +kernel
theorem dX5_isFirstOfPair_21 : decode cX5_isFirstOfPair 21 = .ok (.invokevirtual 47, 3) := by decide +kernel
theorem dX5_isFirstOfPair_24 : decode cX5_isFirstOfPair 24 = .ok (.ifCond .eq 5, 3) := by decide +kernel
theorem dX5_isFirstOfPair_27 : decode cX5_isFirstOfPair 27 = .ok (.iconst 0, 1) := by decide +kernel
theorem dX5_isFirstOfPair_28 : decode cX5_isFirstOfPair 28 = .ok (.ireturn, 1) := by decide +kernel
theorem dX5_isFirstOfPair_29 : decode cX5_isFirstOfPair 29 = .ok (.iinc 2 1, 3) := by decide +kernel
theorem dX5_isFirstOfPair_32 : decode cX5_isFirstOfPair 32 = .ok (.goto (-30), 3) := by decide +kernel
theorem dX5_isFirstOfPair_35 : decode cX5_isFirstOfPair 35 = .ok (.iconst 1, 1) := by decide +kernel
theorem dX5_isFirstOfPair_36 : decode cX5_isFirstOfPair 36 = .ok (.ireturn, 1) := by decide +kernel
theorem dX5_isFirstOfLimit_0 : decode cX5_isFirstOfLimit 0 = .ok (.iconst 0, 1) := by decide +kernel
theorem dX5_isFirstOfLimit_1 : decode cX5_isFirstOfLimit 1 = .ok (.istore_n 2, 1) := by decide +kernel
theorem dX5_isFirstOfLimit_2 : decode cX5_isFirstOfLimit 2 = .ok (.iload_n 2, 1) := by decide +kernel
theorem dX5_isFirstOfLimit_3 : decode cX5_isFirstOfLimit 3 = .ok (.iload_n 1, 1) := by decide +kernel
theorem dX5_isFirstOfLimit_4 : decode cX5_isFirstOfLimit 4 = .ok (.if_icmp .ge 26, 3) := by decide +kernel
theorem dX5_isFirstOfLimit_7 : decode cX5_isFirstOfLimit 7 = .ok (.aload_n 0, 1) := by decide +kernel
theorem dX5_isFirstOfLimit_8 : decode cX5_isFirstOfLimit 8 = .ok (.getfield 18, 3) := by decide +kernel
theorem dX5_isFirstOfLimit_11 : decode cX5_isFirstOfLimit 11 = .ok (.iload_n 2, 1) := by decide +kernel
theorem dX5_isFirstOfLimit_12 : decode cX5_isFirstOfLimit 12 = .ok (.iaload, 1) := by decide +kernel
theorem dX5_isFirstOfLimit_13 : decode cX5_isFirstOfLimit 13 = .ok (.aload_n 0, 1) := by decide +kernel
theorem dX5_isFirstOfLimit_14 : decode cX5_isFirstOfLimit 14 = .ok (.getfield 18, 3) := by decide +kernel
theorem dX5_isFirstOfLimit_17 : decode cX5_isFirstOfLimit 17 = .ok (.iload_n 1, 1) := by decide +kernel
theorem dX5_isFirstOfLimit_18 : decode cX5_isFirstOfLimit 18 = .ok (.iaload, 1) := by decide +kernel
theorem dX5_isFirstOfLimit_19 : decode cX5_isFirstOfLimit 19 = .ok (.if_icmp .ne 5, 3) := by decide +kernel
theorem dX5_isFirstOfLimit_22 : decode cX5_isFirstOfLimit 22 = .ok (.iconst 0, 1) := by decide +kernel
theorem dX5_isFirstOfLimit_23 : decode cX5_isFirstOfLimit 23 = .ok (.ireturn, 1) := by decide +kernel
theorem dX5_isFirstOfLimit_24 : decode cX5_isFirstOfLimit 24 = .ok (.iinc 2 1, 3) := by decide +kernel
theorem dX5_isFirstOfLimit_27 : decode cX5_isFirstOfLimit 27 = .ok (.goto (-25), 3) := by decide +kernel
theorem dX5_isFirstOfLimit_30 : decode cX5_isFirstOfLimit 30 = .ok (.iconst 1, 1) := by decide +kernel
theorem dX5_isFirstOfLimit_31 : decode cX5_isFirstOfLimit 31 = .ok (.ireturn, 1) := by decide +kernel
set_option maxRecDepth 20000 in
theorem ggX5_pairs_X5_isFirstOfPair : GoodIn wsX5_pairs wsX5_isFirstOfPair := goodIn_r _ [6, 7, 8, 9, 10, 11, 5, 12, 13, 14, 15, 16, 17, 18, 19, 20] (by decide +kernel) (by decide +kernel)
set_option maxRecDepth 20000 in
theorem gX5_pairs_X5_isFirstOfPair : GoodIn wsX5_pairs (wsV RX5 51 RX5 yX5_isFirstOfPair wsX5_isFirstOfPair) := goodIn_app (goodIn_of _ (by decide +kernel)) ggX5_pairs_X5_isFirstOfPair
theorem dX5_pairs_0 : decode cX5_pairs 0 = .ok (.iconst 0, 1) := by decide +kernel
theorem dX5_pairs_1 : decode cX5_pairs 1 = .ok (.istore_n 1, 1) := by decide +kernel
theorem dX5_pairs_2 : decode cX5_pairs 2 = .ok (.iconst 0, 1) := by decide +kernel
theorem dX5_pairs_3 : decode cX5_pairs 3 = .ok (.istore_n 2, 1) := by decide +kernel
theorem dX5_pairs_4 : decode cX5_pairs 4 = .ok (.iload_n 2, 1) := by decide +kernel
theorem dX5_pairs_5 : decode cX5_pairs 5 = .ok (.aload_n 0, 1) := by decide +kernel
theorem dX5_pairs_6 : decode cX5_pairs 6 = .ok (.getfield 31, 3) := by decide +kernel
theorem dX5_pairs_9 : decode cX5_pairs 9 = .ok (.if_icmp .ge 20, 3) := by decide +kernel
theorem dX5_pairs_12 : decode cX5_pairs 12 = .ok (.aload_n 0, 1) := by decide +kernel
theorem dX5_pairs_13 : decode cX5_pairs 13 = .ok (.iload_n 2, 1) := by decide +kernel
theorem dX5_pairs_14 : decode cX5_pairs 14 = .ok (.invokevirtual 51, 3) := by decide +kernel
theorem dX5_pairs_17 : decode cX5_pairs 17 = .ok (.ifCond .eq 6, 3) := by decide +kernel
theorem dX5_pairs_20 : decode cX5_pairs 20 = .ok (.iinc 1 1, 3) := by decide +kernel
theorem dX5_pairs_23 : decode cX5_pairs 23 = .ok (.iinc 2 1, 3) := by decide +kernel
theorem dX5_pairs_26 : decode cX5_pairs 26 = .ok (.goto (-22), 3) := by decide +kernel
theorem dX5_pairs_29 : decode cX5_pairs 29 = .ok (.iload_n 1, 1) := by decide +kernel
theorem dX5_pairs_30 : decode cX5_pairs 30 = .ok (.ireturn, 1) := by decide +kernel
set_option maxRecDepth 20000 in
theorem ggX5_differentLimits_X5_isFirstOfLimit : GoodIn wsX5_differentLimits wsX5_isFirstOfLimit := goodIn_r _ [6, 7, 8, 9, 10, 11, 12, 13, 14, 15] (by decide +kernel) (by decide +kernel)
set_option maxRecDepth 20000 in
theorem gX5_differentLimits_X5_isFirstOfLimit : GoodIn wsX5_differentLimits (wsV RX5 55 RX5 yX5_isFirstOfLimit wsX5_isFirstOfLimit) := goodIn_app (goodIn_of _ (by decide +kernel)) ggX5_differentLimits_X5_isFirstOfLimit
theorem dX5_differentLimits_0 : decode cX5_differentLimits 0 = .ok (.iconst 0, 1) := by decide +kernel
theorem dX5_differentLimits_1 : decode cX5_differentLimits 1 = .ok (.istore_n 1, 1) := by decide +kernel
theorem dX5_differentLimits_2 : decode cX5_differentLimits 2 = .ok (.iconst 0, 1) := by decide +kernel
theorem dX5_differentLimits_3 : decode cX5_differentLimits 3 = .ok (.istore_n 2, 1) := by decide +kernel
theorem dX5_differentLimits_4 : decode cX5_differentLimits 4 = .ok (.iload_n 2, 1) := by decide +kernel
theorem dX5_differentLimits_5 : decode cX5_differentLimits 5 = .ok (.aload_n 0, 1) := by decide +kernel
theorem dX5_differentLimits_6 : decode cX5_differentLimits 6 = .ok (.getfield 31, 3) := by decide +kernel
theorem dX5_differentLimits_9 : decode cX5_differentLimits 9 = .ok (.if_icmp .ge 20, 3) := by decide +kernel
theorem dX5_differentLimits_12 : decode cX5_differentLimits 12 = .ok (.aload_n 0, 1) := by decide +kernel
theorem dX5_differentLimits_13 : decode cX5_differentLimits 13 = .ok (.iload_n 2, 1) := by decide +kernel
theorem dX5_differentLimits_14 : decode cX5_differentLimits 14 = .ok (.invokevirtual 55, 3) := by decide +kernel
theorem dX5_differentLimits_17 : decode cX5_differentLimits 17 = .ok (.ifCond .eq 6, 3) := by decide +kernel
theorem dX5_differentLimits_20 : decode cX5_differentLimits 20 = .ok (.iinc 1 1, 3) := by decide +kernel
theorem dX5_differentLimits_23 : decode cX5_differentLimits 23 = .ok (.iinc 2 1, 3) := by decide +kernel
theorem dX5_differentLimits_26 : decode cX5_differentLimits 26 = .ok (.goto (-22), 3) := by decide +kernel
theorem dX5_differentLimits_29 : decode cX5_differentLimits 29 = .ok (.iload_n 1, 1) := by decide +kernel
theorem dX5_differentLimits_30 : decode cX5_differentLimits 30 = .ok (.ireturn, 1) := by decide +kernel
set_option maxRecDepth 20000 in
theorem ggX5_ofPair_X5_isOf : GoodIn wsX5_ofPair wsX5_isOf := goodIn_r _ [6, 7, 8, 9, 10, 11, 12, 13, 14, 15, 16] (by decide +kernel) (by decide +kernel)
set_option maxRecDepth 20000 in
theorem gX5_ofPair_X5_isOf : GoodIn wsX5_ofPair (wsV RX5 47 RX5 yX5_isOf wsX5_isOf) := goodIn_app (goodIn_of _ (by decide +kernel)) ggX5_ofPair_X5_isOf
theorem dX5_ofPair_0 : decode cX5_ofPair 0 = .ok (.iconst 0, 1) := by decide +kernel
theorem dX5_ofPair_1 : decode cX5_ofPair 1 = .ok (.istore_n 3, 1) := by decide +kernel
theorem dX5_ofPair_2 : decode cX5_ofPair 2 = .ok (.iconst 0, 1) := by decide +kernel
theorem dX5_ofPair_3 : decode cX5_ofPair 3 = .ok (.istore 4, 2) := by decide +kernel
theorem dX5_ofPair_5 : decode cX5_ofPair 5 = .ok (.iload 4, 2) := by decide +kernel
theorem dX5_ofPair_7 : decode cX5_ofPair 7 = .ok (.aload_n 0, 1) := by decide +kernel
theorem dX5_ofPair_8 : decode cX5_ofPair 8 = .ok (.getfield 31, 3) := by decide +kernel
theorem dX5_ofPair_11 : decode cX5_ofPair 11 = .ok (.if_icmp .ge 23, 3) := by decide +kernel
theorem dX5_ofPair_14 : decode cX5_ofPair 14 = .ok (.aload_n 0, 1) := by decide +kernel
theorem dX5_ofPair_15 : decode cX5_ofPair 15 = .ok (.iload 4, 2) := by decide +kernel
theorem dX5_ofPair_17 : decode cX5_ofPair 17 = .ok (.iload_n 1, 1) := by decide +kernel
theorem dX5_ofPair_18 : decode cX5_ofPair 18 = .ok (.iload_n 2, 1) := by decide +kernel
theorem dX5_ofPair_19 : decode cX5_ofPair 19 = .ok (.invokevirtual 47, 3) := by decide +kernel
theorem dX5_ofPair_22 : decode cX5_ofPair 22 = .ok (.ifCond .eq 6, 3) := by decide +kernel
theorem dX5_ofPair_25 : decode cX5_ofPair 25 = .ok (.iinc 3 1, 3) := by decide +kernel
theorem dX5_ofPair_28 : decode cX5_ofPair 28 = .ok (.iinc 4 1, 3) := by decide +kernel
theorem dX5_ofPair_31 : decode cX5_ofPair 31 = .ok (.goto (-26), 3) := by decide +kernel
theorem dX5_ofPair_34 : decode cX5_ofPair 34 = .ok (.iload_n 3, 1) := by decide +kernel
theorem dX5_ofPair_35 : decode cX5_ofPair 35 = .ok (.ireturn, 1) := by decide +kernel
theorem dX5_strictBounds_0 : decode cX5_strictBounds 0 = .ok (.iconst 0, 1) := by decide +kernel
theorem dX5_strictBounds_1 : decode cX5_strictBounds 1 = .ok (.istore_n 1, 1) := by decide +kernel
theorem dX5_strictBounds_2 : decode cX5_strictBounds 2 = .ok (.iconst 0, 1) := by decide +kernel
theorem dX5_strictBounds_3 : decode cX5_strictBounds 3 = .ok (.istore_n 2, 1) := by decide +kernel
theorem dX5_strictBounds_4 : decode cX5_strictBounds 4 = .ok (.iload_n 2, 1) := by decide +kernel
theorem dX5_strictBounds_5 : decode cX5_strictBounds 5 = .ok (.aload_n 0, 1) := by decide +kernel
theorem dX5_strictBounds_6 : decode cX5_strictBounds 6 = .ok (.getfield 31, 3) := by decide +kernel
theorem dX5_strictBounds_9 : decode cX5_strictBounds 9 = .ok (.if_icmp .ge 18, 3) := by decide +kernel
theorem dX5_strictBounds_12 : decode cX5_strictBounds 12 = .ok (.iload_n 1, 1) := by decide +kernel
theorem dX5_strictBounds_13 : decode cX5_strictBounds 13 = .ok (.aload_n 0, 1) := by decide +kernel
theorem dX5_strictBounds_14 : decode cX5_strictBounds 14 = .ok (.getfield 21, 3) := by decide +kernel
theorem dX5_strictBounds_17 : decode cX5_strictBounds 17 = .ok (.iload_n 2, 1) := by decide +kernel
theorem dX5_strictBounds_18 : decode cX5_strictBounds 18 = .ok (.iaload, 1) := by decide +kernel
theorem dX5_strictBounds_19 : decode cX5_strictBounds 19 = .ok (.iadd, 1) := by decide +kernel
theorem dX5_strictBounds_20 : decode cX5_strictBounds 20 = .ok (.istore_n 1, 1) := by decide +kernel
theorem dX5_strictBounds_21 : decode cX5_strictBounds 21 = .ok (.iinc 2 1, 3) := by decide +kernel
theorem dX5_strictBounds_24 : decode cX5_strictBounds 24 = .ok (.goto (-20), 3) := by decide +kernel
theorem dX5_strictBounds_27 : decode cX5_strictBounds 27 = .ok (.iload_n 1, 1) := by decide +kernel
theorem dX5_strictBounds_28 : decode cX5_strictBounds 28 = .ok (.ireturn, 1) := by decide +kernel
theorem dX6_init_0 : decode cX6_init 0 = .ok (.aload_n 0, 1) := by decide +kernel
theorem dX6_init_1 : decode cX6_init 1 = .ok (.invokespecial 3, 3) := by decide +kernel
theorem dX6_init_4 : decode cX6_init 4 = .ok (.aload_n 0, 1) := by decide +kernel
theorem dX6_init_5 : decode cX6_init 5 = .ok (.sipush 320, 3) := by decide +kernel
theorem dX6_init_8 : decode cX6_init 8 = .ok (.newarray .byte, 2) := by decide +kernel
theorem dX6_init_10 : decode cX6_init 10 = .ok (.putfield 9, 3) := by decide +kernel
theorem dX6_init_13 : decode cX6_init 13 = .ok (.return_, 1) := by decide +kernel
set_option maxRecDepth 20000 in
theorem ggX7_init_X5_init : GoodIn wsX7_init wsX5_init := goodIn_r _ [35, 36, 2, 3, 37, 38, 39, 40, 41, 42, 43, 82, 83, 84, 85, 86, 87, 88, 89] (by decide +kernel) (by decide +kernel)
set_option maxRecDepth 20000 in
theorem gX7_init_X5_init_n9 : GoodIn wsX7_init (wsX5_init) := ggX7_init_X5_init
set_option maxRecDepth 20000 in
theorem ggX7_init_X3_init : GoodIn wsX7_init wsX3_init := goodIn_r _ [45, 46, 2, 3, 37, 47, 48, 100, 101, 102] (by decide +kernel) (by decide +kernel)
set_option maxRecDepth 20000 in
theorem gX7_init_X3_init_n30 : GoodIn wsX7_init (wsX3_init) := ggX7_init_X3_init
set_option maxRecDepth 20000 in
theorem ggX7_init_X2_init : GoodIn wsX7_init wsX2_init := goodIn_r _ [50, 51, 2, 3, 52, 53, 54, 55, 103, 104] (by decide +kernel) (by decide +kernel)
set_option maxRecDepth 20000 in
theorem gX7_init_X2_init_n33 : GoodIn wsX7_init (wsX2_init) := ggX7_init_X2_init
set_option maxRecDepth 20000 in
theorem ggX7_init_X0_init : GoodIn wsX7_init wsX0_init := goodIn_r _ [57, 58, 2, 3, 37, 59, 60, 52, 61, 105, 106, 107] (by decide +kernel) (by decide +kernel)
set_option maxRecDepth 20000 in
theorem gX7_init_X0_init_n40 : GoodIn wsX7_init (wsX0_init) := ggX7_init_X0_init
set_option maxRecDepth 20000 in
theorem ggX7_init_X4_init : GoodIn wsX7_init wsX4_init := goodIn_r _ [63, 64, 2, 3, 65, 52, 66, 67, 108, 109, 110, 111] (by decide +kernel) (by decide +kernel)
set_option maxRecDepth 20000 in
theorem gX7_init_X4_init_n47 : GoodIn wsX7_init (wsX4_init) := ggX7_init_X4_init
set_option maxRecDepth 20000 in
theorem ggX7_init_X1_init : GoodIn wsX7_init wsX1_init := goodIn_r _ [69, 70, 2, 3, 71, 72, 73, 74, 75, 5, 6, 76, 77, 78, 79, 80, 81, 34, 35, 36, 37, 38, 39, 40, 41, 42, 43, 120, 121, 112, 113, 114, 115, 116, 117, 118, 119, 82, 83, 84, 85, 86, 87, 88, 89] (by decide +kernel) (by decide +kernel)
set_option maxRecDepth 20000 in
theorem gX7_init_X1_init_n54 : GoodIn wsX7_init (wsX1_init) := ggX7_init_X1_init
theorem dX7_init_0 : decode cX7_init 0 = .ok (.aload_n 0, 1) := by decide +kernel
theorem dX7_init_1 : decode cX7_init 1 = .ok (.invokespecial 1, 3) := by decide +kernel
theorem dX7_init_4 : decode cX7_init 4 = .ok (.aload_n 0, 1) := by decide +kernel
theorem dX7_init_5 : decode cX7_init 5 = .ok (.new 7, 3) := by decide +kernel
theorem dX7_init_8 : decode cX7_init 8 = .ok (.dup, 1) := by decide +kernel
theorem dX7_init_9 : decode cX7_init 9 = .ok (.invokespecial 9, 3) := by decide +kernel
theorem dX7_init_12 : decode cX7_init 12 = .ok (.putfield 10, 3) := by decide +kernel
theorem dX7_init_15 : decode cX7_init 15 = .ok (.aload_n 0, 1) := by decide +kernel
theorem dX7_init_16 : decode cX7_init 16 = .ok (.iconst 2, 1) := by decide +kernel
theorem dX7_init_17 : decode cX7_init 17 = .ok (.anewarray 7, 3) := by decide +kernel
theorem dX7_init_20 : decode cX7_init 20 = .ok (.putfield 16, 3) := by decide +kernel
theorem dX7_init_23 : decode cX7_init 23 = .ok (.aload_n 0, 1) := by decide +kernel
theorem dX7_init_24 : decode cX7_init 24 = .ok (.iconst 2, 1) := by decide +kernel
theorem dX7_init_25 : decode cX7_init 25 = .ok (.newarray .boolean, 2) := by decide +kernel
theorem dX7_init_27 : decode cX7_init 27 = .ok (.putfield 20, 3) := by decide +kernel
theorem dX7_init_30 : decode cX7_init 30 = .ok (.iconst 0, 1) := by decide +kernel
theorem dX7_init_31 : decode cX7_init 31 = .ok (.istore_n 1, 1) := by decide +kernel
theorem dX7_init_32 : decode cX7_init 32 = .ok (.iload_n 1, 1) := by decide +kernel
theorem dX7_init_33 : decode cX7_init 33 = .ok (.iconst 2, 1) := by decide +kernel
theorem dX7_init_34 : decode cX7_init 34 = .ok (.if_icmp .ge 22, 3) := by decide +kernel
theorem dX7_init_37 : decode cX7_init 37 = .ok (.aload_n 0, 1) := by decide +kernel
theorem dX7_init_38 : decode cX7_init 38 = .ok (.getfield 16, 3) := by decide +kernel
theorem dX7_init_41 : decode cX7_init 41 = .ok (.iload_n 1, 1) := by decide +kernel
theorem dX7_init_42 : decode cX7_init 42 = .ok (.new 7, 3) := by decide +kernel
theorem dX7_init_45 : decode cX7_init 45 = .ok (.dup, 1) := by decide +kernel
theorem dX7_init_46 : decode cX7_init 46 = .ok (.invokespecial 9, 3) := by decide +kernel
theorem dX7_init_49 : decode cX7_init 49 = .ok (.aastore, 1) := by decide +kernel
theorem dX7_init_50 : decode cX7_init 50 = .ok (.iinc 1 1, 3) := by decide +kernel
theorem dX7_init_53 : decode cX7_init 53 = .ok (.goto (-21), 3) := by decide +kernel
theorem dX7_init_56 : decode cX7_init 56 = .ok (.aload_n 0, 1) := by decide +kernel
theorem dX7_init_57 : decode cX7_init 57 = .ok (.iconst 4, 1) := by decide +kernel
theorem dX7_init_58 : decode cX7_init 58 = .ok (.anewarray 24, 3) := by decide +kernel
theorem dX7_init_61 : decode cX7_init 61 = .ok (.putfield 26, 3) := by decide +kernel
theorem dX7_init_64 : decode cX7_init 64 = .ok (.iconst 0, 1) := by decide +kernel
theorem dX7_init_65 : decode cX7_init 65 = .ok (.istore_n 1, 1) := by decide +kernel
theorem dX7_init_66 : decode cX7_init 66 = .ok (.iload_n 1, 1) := by decide +kernel
theorem dX7_init_67 : decode cX7_init 67 = .ok (.iconst 4, 1) := by decide +kernel
theorem dX7_init_68 : decode cX7_init 68 = .ok (.if_icmp .ge 22, 3) := by decide +kernel
theorem dX7_init_71 : decode cX7_init 71 = .ok (.aload_n 0, 1) := by decide +kernel
theorem dX7_init_72 : decode cX7_init 72 = .ok (.getfield 26, 3) := by decide +kernel
theorem dX7_init_75 : decode cX7_init 75 = .ok (.iload_n 1, 1) := by decide +kernel
theorem dX7_init_76 : decode cX7_init 76 = .ok (.new 24, 3) := by decide +kernel
theorem dX7_init_79 : decode cX7_init 79 = .ok (.dup, 1) := by decide +kernel
theorem dX7_init_80 : decode cX7_init 80 = .ok (.invokespecial 30, 3) := by decide +kernel
theorem dX7_init_83 : decode cX7_init 83 = .ok (.aastore, 1) := by decide +kernel
theorem dX7_init_84 : decode cX7_init 84 = .ok (.iinc 1 1, 3) := by decide +kernel
theorem dX7_init_87 : decode cX7_init 87 = .ok (.goto (-21), 3) := by decide +kernel
theorem dX7_init_90 : decode cX7_init 90 = .ok (.aload_n 0, 1) := by decide +kernel
theorem dX7_init_91 : decode cX7_init 91 = .ok (.new 31, 3) := by decide +kernel
theorem dX7_init_94 : decode cX7_init 94 = .ok (.dup, 1) := by decide +kernel
theorem dX7_init_95 : decode cX7_init 95 = .ok (.invokespecial 33, 3) := by decide +kernel
theorem dX7_init_98 : decode cX7_init 98 = .ok (.putfield 34, 3) := by decide +kernel
theorem dX7_init_101 : decode cX7_init 101 = .ok (.aload_n 0, 1) := by decide +kernel
theorem dX7_init_102 : decode cX7_init 102 = .ok (.new 38, 3) := by decide +kernel
theorem dX7_init_105 : decode cX7_init 105 = .ok (.dup, 1) := by decide +kernel
theorem dX7_init_106 : decode cX7_init 106 = .ok (.invokespecial 40, 3) := by decide +kernel
theorem dX7_init_109 : decode cX7_init 109 = .ok (.putfield 41, 3) := by decide +kernel
theorem dX7_init_112 : decode cX7_init 112 = .ok (.aload_n 0, 1) := by decide +kernel
theorem dX7_init_113 : decode cX7_init 113 = .ok (.new 45, 3) := by decide +kernel
theorem dX7_init_116 : decode cX7_init 116 = .ok (.dup, 1) := by decide +kernel
theorem dX7_init_117 : decode cX7_init 117 = .ok (.invokespecial 47, 3) := by decide +kernel
theorem dX7_init_120 : decode cX7_init 120 = .ok (.putfield 48, 3) := by decide +kernel
theorem dX7_init_123 : decode cX7_init 123 = .ok (.aload_n 0, 1) := by decide +kernel
theorem dX7_init_124 : decode cX7_init 124 = .ok (.new 52, 3) := by decide +kernel
theorem dX7_init_127 : decode cX7_init 127 = .ok (.dup, 1) := by decide +kernel
theorem dX7_init_128 : decode cX7_init 128 = .ok (.invokespecial 54, 3) := by decide +kernel
theorem dX7_init_131 : decode cX7_init 131 = .ok (.putfield 55, 3) := by decide +kernel
theorem dX7_init_134 : decode cX7_init 134 = .ok (.aload_n 0, 1) := by decide +kernel
theorem dX7_init_135 : decode cX7_init 135 = .ok (.aload_n 0, 1) := by decide +kernel
theorem dX7_init_136 : decode cX7_init 136 = .ok (.getfield 55, 3) := by decide +kernel
theorem dX7_init_139 : decode cX7_init 139 = .ok (.getfield 59, 3) := by decide +kernel
theorem dX7_init_142 : decode cX7_init 142 = .ok (.putfield 63, 3) := by decide +kernel
theorem dX7_init_145 : decode cX7_init 145 = .ok (.aload_n 0, 1) := by decide +kernel
theorem dX7_init_146 : decode cX7_init 146 = .ok (.iconst 0, 1) := by decide +kernel
theorem dX7_init_147 : decode cX7_init 147 = .ok (.putfield 64, 3) := by decide +kernel
theorem dX7_init_150 : decode cX7_init 150 = .ok (.return_, 1) := by decide +kernel
theorem dX7_feed_0 : decode cX7_feed 0 = .ok (.iload_n 1, 1) := by decide +kernel
theorem dX7_feed_1 : decode cX7_feed 1 = .ok (.ifCond .lt 9, 3) := by decide +kernel
theorem dX7_feed_4 : decode cX7_feed 4 = .ok (.iload_n 1, 1) := by decide +kernel
theorem dX7_feed_5 : decode cX7_feed 5 = .ok (.bipush 127, 2) := by decide +kernel
theorem dX7_feed_7 : decode cX7_feed 7 = .ok (.if_icmp .le 5, 3) := by decide +kernel
theorem dX7_feed_10 : decode cX7_feed 10 = .ok (.iconst (-1), 1) := by decide +kernel
theorem dX7_feed_11 : decode cX7_feed 11 = .ok (.ireturn, 1) := by decide +kernel
theorem dX7_feed_12 : decode cX7_feed 12 = .ok (.aload_n 0, 1) := by decide +kernel
theorem dX7_feed_13 : decode cX7_feed 13 = .ok (.getfield 63, 3) := by decide +kernel
theorem dX7_feed_16 : decode cX7_feed 16 = .ok (.getfield 68, 3) := by decide +kernel
theorem dX7_feed_19 : decode cX7_feed 19 = .ok (.sipush 320, 3) := by decide +kernel
theorem dX7_feed_22 : decode cX7_feed 22 = .ok (.if_icmp .lt 6, 3) := by decide +kernel
theorem dX7_feed_25 : decode cX7_feed 25 = .ok (.bipush (-3), 2) := by decide +kernel
theorem dX7_feed_27 : decode cX7_feed 27 = .ok (.ireturn, 1) := by decide +kernel
theorem dX7_feed_28 : decode cX7_feed 28 = .ok (.aload_n 0, 1) := by decide +kernel
theorem dX7_feed_29 : decode cX7_feed 29 = .ok (.getfield 63, 3) := by decide +kernel
theorem dX7_feed_32 : decode cX7_feed 32 = .ok (.getfield 73, 3) := by decide +kernel
theorem dX7_feed_35 : decode cX7_feed 35 = .ok (.aload_n 0, 1) := by decide +kernel
theorem dX7_feed_36 : decode cX7_feed 36 = .ok (.getfield 63, 3) := by decide +kernel
theorem dX7_feed_39 : decode cX7_feed 39 = .ok (.getfield 68, 3) := by decide +kernel
theorem dX7_feed_42 : decode cX7_feed 42 = .ok (.iload_n 1, 1) := by decide +kernel
theorem dX7_feed_43 : decode cX7_feed 43 = .ok (.i2b, 1) := by decide +kernel
theorem dX7_feed_44 : decode cX7_feed 44 = .ok (.bastore, 1) := by decide +kernel
theorem dX7_feed_45 : decode cX7_feed 45 = .ok (.aload_n 0, 1) := by decide +kernel
theorem dX7_feed_46 : decode cX7_feed 46 = .ok (.getfield 63, 3) := by decide +kernel
theorem dX7_feed_49 : decode cX7_feed 49 = .ok (.dup, 1) := by decide +kernel
theorem dX7_feed_50 : decode cX7_feed 50 = .ok (.getfield 68, 3) := by decide +kernel
theorem dX7_feed_53 : decode cX7_feed 53 = .ok (.iconst 1, 1) := by decide +kernel
theorem dX7_feed_54 : decode cX7_feed 54 = .ok (.iadd, 1) := by decide +kernel
theorem dX7_feed_55 : decode cX7_feed 55 = .ok (.putfield 68, 3) := by decide +kernel
theorem dX7_feed_58 : decode cX7_feed 58 = .ok (.aload_n 0, 1) := by decide +kernel
theorem dX7_feed_59 : decode cX7_feed 59 = .ok (.getfield 63, 3) := by decide +kernel
theorem dX7_feed_62 : decode cX7_feed 62 = .ok (.getfield 68, 3) := by decide +kernel
theorem dX7_feed_65 : decode cX7_feed 65 = .ok (.ireturn, 1) := by decide +kernel
theorem dX7_end_0 : decode cX7_end 0 = .ok (.iload_n 1, 1) := by decide +kernel
theorem dX7_end_1 : decode cX7_end 1 = .ok (.ifCond .lt 14, 3) := by decide +kernel
theorem dX7_end_4 : decode cX7_end 4 = .ok (.iload_n 1, 1) := by decide +kernel
theorem dX7_end_5 : decode cX7_end 5 = .ok (.aload_n 0, 1) := by decide +kernel
theorem dX7_end_6 : decode cX7_end 6 = .ok (.getfield 63, 3) := by decide +kernel
theorem dX7_end_9 : decode cX7_end 9 = .ok (.getfield 68, 3) := by decide +kernel
theorem dX7_end_12 : decode cX7_end 12 = .ok (.if_icmp .le 5, 3) := by decide +kernel
theorem dX7_end_15 : decode cX7_end 15 = .ok (.iconst (-1), 1) := by decide +kernel
theorem dX7_end_16 : decode cX7_end 16 = .ok (.ireturn, 1) := by decide +kernel
theorem dX7_end_17 : decode cX7_end 17 = .ok (.aload_n 0, 1) := by decide +kernel
theorem dX7_end_18 : decode cX7_end 18 = .ok (.getfield 63, 3) := by decide +kernel
theorem dX7_end_21 : decode cX7_end 21 = .ok (.getfield 68, 3) := by decide +kernel
theorem dX7_end_24 : decode cX7_end 24 = .ok (.istore_n 2, 1) := by decide +kernel
theorem dX7_end_25 : decode cX7_end 25 = .ok (.aload_n 0, 1) := by decide +kernel
theorem dX7_end_26 : decode cX7_end 26 = .ok (.getfield 63, 3) := by decide +kernel
theorem dX7_end_29 : decode cX7_end 29 = .ok (.iload_n 1, 1) := by decide +kernel
theorem dX7_end_30 : decode cX7_end 30 = .ok (.putfield 68, 3) := by decide +kernel
theorem dX7_end_33 : decode cX7_end 33 = .ok (.iload_n 2, 1) := by decide +kernel
theorem dX7_end_34 : decode cX7_end 34 = .ok (.ireturn, 1) := by decide +kernel
set_option maxRecDepth 20000 in
theorem ggX7_text_X1_readAll : GoodIn wsX7_text wsX1_readAll := goodIn_r _ [18, 19, 20, 21, 22, 23, 24, 25, 26, 27, 28, 29, 30, 31, 32, 33, 34, 35, 36, 17, 37, 38, 39, 40, 41, 42, 43, 44, 45, 46, 47, 48, 49, 50, 51, 52, 53, 54, 55, 56, 57, 58, 59, 60, 61, 62, 63, 64, 65, 66, 67, 68, 69, 70, 71, 72, 73, 74, 75, 76, 77, 78, 79, 80, 81, 82, 83, 84, 85, 86, 87, 88, 89, 90, 91, 92, 93, 94, 95, 96, 97, 98, 99, 100, 101, 102, 103, 104, 105, 106, 107, 108, 109, 110, 111, 112, 113, 114, 115, 116, 117, 118, 119, 120, 121, 122, 123, 124, 125, 126, 127, 128, 129, 130, 131, 132, 133, 134, 135, 136, 137, 138, 139, 140, 141, 142, 143, 144, 145, 146, 147, 148, 149, 150, 151, 152, 153, 154, 155, 156, 157, 158, 159, 160, 161, 162, 163, 164, 208, 209, 210, 211, 212, 213, 214, 215, 216, 217, 218, 219, 220, 221, 222, 223, 224, 225] (by decide +kernel) (by decide +kernel)
set_option maxRecDepth 20000 in
theorem gX7_text_X1_readAll : GoodIn wsX7_text (wsV RX7 77 RX1 yX1_readAll wsX1_readAll) := goodIn_app (goodIn_of _ (by decide +kernel)) ggX7_text_X1_readAll
set_option maxRecDepth 20000 in
theorem ggX7_text_X2_canHold : GoodIn wsX7_text wsX2_canHold := goodIn_r _ [169, 170, 171, 172, 173, 174, 175, 176, 177, 168, 178, 179, 180, 181, 182, 183, 184, 185, 139, 186, 187, 229, 230, 216, 217, 218, 219, 220, 221, 222, 223] (by decide +kernel) (by decide +kernel)
set_option maxRecDepth 20000 in
theorem gX7_text_X2_canHold : GoodIn wsX7_text (wsV RX7 89 RX2 yX2_canHold wsX2_canHold) := goodIn_app (goodIn_of _ (by decide +kernel)) ggX7_text_X2_canHold
set_option maxRecDepth 20000 in
theorem ggX7_text_X1_fail : GoodIn wsX7_text wsX1_fail := goodIn_r _ [62, 20, 21, 208, 209, 210, 211, 212, 213, 214, 215] (by decide +kernel) (by decide +kernel)
set_option maxRecDepth 20000 in
theorem gX7_text_X1_fail : GoodIn wsX7_text (wsV RX7 93 RX1 yX1_fail wsX1_fail) := goodIn_app (goodIn_of _ (by decide +kernel)) ggX7_text_X1_fail
set_option maxRecDepth 20000 in
theorem ggX7_text_X5_takeFrom : GoodIn wsX7_text wsX5_takeFrom := goodIn_r _ [192, 157, 193, 194, 195, 196, 158, 159, 160, 197, 31, 32, 33, 216, 217, 218, 219, 220, 221, 222, 223] (by decide +kernel) (by decide +kernel)
set_option maxRecDepth 20000 in
theorem gX7_text_X5_takeFrom : GoodIn wsX7_text (wsV RX7 100 RX5 yX5_takeFrom wsX5_takeFrom) := goodIn_app (goodIn_of _ (by decide +kernel)) ggX7_text_X5_takeFrom
theorem dX7_text_0 : decode cX7_text 0 = .ok (.aload_n 0, 1) := by decide +kernel
theorem dX7_text_1 : decode cX7_text 1 = .ok (.getfield 55, 3) := by decide +kernel
theorem dX7_text_4 : decode cX7_text 4 = .ok (.invokevirtual 77, 3) := by decide +kernel
theorem dX7_text_7 : decode cX7_text 7 = .ok (.aload_n 0, 1) := by decide +kernel
theorem dX7_text_8 : decode cX7_text 8 = .ok (.getfield 55, 3) := by decide +kernel
theorem dX7_text_11 : decode cX7_text 11 = .ok (.getfield 80, 3) := by decide +kernel
theorem dX7_text_14 : decode cX7_text 14 = .ok (.ifCond .ne 46, 3) := by decide +kernel
theorem dX7_text_17 : decode cX7_text 17 = .ok (.aload_n 0, 1) := by decide +kernel
theorem dX7_text_18 : decode cX7_text 18 = .ok (.getfield 34, 3) := by decide +kernel
theorem dX7_text_21 : decode cX7_text 21 = .ok (.aload_n 0, 1) := by decide +kernel
theorem dX7_text_22 : decode cX7_text 22 = .ok (.getfield 55, 3) := by decide +kernel
theorem dX7_text_25 : decode cX7_text 25 = .ok (.getfield 83, 3) := by decide +kernel
theorem dX7_text_28 : decode cX7_text 28 = .ok (.aload_n 0, 1) := by decide +kernel
theorem dX7_text_29 : decode cX7_text 29 = .ok (.getfield 55, 3) := by decide +kernel
theorem dX7_text_32 : decode cX7_text 32 = .ok (.getfield 83, 3) := by decide +kernel
theorem dX7_text_35 : decode cX7_text 35 = .ok (.getfield 86, 3) := by decide +kernel
theorem dX7_text_38 : decode cX7_text 38 = .ok (.invokevirtual 89, 3) := by decide +kernel
theorem dX7_text_41 : decode cX7_text 41 = .ok (.ifCond .ne 19, 3) := by decide +kernel
theorem dX7_text_44 : decode cX7_text 44 = .ok (.aload_n 0, 1) := by decide +kernel
theorem dX7_text_45 : decode cX7_text 45 = .ok (.getfield 55, 3) := by decide +kernel
theorem dX7_text_48 : decode cX7_text 48 = .ok (.bipush 6, 2) := by decide +kernel
theorem dX7_text_50 : decode cX7_text 50 = .ok (.aload_n 0, 1) := by decide +kernel
theorem dX7_text_51 : decode cX7_text 51 = .ok (.getfield 63, 3) := by decide +kernel
theorem dX7_text_54 : decode cX7_text 54 = .ok (.getfield 68, 3) := by decide +kernel
theorem dX7_text_57 : decode cX7_text 57 = .ok (.invokevirtual 93, 3) := by decide +kernel
theorem dX7_text_60 : decode cX7_text 60 = .ok (.aload_n 0, 1) := by decide +kernel
theorem dX7_text_61 : decode cX7_text 61 = .ok (.getfield 63, 3) := by decide +kernel
theorem dX7_text_64 : decode cX7_text 64 = .ok (.iconst 0, 1) := by decide +kernel
theorem dX7_text_65 : decode cX7_text 65 = .ok (.putfield 68, 3) := by decide +kernel
theorem dX7_text_68 : decode cX7_text 68 = .ok (.aload_n 0, 1) := by decide +kernel
theorem dX7_text_69 : decode cX7_text 69 = .ok (.getfield 55, 3) := by decide +kernel
theorem dX7_text_72 : decode cX7_text 72 = .ok (.getfield 80, 3) := by decide +kernel
theorem dX7_text_75 : decode cX7_text 75 = .ok (.ifCond .eq 14, 3) := by decide +kernel
theorem dX7_text_78 : decode cX7_text 78 = .ok (.bipush (-10), 2) := by decide +kernel
theorem dX7_text_80 : decode cX7_text 80 = .ok (.aload_n 0, 1) := by decide +kernel
theorem dX7_text_81 : decode cX7_text 81 = .ok (.getfield 55, 3) := by decide +kernel
theorem dX7_text_84 : decode cX7_text 84 = .ok (.getfield 97, 3) := by decide +kernel
theorem dX7_text_87 : decode cX7_text 87 = .ok (.isub, 1) := by decide +kernel
theorem dX7_text_88 : decode cX7_text 88 = .ok (.ireturn, 1) := by decide +kernel
theorem dX7_text_89 : decode cX7_text 89 = .ok (.aload_n 0, 1) := by decide +kernel
theorem dX7_text_90 : decode cX7_text 90 = .ok (.getfield 10, 3) := by decide +kernel
theorem dX7_text_93 : decode cX7_text 93 = .ok (.aload_n 0, 1) := by decide +kernel
theorem dX7_text_94 : decode cX7_text 94 = .ok (.getfield 55, 3) := by decide +kernel
theorem dX7_text_97 : decode cX7_text 97 = .ok (.getfield 83, 3) := by decide +kernel
theorem dX7_text_100 : decode cX7_text 100 = .ok (.invokevirtual 100, 3) := by decide +kernel
theorem dX7_text_103 : decode cX7_text 103 = .ok (.aload_n 0, 1) := by decide +kernel
theorem dX7_text_104 : decode cX7_text 104 = .ok (.getfield 41, 3) := by decide +kernel
theorem dX7_text_107 : decode cX7_text 107 = .ok (.iconst 0, 1) := by decide +kernel
theorem dX7_text_108 : decode cX7_text 108 = .ok (.putfield 104, 3) := by decide +kernel
theorem dX7_text_111 : decode cX7_text 111 = .ok (.iconst 0, 1) := by decide +kernel
theorem dX7_text_112 : decode cX7_text 112 = .ok (.istore_n 1, 1) := by decide +kernel
theorem dX7_text_113 : decode cX7_text 113 = .ok (.iload_n 1, 1) := by decide +kernel
theorem dX7_text_114 : decode cX7_text 114 = .ok (.iconst 2, 1) := by decide +kernel
theorem dX7_text_115 : decode cX7_text 115 = .ok (.if_icmp .ge 16, 3) := by decide +kernel
theorem dX7_text_118 : decode cX7_text 118 = .ok (.aload_n 0, 1) := by decide +kernel
theorem dX7_text_119 : decode cX7_text 119 = .ok (.getfield 20, 3) := by decide +kernel
theorem dX7_text_122 : decode cX7_text 122 = .ok (.iload_n 1, 1) := by decide +kernel
theorem dX7_text_123 : decode cX7_text 123 = .ok (.iconst 0, 1) := by decide +kernel
theorem dX7_text_124 : decode cX7_text 124 = .ok (.bastore, 1) := by decide +kernel
theorem dX7_text_125 : decode cX7_text 125 = .ok (.iinc 1 1, 3) := by decide +kernel
theorem dX7_text_128 : decode cX7_text 128 = .ok (.goto (-15), 3) := by decide +kernel
theorem dX7_text_131 : decode cX7_text 131 = .ok (.aload_n 0, 1) := by decide +kernel
theorem dX7_text_132 : decode cX7_text 132 = .ok (.getfield 55, 3) := by decide +kernel
theorem dX7_text_135 : decode cX7_text 135 = .ok (.getfield 105, 3) := by decide +kernel
theorem dX7_text_138 : decode cX7_text 138 = .ok (.ireturn, 1) := by decide +kernel
theorem dX7_fault_0 : decode cX7_fault 0 = .ok (.aload_n 0, 1) := by decide +kernel
theorem dX7_fault_1 : decode cX7_fault 1 = .ok (.getfield 55, 3) := by decide +kernel
theorem dX7_fault_4 : decode cX7_fault 4 = .ok (.getfield 80, 3) := by decide +kernel
theorem dX7_fault_7 : decode cX7_fault 7 = .ok (.ireturn, 1) := by decide +kernel
set_option maxRecDepth 20000 in
theorem ggX7_rule_X5_pairs : GoodIn wsX7_rule wsX5_pairs := goodIn_r _ [12, 13, 14, 15, 16, 11, 17, 18, 19, 20, 21, 22, 23, 101, 102, 103, 104, 105, 106, 107, 108] (by decide +kernel) (by decide +kernel)
set_option maxRecDepth 20000 in
theorem gX7_rule_X5_pairs : GoodIn wsX7_rule (wsV RX7 112 RX5 yX5_pairs wsX5_pairs) := goodIn_app (goodIn_of _ (by decide +kernel)) ggX7_rule_X5_pairs
set_option maxRecDepth 20000 in
theorem ggX7_rule_X5_differentLimits : GoodIn wsX7_rule wsX5_differentLimits := goodIn_r _ [27, 13, 28, 29, 30, 11, 31, 32, 101, 102, 103, 104, 105, 106, 107, 108] (by decide +kernel) (by decide +kernel)
set_option maxRecDepth 20000 in
theorem gX7_rule_X5_differentLimits : GoodIn wsX7_rule (wsV RX7 116 RX5 yX5_differentLimits wsX5_differentLimits) := goodIn_app (goodIn_of _ (by decide +kernel)) ggX7_rule_X5_differentLimits
set_option maxRecDepth 20000 in
theorem ggX7_rule_X7_needlessBounds : GoodIn wsX7_rule wsX7_needlessBounds := goodIn_r _ [37, 1, 2, 38, 39, 40, 36, 41, 5, 42, 43, 44, 45, 46, 47, 48, 49, 50, 51, 52, 53, 54, 55, 56, 57, 58, 59, 60, 61, 62, 63, 64, 65, 66, 67, 68, 69, 70, 11, 71, 32, 72, 73, 91, 92, 93, 94, 95, 96, 97, 98, 99, 100, 101, 102, 103, 104, 105, 106, 107, 108, 112, 113] (by decide +kernel) (by decide +kernel)
set_option maxRecDepth 20000 in
theorem gX7_rule_X7_needlessBounds : GoodIn wsX7_rule (wsV RX7 119 RX7 yX7_needlessBounds wsX7_needlessBounds) := goodIn_app (goodIn_of _ (by decide +kernel)) ggX7_rule_X7_needlessBounds
set_option maxRecDepth 20000 in
theorem ggX7_rule_X2_groups : GoodIn wsX7_rule wsX2_groups := goodIn_r _ [77, 49, 78, 79, 80, 81, 82, 83, 45, 46, 47, 48, 50, 51, 52, 53, 54, 55, 56, 57, 58, 59, 60, 61, 62, 63, 64, 65, 36, 66, 67, 84, 85, 86, 87, 88, 89, 90, 112, 113, 101, 102, 103, 104, 105, 106, 107, 108] (by decide +kernel) (by decide +kernel)
set_option maxRecDepth 20000 in
theorem gX7_rule_X2_groups : GoodIn wsX7_rule (wsV RX7 122 RX2 yX2_groups wsX2_groups) := goodIn_app (goodIn_of _ (by decide +kernel)) ggX7_rule_X2_groups
theorem dX7_rule_0 : decode cX7_rule 0 = .ok (.iload_n 1, 1) := by decide +kernel
theorem dX7_rule_1 : decode cX7_rule 1 = .ok (.tableswitch 112 0 7 #[47, 55, 63, 71, 79, 87, 92, 104], 47) := by decide +kernel
theorem dX7_rule_48 : decode cX7_rule 48 = .ok (.aload_n 0, 1) := by decide +kernel
theorem dX7_rule_49 : decode cX7_rule 49 = .ok (.getfield 10, 3) := by decide +kernel
theorem dX7_rule_52 : decode cX7_rule 52 = .ok (.getfield 108, 3) := by decide +kernel
theorem dX7_rule_55 : decode cX7_rule 55 = .ok (.ireturn, 1) := by decide +kernel
theorem dX7_rule_56 : decode cX7_rule 56 = .ok (.aload_n 0, 1) := by decide +kernel
theorem dX7_rule_57 : decode cX7_rule 57 = .ok (.getfield 10, 3) := by decide +kernel
theorem dX7_rule_60 : decode cX7_rule 60 = .ok (.getfield 86, 3) := by decide +kernel
theorem dX7_rule_63 : decode cX7_rule 63 = .ok (.ireturn, 1) := by decide +kernel
theorem dX7_rule_64 : decode cX7_rule 64 = .ok (.aload_n 0, 1) := by decide +kernel
theorem dX7_rule_65 : decode cX7_rule 65 = .ok (.getfield 10, 3) := by decide +kernel
theorem dX7_rule_68 : decode cX7_rule 68 = .ok (.getfield 109, 3) := by decide +kernel
theorem dX7_rule_71 : decode cX7_rule 71 = .ok (.ireturn, 1) := by decide +kernel
theorem dX7_rule_72 : decode cX7_rule 72 = .ok (.aload_n 0, 1) := by decide +kernel
theorem dX7_rule_73 : decode cX7_rule 73 = .ok (.getfield 10, 3) := by decide +kernel
theorem dX7_rule_76 : decode cX7_rule 76 = .ok (.invokevirtual 112, 3) := by decide +kernel
theorem dX7_rule_79 : decode cX7_rule 79 = .ok (.ireturn, 1) := by decide +kernel
theorem dX7_rule_80 : decode cX7_rule 80 = .ok (.aload_n 0, 1) := by decide +kernel
theorem dX7_rule_81 : decode cX7_rule 81 = .ok (.getfield 10, 3) := by decide +kernel
theorem dX7_rule_84 : decode cX7_rule 84 = .ok (.invokevirtual 116, 3) := by decide +kernel
theorem dX7_rule_87 : decode cX7_rule 87 = .ok (.ireturn, 1) := by decide +kernel
theorem dX7_rule_88 : decode cX7_rule 88 = .ok (.aload_n 0, 1) := by decide +kernel
theorem dX7_rule_89 : decode cX7_rule 89 = .ok (.invokevirtual 119, 3) := by decide +kernel
theorem dX7_rule_92 : decode cX7_rule 92 = .ok (.ireturn, 1) := by decide +kernel
theorem dX7_rule_93 : decode cX7_rule 93 = .ok (.aload_n 0, 1) := by decide +kernel
theorem dX7_rule_94 : decode cX7_rule 94 = .ok (.getfield 34, 3) := by decide +kernel
theorem dX7_rule_97 : decode cX7_rule 97 = .ok (.aload_n 0, 1) := by decide +kernel
theorem dX7_rule_98 : decode cX7_rule 98 = .ok (.getfield 10, 3) := by decide +kernel
theorem dX7_rule_101 : decode cX7_rule 101 = .ok (.invokevirtual 122, 3) := by decide +kernel
theorem dX7_rule_104 : decode cX7_rule 104 = .ok (.ireturn, 1) := by decide +kernel
theorem dX7_rule_105 : decode cX7_rule 105 = .ok (.aload_n 0, 1) := by decide +kernel
theorem dX7_rule_106 : decode cX7_rule 106 = .ok (.getfield 41, 3) := by decide +kernel
theorem dX7_rule_109 : decode cX7_rule 109 = .ok (.getfield 104, 3) := by decide +kernel
theorem dX7_rule_112 : decode cX7_rule 112 = .ok (.ireturn, 1) := by decide +kernel
theorem dX7_rule_113 : decode cX7_rule 113 = .ok (.iconst (-1), 1) := by decide +kernel
theorem dX7_rule_114 : decode cX7_rule 114 = .ok (.ireturn, 1) := by decide +kernel
set_option maxRecDepth 20000 in
theorem ggX7_bound_X5_has : GoodIn wsX7_bound wsX5_has := goodIn_r _ [9, 10, 68, 69, 70, 71, 72, 73, 74, 75] (by decide +kernel) (by decide +kernel)
set_option maxRecDepth 20000 in
theorem gX7_bound_X5_has : GoodIn wsX7_bound (wsV RX7 126 RX5 yX5_has wsX5_has) := goodIn_app (goodIn_of _ (by decide +kernel)) ggX7_bound_X5_has
set_option maxRecDepth 20000 in
theorem ggX7_bound_X7_isNeedless : GoodIn wsX7_bound wsX7_isNeedless := goodIn_r _ [15, 16, 1, 3, 2, 17, 18, 19, 20, 21, 22, 23, 24, 25, 26, 27, 28, 29, 30, 31, 32, 33, 34, 35, 36, 37, 38, 14, 39, 40, 41, 42, 43, 8, 44, 45, 46, 47, 58, 59, 60, 61, 62, 63, 64, 65, 66, 67, 68, 69, 70, 71, 72, 73, 74, 75, 76, 77] (by decide +kernel) (by decide +kernel)
set_option maxRecDepth 20000 in
theorem gX7_bound_X7_isNeedless : GoodIn wsX7_bound (wsV RX7 140 RX7 yX7_isNeedless wsX7_isNeedless) := goodIn_app (goodIn_of _ (by decide +kernel)) ggX7_bound_X7_isNeedless
set_option maxRecDepth 20000 in
theorem ggX7_bound_X5_ofPair : GoodIn wsX7_bound wsX5_ofPair := goodIn_r _ [51, 10, 52, 53, 54, 8, 55, 56, 57, 68, 69, 70, 71, 72, 73, 74, 75] (by decide +kernel) (by decide +kernel)
set_option maxRecDepth 20000 in
theorem gX7_bound_X5_ofPair : GoodIn wsX7_bound (wsV RX7 143 RX5 yX5_ofPair wsX5_ofPair) := goodIn_app (goodIn_of _ (by decide +kernel)) ggX7_bound_X5_ofPair
theorem dX7_bound_0 : decode cX7_bound 0 = .ok (.aload_n 0, 1) := by decide +kernel
theorem dX7_bound_1 : decode cX7_bound 1 = .ok (.getfield 10, 3) := by decide +kernel
theorem dX7_bound_4 : decode cX7_bound 4 = .ok (.iload_n 1, 1) := by decide +kernel
theorem dX7_bound_5 : decode cX7_bound 5 = .ok (.invokevirtual 126, 3) := by decide +kernel
theorem dX7_bound_8 : decode cX7_bound 8 = .ok (.ifCond .ne 5, 3) := by decide +kernel
theorem dX7_bound_11 : decode cX7_bound 11 = .ok (.iconst (-1), 1) := by decide +kernel
theorem dX7_bound_12 : decode cX7_bound 12 = .ok (.ireturn, 1) := by decide +kernel
theorem dX7_bound_13 : decode cX7_bound 13 = .ok (.iload_n 2, 1) := by decide +kernel
theorem dX7_bound_14 : decode cX7_bound 14 = .ok (.tableswitch 104 0 4 #[34, 44, 54, 64, 78], 34) := by decide +kernel
theorem dX7_bound_48 : decode cX7_bound 48 = .ok (.aload_n 0, 1) := by decide +kernel
theorem dX7_bound_49 : decode cX7_bound 49 = .ok (.getfield 10, 3) := by decide +kernel
theorem dX7_bound_52 : decode cX7_bound 52 = .ok (.getfield 130, 3) := by decide +kernel
theorem dX7_bound_55 : decode cX7_bound 55 = .ok (.iload_n 1, 1) := by decide +kernel
theorem dX7_bound_56 : decode cX7_bound 56 = .ok (.iaload, 1) := by decide +kernel
theorem dX7_bound_57 : decode cX7_bound 57 = .ok (.ireturn, 1) := by decide +kernel
theorem dX7_bound_58 : decode cX7_bound 58 = .ok (.aload_n 0, 1) := by decide +kernel
theorem dX7_bound_59 : decode cX7_bound 59 = .ok (.getfield 10, 3) := by decide +kernel
theorem dX7_bound_62 : decode cX7_bound 62 = .ok (.getfield 134, 3) := by decide +kernel
theorem dX7_bound_65 : decode cX7_bound 65 = .ok (.iload_n 1, 1) := by decide +kernel
theorem dX7_bound_66 : decode cX7_bound 66 = .ok (.iaload, 1) := by decide +kernel
theorem dX7_bound_67 : decode cX7_bound 67 = .ok (.ireturn, 1) := by decide +kernel
theorem dX7_bound_68 : decode cX7_bound 68 = .ok (.aload_n 0, 1) := by decide +kernel
theorem dX7_bound_69 : decode cX7_bound 69 = .ok (.getfield 10, 3) := by decide +kernel
theorem dX7_bound_72 : decode cX7_bound 72 = .ok (.getfield 137, 3) := by decide +kernel
theorem dX7_bound_75 : decode cX7_bound 75 = .ok (.iload_n 1, 1) := by decide +kernel
theorem dX7_bound_76 : decode cX7_bound 76 = .ok (.iaload, 1) := by decide +kernel
theorem dX7_bound_77 : decode cX7_bound 77 = .ok (.ireturn, 1) := by decide +kernel
theorem dX7_bound_78 : decode cX7_bound 78 = .ok (.aload_n 0, 1) := by decide +kernel
theorem dX7_bound_79 : decode cX7_bound 79 = .ok (.iload_n 1, 1) := by decide +kernel
theorem dX7_bound_80 : decode cX7_bound 80 = .ok (.invokevirtual 140, 3) := by decide +kernel
theorem dX7_bound_83 : decode cX7_bound 83 = .ok (.ifCond .eq 7, 3) := by decide +kernel
theorem dX7_bound_86 : decode cX7_bound 86 = .ok (.iconst 1, 1) := by decide +kernel
theorem dX7_bound_87 : decode cX7_bound 87 = .ok (.goto 4, 3) := by decide +kernel
theorem dX7_bound_90 : decode cX7_bound 90 = .ok (.iconst 0, 1) := by decide +kernel
theorem dX7_bound_91 : decode cX7_bound 91 = .ok (.ireturn, 1) := by decide +kernel
theorem dX7_bound_92 : decode cX7_bound 92 = .ok (.aload_n 0, 1) := by decide +kernel
theorem dX7_bound_93 : decode cX7_bound 93 = .ok (.getfield 10, 3) := by decide +kernel
theorem dX7_bound_96 : decode cX7_bound 96 = .ok (.aload_n 0, 1) := by decide +kernel
theorem dX7_bound_97 : decode cX7_bound 97 = .ok (.getfield 10, 3) := by decide +kernel
theorem dX7_bound_100 : decode cX7_bound 100 = .ok (.getfield 130, 3) := by decide +kernel
theorem dX7_bound_103 : decode cX7_bound 103 = .ok (.iload_n 1, 1) := by decide +kernel
theorem dX7_bound_104 : decode cX7_bound 104 = .ok (.iaload, 1) := by decide +kernel
theorem dX7_bound_105 : decode cX7_bound 105 = .ok (.aload_n 0, 1) := by decide +kernel
theorem dX7_bound_106 : decode cX7_bound 106 = .ok (.getfield 10, 3) := by decide +kernel
theorem dX7_bound_109 : decode cX7_bound 109 = .ok (.getfield 134, 3) := by decide +kernel
theorem dX7_bound_112 : decode cX7_bound 112 = .ok (.iload_n 1, 1) := by decide +kernel
theorem dX7_bound_113 : decode cX7_bound 113 = .ok (.iaload, 1) := by decide +kernel
theorem dX7_bound_114 : decode cX7_bound 114 = .ok (.invokevirtual 143, 3) := by decide +kernel
theorem dX7_bound_117 : decode cX7_bound 117 = .ok (.ireturn, 1) := by decide +kernel
theorem dX7_bound_118 : decode cX7_bound 118 = .ok (.iconst (-1), 1) := by decide +kernel
theorem dX7_bound_119 : decode cX7_bound 119 = .ok (.ireturn, 1) := by decide +kernel
set_option maxRecDepth 20000 in
theorem ggX7_limit_X5_has : GoodIn wsX7_limit wsX5_has := goodIn_r _ [8, 9, 20, 21, 22, 23, 24, 25, 26, 27] (by decide +kernel) (by decide +kernel)
set_option maxRecDepth 20000 in
theorem gX7_limit_X5_has : GoodIn wsX7_limit (wsV RX7 126 RX5 yX5_has wsX5_has) := goodIn_app (goodIn_of _ (by decide +kernel)) ggX7_limit_X5_has
theorem dX7_limit_0 : decode cX7_limit 0 = .ok (.aload_n 0, 1) := by decide +kernel
theorem dX7_limit_1 : decode cX7_limit 1 = .ok (.getfield 10, 3) := by decide +kernel
theorem dX7_limit_4 : decode cX7_limit 4 = .ok (.iload_n 1, 1) := by decide +kernel
theorem dX7_limit_5 : decode cX7_limit 5 = .ok (.invokevirtual 126, 3) := by decide +kernel
theorem dX7_limit_8 : decode cX7_limit 8 = .ok (.ifCond .eq 16, 3) := by decide +kernel
theorem dX7_limit_11 : decode cX7_limit 11 = .ok (.aload_n 0, 1) := by decide +kernel
theorem dX7_limit_12 : decode cX7_limit 12 = .ok (.getfield 10, 3) := by decide +kernel
theorem dX7_limit_15 : decode cX7_limit 15 = .ok (.getfield 147, 3) := by decide +kernel
theorem dX7_limit_18 : decode cX7_limit 18 = .ok (.iload_n 1, 1) := by decide +kernel
theorem dX7_limit_19 : decode cX7_limit 19 = .ok (.iaload, 1) := by decide +kernel
theorem dX7_limit_20 : decode cX7_limit 20 = .ok (.i2l, 1) := by decide +kernel
theorem dX7_limit_21 : decode cX7_limit 21 = .ok (.goto 6, 3) := by decide +kernel
theorem dX7_limit_24 : decode cX7_limit 24 = .ok (.ldc2_w 150, 3) := by decide +kernel
theorem dX7_limit_27 : decode cX7_limit 27 = .ok (.lreturn, 1) := by decide +kernel
set_option maxRecDepth 20000 in
theorem ggX7_tightest_X7_arePair : GoodIn wsX7_tightest wsX7_arePair := goodIn_r _ [7, 8, 9, 6, 10] (by decide +kernel) (by decide +kernel)
set_option maxRecDepth 20000 in
theorem gX7_tightest_X7_arePair : GoodIn wsX7_tightest (va_wsS RX7 152 yX7_arePair wsX7_arePair) := goodIn_app (goodIn_of _ (by decide +kernel)) ggX7_tightest_X7_arePair
set_option maxRecDepth 20000 in
theorem ggX7_tightest_X5_isOf : GoodIn wsX7_tightest wsX5_isOf := goodIn_r _ [15, 16, 17, 38, 39, 40, 41, 42, 43, 44, 45] (by decide +kernel) (by decide +kernel)
set_option maxRecDepth 20000 in
theorem gX7_tightest_X5_isOf : GoodIn wsX7_tightest (wsV RX7 158 RX5 yX5_isOf wsX5_isOf) := goodIn_app (goodIn_of _ (by decide +kernel)) ggX7_tightest_X5_isOf
set_option maxRecDepth 20000 in
theorem ggX7_tightest_X5_weightOf : GoodIn wsX7_tightest wsX5_weightOf := goodIn_r _ [21, 22, 23, 24, 25, 6, 26, 27, 38, 39, 40, 41, 42, 43, 44, 45] (by decide +kernel) (by decide +kernel)
set_option maxRecDepth 20000 in
theorem gX7_tightest_X5_weightOf : GoodIn wsX7_tightest (wsV RX7 162 RX5 yX5_weightOf wsX5_weightOf) := goodIn_app (goodIn_of _ (by decide +kernel)) ggX7_tightest_X5_weightOf
theorem dX7_tightest_0 : decode cX7_tightest 0 = .ok (.iload_n 1, 1) := by decide +kernel
theorem dX7_tightest_1 : decode cX7_tightest 1 = .ok (.iload_n 2, 1) := by decide +kernel
theorem dX7_tightest_2 : decode cX7_tightest 2 = .ok (.invokestatic 152, 3) := by decide +kernel
theorem dX7_tightest_5 : decode cX7_tightest 5 = .ok (.ifCond .ne 5, 3) := by decide +kernel
theorem dX7_tightest_8 : decode cX7_tightest 8 = .ok (.iconst (-1), 1) := by decide +kernel
theorem dX7_tightest_9 : decode cX7_tightest 9 = .ok (.ireturn, 1) := by decide +kernel
theorem dX7_tightest_10 : decode cX7_tightest 10 = .ok (.bipush (-4), 2) := by decide +kernel
theorem dX7_tightest_12 : decode cX7_tightest 12 = .ok (.istore_n 3, 1) := by decide +kernel
theorem dX7_tightest_13 : decode cX7_tightest 13 = .ok (.ldc2_w 156, 3) := by decide +kernel
theorem dX7_tightest_16 : decode cX7_tightest 16 = .ok (.lstore 4, 2) := by decide +kernel
theorem dX7_tightest_18 : decode cX7_tightest 18 = .ok (.iconst 0, 1) := by decide +kernel
theorem dX7_tightest_19 : decode cX7_tightest 19 = .ok (.istore 6, 2) := by decide +kernel
theorem dX7_tightest_21 : decode cX7_tightest 21 = .ok (.iload 6, 2) := by decide +kernel
theorem dX7_tightest_23 : decode cX7_tightest 23 = .ok (.aload_n 0, 1) := by decide +kernel
theorem dX7_tightest_24 : decode cX7_tightest 24 = .ok (.getfield 10, 3) := by decide +kernel
theorem dX7_tightest_27 : decode cX7_tightest 27 = .ok (.getfield 108, 3) := by decide +kernel
theorem dX7_tightest_30 : decode cX7_tightest 30 = .ok (.if_icmp .ge 52, 3) := by decide +kernel
theorem dX7_tightest_33 : decode cX7_tightest 33 = .ok (.aload_n 0, 1) := by decide +kernel
theorem dX7_tightest_34 : decode cX7_tightest 34 = .ok (.getfield 10, 3) := by decide +kernel
theorem dX7_tightest_37 : decode cX7_tightest 37 = .ok (.iload 6, 2) := by decide +kernel
theorem dX7_tightest_39 : decode cX7_tightest 39 = .ok (.iload_n 1, 1) := by decide +kernel
theorem dX7_tightest_40 : decode cX7_tightest 40 = .ok (.iload_n 2, 1) := by decide +kernel
theorem dX7_tightest_41 : decode cX7_tightest 41 = .ok (.invokevirtual 158, 3) := by decide +kernel
theorem dX7_tightest_44 : decode cX7_tightest 44 = .ok (.ifCond .eq 32, 3) := by decide +kernel
theorem dX7_tightest_47 : decode cX7_tightest 47 = .ok (.aload_n 0, 1) := by decide +kernel
theorem dX7_tightest_48 : decode cX7_tightest 48 = .ok (.getfield 10, 3) := by decide +kernel
theorem dX7_tightest_51 : decode cX7_tightest 51 = .ok (.iload 6, 2) := by decide +kernel
theorem dX7_tightest_53 : decode cX7_tightest 53 = .ok (.invokevirtual 162, 3) := by decide +kernel
theorem dX7_tightest_56 : decode cX7_tightest 56 = .ok (.lload 4, 2) := by decide +kernel
theorem dX7_tightest_58 : decode cX7_tightest 58 = .ok (.lcmp, 1) := by decide +kernel
theorem dX7_tightest_59 : decode cX7_tightest 59 = .ok (.ifCond .ge 17, 3) := by decide +kernel
theorem dX7_tightest_62 : decode cX7_tightest 62 = .ok (.aload_n 0, 1) := by decide +kernel
theorem dX7_tightest_63 : decode cX7_tightest 63 = .ok (.getfield 10, 3) := by decide +kernel
theorem dX7_tightest_66 : decode cX7_tightest 66 = .ok (.iload 6, 2) := by decide +kernel
theorem dX7_tightest_68 : decode cX7_tightest 68 = .ok (.invokevirtual 162, 3) := by decide +kernel
theorem dX7_tightest_71 : decode cX7_tightest 71 = .ok (.lstore 4, 2) := by decide +kernel
theorem dX7_tightest_73 : decode cX7_tightest 73 = .ok (.iload 6, 2) := by decide +kernel
theorem dX7_tightest_75 : decode cX7_tightest 75 = .ok (.istore_n 3, 1) := by decide +kernel
theorem dX7_tightest_76 : decode cX7_tightest 76 = .ok (.iinc 6 1, 3) := by decide +kernel
theorem dX7_tightest_79 : decode cX7_tightest 79 = .ok (.goto (-58), 3) := by decide +kernel
theorem dX7_tightest_82 : decode cX7_tightest 82 = .ok (.iload_n 3, 1) := by decide +kernel
theorem dX7_tightest_83 : decode cX7_tightest 83 = .ok (.ireturn, 1) := by decide +kernel
set_option maxRecDepth 20000 in
theorem ggX7_pair_X5_isFirstOfPair : GoodIn wsX7_pair wsX5_isFirstOfPair := goodIn_r _ [9, 10, 11, 12, 13, 14, 8, 15, 26, 27, 28, 29, 30, 31, 32, 33] (by decide +kernel) (by decide +kernel)
set_option maxRecDepth 20000 in
theorem gX7_pair_X5_isFirstOfPair : GoodIn wsX7_pair (wsV RX7 166 RX5 yX5_isFirstOfPair wsX5_isFirstOfPair) := goodIn_app (goodIn_of _ (by decide +kernel)) ggX7_pair_X5_isFirstOfPair
theorem dX7_pair_0 : decode cX7_pair 0 = .ok (.iload_n 1, 1) := by decide +kernel
theorem dX7_pair_1 : decode cX7_pair 1 = .ok (.ifCond .ge 5, 3) := by decide +kernel
theorem dX7_pair_4 : decode cX7_pair 4 = .ok (.iconst (-1), 1) := by decide +kernel
theorem dX7_pair_5 : decode cX7_pair 5 = .ok (.ireturn, 1) := by decide +kernel
theorem dX7_pair_6 : decode cX7_pair 6 = .ok (.iconst 0, 1) := by decide +kernel
theorem dX7_pair_7 : decode cX7_pair 7 = .ok (.istore_n 2, 1) := by decide +kernel
theorem dX7_pair_8 : decode cX7_pair 8 = .ok (.iconst 0, 1) := by decide +kernel
theorem dX7_pair_9 : decode cX7_pair 9 = .ok (.istore_n 3, 1) := by decide +kernel
theorem dX7_pair_10 : decode cX7_pair 10 = .ok (.iload_n 3, 1) := by decide +kernel
theorem dX7_pair_11 : decode cX7_pair 11 = .ok (.aload_n 0, 1) := by decide +kernel
theorem dX7_pair_12 : decode cX7_pair 12 = .ok (.getfield 10, 3) := by decide +kernel
theorem dX7_pair_15 : decode cX7_pair 15 = .ok (.getfield 108, 3) := by decide +kernel
theorem dX7_pair_18 : decode cX7_pair 18 = .ok (.if_icmp .ge 51, 3) := by decide +kernel
theorem dX7_pair_21 : decode cX7_pair 21 = .ok (.aload_n 0, 1) := by decide +kernel
theorem dX7_pair_22 : decode cX7_pair 22 = .ok (.getfield 10, 3) := by decide +kernel
theorem dX7_pair_25 : decode cX7_pair 25 = .ok (.iload_n 3, 1) := by decide +kernel
theorem dX7_pair_26 : decode cX7_pair 26 = .ok (.invokevirtual 166, 3) := by decide +kernel
theorem dX7_pair_29 : decode cX7_pair 29 = .ok (.ifCond .eq 34, 3) := by decide +kernel
theorem dX7_pair_32 : decode cX7_pair 32 = .ok (.iload_n 2, 1) := by decide +kernel
theorem dX7_pair_33 : decode cX7_pair 33 = .ok (.iload_n 1, 1) := by decide +kernel
theorem dX7_pair_34 : decode cX7_pair 34 = .ok (.if_icmp .ne 26, 3) := by decide +kernel
theorem dX7_pair_37 : decode cX7_pair 37 = .ok (.bipush 10, 2) := by decide +kernel
theorem dX7_pair_39 : decode cX7_pair 39 = .ok (.aload_n 0, 1) := by decide +kernel
theorem dX7_pair_40 : decode cX7_pair 40 = .ok (.getfield 10, 3) := by decide +kernel
theorem dX7_pair_43 : decode cX7_pair 43 = .ok (.getfield 130, 3) := by decide +kernel
theorem dX7_pair_46 : decode cX7_pair 46 = .ok (.iload_n 3, 1) := by decide +kernel
theorem dX7_pair_47 : decode cX7_pair 47 = .ok (.iaload, 1) := by decide +kernel
theorem dX7_pair_48 : decode cX7_pair 48 = .ok (.imul, 1) := by decide +kernel
theorem dX7_pair_49 : decode cX7_pair 49 = .ok (.aload_n 0, 1) := by decide +kernel
theorem dX7_pair_50 : decode cX7_pair 50 = .ok (.getfield 10, 3) := by decide +kernel
theorem dX7_pair_53 : decode cX7_pair 53 = .ok (.getfield 134, 3) := by decide +kernel
theorem dX7_pair_56 : decode cX7_pair 56 = .ok (.iload_n 3, 1) := by decide +kernel
theorem dX7_pair_57 : decode cX7_pair 57 = .ok (.iaload, 1) := by decide +kernel
theorem dX7_pair_58 : decode cX7_pair 58 = .ok (.iadd, 1) := by decide +kernel
theorem dX7_pair_59 : decode cX7_pair 59 = .ok (.ireturn, 1) := by decide +kernel
theorem dX7_pair_60 : decode cX7_pair 60 = .ok (.iinc 2 1, 3) := by decide +kernel
theorem dX7_pair_63 : decode cX7_pair 63 = .ok (.iinc 3 1, 3) := by decide +kernel
theorem dX7_pair_66 : decode cX7_pair 66 = .ok (.goto (-56), 3) := by decide +kernel
theorem dX7_pair_69 : decode cX7_pair 69 = .ok (.bipush (-4), 2) := by decide +kernel
theorem dX7_pair_71 : decode cX7_pair 71 = .ok (.ireturn, 1) := by decide +kernel
set_option maxRecDepth 20000 in
theorem ggX7_add_X7_join : GoodIn wsX7_add wsX7_join := goodIn_r _ [5, 6, 7, 8, 9, 10, 11, 4, 12, 13, 14, 15, 16, 17, 18, 19, 20, 21, 22, 23, 24, 25, 26, 27, 28, 29, 30, 31, 32, 33, 34, 35, 36, 37, 38, 39, 40, 41, 42, 43, 44, 45, 46, 47, 48, 49, 50, 51, 52, 53, 54, 55, 56, 57, 58, 59, 60, 61, 62, 63, 64, 65, 66, 67, 68, 69, 70, 71, 72, 73, 74, 75, 76, 77, 78, 79, 80, 81, 82, 83, 84, 85, 86, 87, 88, 89, 90, 91, 92, 93, 94, 95, 96, 97, 98, 99, 100, 101, 102, 103, 104, 105, 106, 107, 108, 109, 110, 111, 112, 113, 114, 115, 116] (by decide +kernel) (by decide +kernel)
set_option maxRecDepth 20000 in
theorem gX7_add_X7_join : GoodIn wsX7_add (wsV RX7 169 RX7 yX7_join wsX7_join) := goodIn_app (goodIn_of _ (by decide +kernel)) ggX7_add_X7_join
theorem dX7_add_0 : decode cX7_add 0 = .ok (.aload_n 0, 1) := by decide +kernel
theorem dX7_add_1 : decode cX7_add 1 = .ok (.iload_n 1, 1) := by decide +kernel
theorem dX7_add_2 : decode cX7_add 2 = .ok (.iload_n 2, 1) := by decide +kernel
theorem dX7_add_3 : decode cX7_add 3 = .ok (.iload_n 3, 1) := by decide +kernel
theorem dX7_add_4 : decode cX7_add 4 = .ok (.iload 4, 2) := by decide +kernel
theorem dX7_add_6 : decode cX7_add 6 = .ok (.invokevirtual 169, 3) := by decide +kernel
theorem dX7_add_9 : decode cX7_add 9 = .ok (.ireturn, 1) := by decide +kernel
set_option maxRecDepth 20000 in
theorem ggX7_may_X7_arePair : GoodIn wsX7_may wsX7_arePair := goodIn_r _ [6, 7, 8, 5, 9] (by decide +kernel) (by decide +kernel)
set_option maxRecDepth 20000 in
theorem gX7_may_X7_arePair : GoodIn wsX7_may (va_wsS RX7 152 yX7_arePair wsX7_arePair) := goodIn_app (goodIn_of _ (by decide +kernel)) ggX7_may_X7_arePair
set_option maxRecDepth 20000 in
theorem ggX7_may_X7_isBit : GoodIn wsX7_may wsX7_isBit := goodIn_r _ [12] (by decide +kernel) (by decide +kernel)
set_option maxRecDepth 20000 in
theorem gX7_may_X7_isBit : GoodIn wsX7_may (va_wsS RX7 173 yX7_isBit wsX7_isBit) := goodIn_app (goodIn_of _ (by decide +kernel)) ggX7_may_X7_isBit
set_option maxRecDepth 20000 in
theorem ggX7_may_X7_weigh : GoodIn wsX7_may wsX7_weigh := goodIn_r _ [15, 16] (by decide +kernel) (by decide +kernel)
set_option maxRecDepth 20000 in
theorem gX7_may_X7_weigh : GoodIn wsX7_may (va_wsS RX7 176 yX7_weigh wsX7_weigh) := goodIn_app (goodIn_of _ (by decide +kernel)) ggX7_may_X7_weigh
set_option maxRecDepth 20000 in
theorem ggX7_may_X7_fits : GoodIn wsX7_may wsX7_fits := goodIn_r _ [20, 21, 1, 22, 23, 24, 25, 26, 27, 28, 29, 30, 31, 32, 33, 34, 35, 36, 37, 38, 39, 40, 41, 42, 43, 14, 5, 15, 16, 44, 45, 46, 47, 48, 49, 50, 51, 52, 53, 62, 63, 54, 55, 56, 57, 58, 59, 60, 61] (by decide +kernel) (by decide +kernel)
set_option maxRecDepth 20000 in
theorem gX7_may_X7_fits : GoodIn wsX7_may (wsV RX7 180 RX7 yX7_fits wsX7_fits) := goodIn_app (goodIn_of _ (by decide +kernel)) ggX7_may_X7_fits
theorem dX7_may_0 : decode cX7_may 0 = .ok (.iload_n 1, 1) := by decide +kernel
theorem dX7_may_1 : decode cX7_may 1 = .ok (.iload_n 2, 1) := by decide +kernel
theorem dX7_may_2 : decode cX7_may 2 = .ok (.invokestatic 152, 3) := by decide +kernel
theorem dX7_may_5 : decode cX7_may 5 = .ok (.ifCond .eq 11, 3) := by decide +kernel
theorem dX7_may_8 : decode cX7_may 8 = .ok (.iload 4, 2) := by decide +kernel
theorem dX7_may_10 : decode cX7_may 10 = .ok (.invokestatic 173, 3) := by decide +kernel
theorem dX7_may_13 : decode cX7_may 13 = .ok (.ifCond .ne 5, 3) := by decide +kernel
theorem dX7_may_16 : decode cX7_may 16 = .ok (.iconst (-1), 1) := by decide +kernel
theorem dX7_may_17 : decode cX7_may 17 = .ok (.ireturn, 1) := by decide +kernel
theorem dX7_may_18 : decode cX7_may 18 = .ok (.aload_n 0, 1) := by decide +kernel
theorem dX7_may_19 : decode cX7_may 19 = .ok (.iload_n 1, 1) := by decide +kernel
theorem dX7_may_20 : decode cX7_may 20 = .ok (.iload_n 2, 1) := by decide +kernel
theorem dX7_may_21 : decode cX7_may 21 = .ok (.iload_n 3, 1) := by decide +kernel
theorem dX7_may_22 : decode cX7_may 22 = .ok (.iload 4, 2) := by decide +kernel
theorem dX7_may_24 : decode cX7_may 24 = .ok (.aload_n 0, 1) := by decide +kernel
theorem dX7_may_25 : decode cX7_may 25 = .ok (.getfield 10, 3) := by decide +kernel
theorem dX7_may_28 : decode cX7_may 28 = .ok (.getfield 86, 3) := by decide +kernel
theorem dX7_may_31 : decode cX7_may 31 = .ok (.invokestatic 176, 3) := by decide +kernel
theorem dX7_may_34 : decode cX7_may 34 = .ok (.iconst (-1), 1) := by decide +kernel
theorem dX7_may_35 : decode cX7_may 35 = .ok (.invokevirtual 180, 3) := by decide +kernel
theorem dX7_may_38 : decode cX7_may 38 = .ok (.ifCond .eq 7, 3) := by decide +kernel
theorem dX7_may_41 : decode cX7_may 41 = .ok (.iconst 1, 1) := by decide +kernel
theorem dX7_may_42 : decode cX7_may 42 = .ok (.goto 4, 3) := by decide +kernel
theorem dX7_may_45 : decode cX7_may 45 = .ok (.iconst 0, 1) := by decide +kernel
theorem dX7_may_46 : decode cX7_may 46 = .ok (.ireturn, 1) := by decide +kernel
theorem dX7_conflict_0 : decode cX7_conflict 0 = .ok (.iload_n 1, 1) := by decide +kernel
theorem dX7_conflict_1 : decode cX7_conflict 1 = .ok (.ifCond .ge 5, 3) := by decide +kernel
theorem dX7_conflict_4 : decode cX7_conflict 4 = .ok (.iconst (-1), 1) := by decide +kernel
theorem dX7_conflict_5 : decode cX7_conflict 5 = .ok (.ireturn, 1) := by decide +kernel
theorem dX7_conflict_6 : decode cX7_conflict 6 = .ok (.iload_n 1, 1) := by decide +kernel
theorem dX7_conflict_7 : decode cX7_conflict 7 = .ok (.aload_n 0, 1) := by decide +kernel
theorem dX7_conflict_8 : decode cX7_conflict 8 = .ok (.getfield 41, 3) := by decide +kernel
theorem dX7_conflict_11 : decode cX7_conflict 11 = .ok (.getfield 104, 3) := by decide +kernel
theorem dX7_conflict_14 : decode cX7_conflict 14 = .ok (.if_icmp .ge 15, 3) := by decide +kernel
theorem dX7_conflict_17 : decode cX7_conflict 17 = .ok (.aload_n 0, 1) := by decide +kernel
theorem dX7_conflict_18 : decode cX7_conflict 18 = .ok (.getfield 41, 3) := by decide +kernel
theorem dX7_conflict_21 : decode cX7_conflict 21 = .ok (.getfield 184, 3) := by decide +kernel
theorem dX7_conflict_24 : decode cX7_conflict 24 = .ok (.iload_n 1, 1) := by decide +kernel
theorem dX7_conflict_25 : decode cX7_conflict 25 = .ok (.iaload, 1) := by decide +kernel
theorem dX7_conflict_26 : decode cX7_conflict 26 = .ok (.goto 5, 3) := by decide +kernel
theorem dX7_conflict_29 : decode cX7_conflict 29 = .ok (.bipush (-4), 2) := by decide +kernel
theorem dX7_conflict_31 : decode cX7_conflict 31 = .ok (.ireturn, 1) := by decide +kernel
set_option maxRecDepth 20000 in
theorem ggX7_drop_X5_has : GoodIn wsX7_drop wsX5_has := goodIn_r _ [7, 8, 29, 30, 31, 32, 33, 34, 35, 36] (by decide +kernel) (by decide +kernel)
set_option maxRecDepth 20000 in
theorem gX7_drop_X5_has : GoodIn wsX7_drop (wsV RX7 126 RX5 yX5_has wsX5_has) := goodIn_app (goodIn_of _ (by decide +kernel)) ggX7_drop_X5_has
set_option maxRecDepth 20000 in
theorem ggX7_drop_X5_remove : GoodIn wsX7_drop wsX5_remove := goodIn_r _ [12, 8, 13, 14, 15, 16, 17, 18, 29, 30, 31, 32, 33, 34, 35, 36] (by decide +kernel) (by decide +kernel)
set_option maxRecDepth 20000 in
theorem gX7_drop_X5_remove : GoodIn wsX7_drop (wsV RX7 187 RX5 yX5_remove wsX5_remove) := goodIn_app (goodIn_of _ (by decide +kernel)) ggX7_drop_X5_remove
theorem dX7_drop_0 : decode cX7_drop 0 = .ok (.aload_n 0, 1) := by decide +kernel
theorem dX7_drop_1 : decode cX7_drop 1 = .ok (.getfield 10, 3) := by decide +kernel
theorem dX7_drop_4 : decode cX7_drop 4 = .ok (.iload_n 1, 1) := by decide +kernel
theorem dX7_drop_5 : decode cX7_drop 5 = .ok (.invokevirtual 126, 3) := by decide +kernel
theorem dX7_drop_8 : decode cX7_drop 8 = .ok (.ifCond .ne 5, 3) := by decide +kernel
theorem dX7_drop_11 : decode cX7_drop 11 = .ok (.iconst (-1), 1) := by decide +kernel
theorem dX7_drop_12 : decode cX7_drop 12 = .ok (.ireturn, 1) := by decide +kernel
theorem dX7_drop_13 : decode cX7_drop 13 = .ok (.aload_n 0, 1) := by decide +kernel
theorem dX7_drop_14 : decode cX7_drop 14 = .ok (.getfield 10, 3) := by decide +kernel
theorem dX7_drop_17 : decode cX7_drop 17 = .ok (.iload_n 1, 1) := by decide +kernel
theorem dX7_drop_18 : decode cX7_drop 18 = .ok (.invokevirtual 187, 3) := by decide +kernel
theorem dX7_drop_21 : decode cX7_drop 21 = .ok (.aload_n 0, 1) := by decide +kernel
theorem dX7_drop_22 : decode cX7_drop 22 = .ok (.getfield 10, 3) := by decide +kernel
theorem dX7_drop_25 : decode cX7_drop 25 = .ok (.getfield 108, 3) := by decide +kernel
theorem dX7_drop_28 : decode cX7_drop 28 = .ok (.ireturn, 1) := by decide +kernel
set_option maxRecDepth 20000 in
theorem ggX7_change_X5_has : GoodIn wsX7_change wsX5_has := goodIn_r _ [12, 13, 92, 93, 94, 95, 96, 97, 98, 99] (by decide +kernel) (by decide +kernel)
set_option maxRecDepth 20000 in
theorem gX7_change_X5_has : GoodIn wsX7_change (wsV RX7 126 RX5 yX5_has wsX5_has) := goodIn_app (goodIn_of _ (by decide +kernel)) ggX7_change_X5_has
set_option maxRecDepth 20000 in
theorem ggX7_change_X7_weigh : GoodIn wsX7_change wsX7_weigh := goodIn_r _ [17, 18] (by decide +kernel) (by decide +kernel)
set_option maxRecDepth 20000 in
theorem gX7_change_X7_weigh : GoodIn wsX7_change (va_wsS RX7 176 yX7_weigh wsX7_weigh) := goodIn_app (goodIn_of _ (by decide +kernel)) ggX7_change_X7_weigh
set_option maxRecDepth 20000 in
theorem ggX7_change_X7_fits : GoodIn wsX7_change wsX7_fits := goodIn_r _ [22, 23, 1, 24, 25, 26, 27, 28, 29, 30, 31, 32, 33, 34, 35, 36, 37, 38, 39, 40, 41, 42, 43, 44, 45, 15, 16, 17, 18, 82, 83, 84, 85, 86, 87, 88, 89, 90, 91, 100, 101, 92, 93, 94, 95, 96, 97, 98, 99] (by decide +kernel) (by decide +kernel)
set_option maxRecDepth 20000 in
theorem gX7_change_X7_fits : GoodIn wsX7_change (wsV RX7 180 RX7 yX7_fits wsX7_fits) := goodIn_app (goodIn_of _ (by decide +kernel)) ggX7_change_X7_fits
set_option maxRecDepth 20000 in
theorem ggX7_change_X0_find : GoodIn wsX7_change wsX0_find := goodIn_r _ [50, 51, 52, 53, 54, 34, 35, 36, 55, 56, 57, 49, 58, 59, 60, 61, 62, 63, 64, 65, 66, 67, 68, 11, 69, 70, 71, 72, 15, 16, 17, 18, 73, 74, 75, 76, 77, 78, 79, 80, 81, 102, 103, 104, 92, 93, 94, 95, 96, 97, 98, 99] (by decide +kernel) (by decide +kernel)
set_option maxRecDepth 20000 in
theorem gX7_change_X0_find : GoodIn wsX7_change (wsV RX7 191 RX0 yX0_find wsX0_find) := goodIn_app (goodIn_of _ (by decide +kernel)) ggX7_change_X0_find
theorem dX7_change_0 : decode cX7_change 0 = .ok (.aload_n 0, 1) := by decide +kernel
theorem dX7_change_1 : decode cX7_change 1 = .ok (.getfield 10, 3) := by decide +kernel
theorem dX7_change_4 : decode cX7_change 4 = .ok (.iload_n 1, 1) := by decide +kernel
theorem dX7_change_5 : decode cX7_change 5 = .ok (.invokevirtual 126, 3) := by decide +kernel
theorem dX7_change_8 : decode cX7_change 8 = .ok (.ifCond .ne 5, 3) := by decide +kernel
theorem dX7_change_11 : decode cX7_change 11 = .ok (.iconst (-1), 1) := by decide +kernel
theorem dX7_change_12 : decode cX7_change 12 = .ok (.ireturn, 1) := by decide +kernel
theorem dX7_change_13 : decode cX7_change 13 = .ok (.aload_n 0, 1) := by decide +kernel
theorem dX7_change_14 : decode cX7_change 14 = .ok (.getfield 10, 3) := by decide +kernel
theorem dX7_change_17 : decode cX7_change 17 = .ok (.getfield 130, 3) := by decide +kernel
theorem dX7_change_20 : decode cX7_change 20 = .ok (.iload_n 1, 1) := by decide +kernel
theorem dX7_change_21 : decode cX7_change 21 = .ok (.iaload, 1) := by decide +kernel
theorem dX7_change_22 : decode cX7_change 22 = .ok (.istore_n 3, 1) := by decide +kernel
theorem dX7_change_23 : decode cX7_change 23 = .ok (.aload_n 0, 1) := by decide +kernel
theorem dX7_change_24 : decode cX7_change 24 = .ok (.getfield 10, 3) := by decide +kernel
theorem dX7_change_27 : decode cX7_change 27 = .ok (.getfield 134, 3) := by decide +kernel
theorem dX7_change_30 : decode cX7_change 30 = .ok (.iload_n 1, 1) := by decide +kernel
theorem dX7_change_31 : decode cX7_change 31 = .ok (.iaload, 1) := by decide +kernel
theorem dX7_change_32 : decode cX7_change 32 = .ok (.istore 4, 2) := by decide +kernel
theorem dX7_change_34 : decode cX7_change 34 = .ok (.iload_n 2, 1) := by decide +kernel
theorem dX7_change_35 : decode cX7_change 35 = .ok (.aload_n 0, 1) := by decide +kernel
theorem dX7_change_36 : decode cX7_change 36 = .ok (.getfield 10, 3) := by decide +kernel
theorem dX7_change_39 : decode cX7_change 39 = .ok (.getfield 137, 3) := by decide +kernel
theorem dX7_change_42 : decode cX7_change 42 = .ok (.iload_n 1, 1) := by decide +kernel
theorem dX7_change_43 : decode cX7_change 43 = .ok (.iaload, 1) := by decide +kernel
theorem dX7_change_44 : decode cX7_change 44 = .ok (.aload_n 0, 1) := by decide +kernel
theorem dX7_change_45 : decode cX7_change 45 = .ok (.getfield 10, 3) := by decide +kernel
theorem dX7_change_48 : decode cX7_change 48 = .ok (.getfield 86, 3) := by decide +kernel
theorem dX7_change_51 : decode cX7_change 51 = .ok (.invokestatic 176, 3) := by decide +kernel
theorem dX7_change_54 : decode cX7_change 54 = .ok (.lstore 5, 2) := by decide +kernel
theorem dX7_change_56 : decode cX7_change 56 = .ok (.aload_n 0, 1) := by decide +kernel
theorem dX7_change_57 : decode cX7_change 57 = .ok (.iload_n 3, 1) := by decide +kernel
theorem dX7_change_58 : decode cX7_change 58 = .ok (.iload 4, 2) := by decide +kernel
theorem dX7_change_60 : decode cX7_change 60 = .ok (.lload 5, 2) := by decide +kernel
theorem dX7_change_62 : decode cX7_change 62 = .ok (.iload_n 1, 1) := by decide +kernel
theorem dX7_change_63 : decode cX7_change 63 = .ok (.invokevirtual 180, 3) := by decide +kernel
theorem dX7_change_66 : decode cX7_change 66 = .ok (.ifCond .ne 23, 3) := by decide +kernel
theorem dX7_change_69 : decode cX7_change 69 = .ok (.aload_n 0, 1) := by decide +kernel
theorem dX7_change_70 : decode cX7_change 70 = .ok (.getfield 41, 3) := by decide +kernel
theorem dX7_change_73 : decode cX7_change 73 = .ok (.aload_n 0, 1) := by decide +kernel
theorem dX7_change_74 : decode cX7_change 74 = .ok (.getfield 10, 3) := by decide +kernel
theorem dX7_change_77 : decode cX7_change 77 = .ok (.iload_n 3, 1) := by decide +kernel
theorem dX7_change_78 : decode cX7_change 78 = .ok (.iload 4, 2) := by decide +kernel
theorem dX7_change_80 : decode cX7_change 80 = .ok (.lload 5, 2) := by decide +kernel
theorem dX7_change_82 : decode cX7_change 82 = .ok (.iload_n 1, 1) := by decide +kernel
theorem dX7_change_83 : decode cX7_change 83 = .ok (.invokevirtual 191, 3) := by decide +kernel
theorem dX7_change_86 : decode cX7_change 86 = .ok (.bipush (-2), 2) := by decide +kernel
theorem dX7_change_88 : decode cX7_change 88 = .ok (.ireturn, 1) := by decide +kernel
theorem dX7_change_89 : decode cX7_change 89 = .ok (.aload_n 0, 1) := by decide +kernel
theorem dX7_change_90 : decode cX7_change 90 = .ok (.getfield 10, 3) := by decide +kernel
theorem dX7_change_93 : decode cX7_change 93 = .ok (.getfield 147, 3) := by decide +kernel
theorem dX7_change_96 : decode cX7_change 96 = .ok (.iload_n 1, 1) := by decide +kernel
theorem dX7_change_97 : decode cX7_change 97 = .ok (.iload_n 2, 1) := by decide +kernel
theorem dX7_change_98 : decode cX7_change 98 = .ok (.iastore, 1) := by decide +kernel
theorem dX7_change_99 : decode cX7_change 99 = .ok (.iconst 1, 1) := by decide +kernel
theorem dX7_change_100 : decode cX7_change 100 = .ok (.ireturn, 1) := by decide +kernel
set_option maxRecDepth 20000 in
theorem ggX7_shift_X7_isThing : GoodIn wsX7_shift wsX7_isThing := goodIn_r _ [9] (by decide +kernel) (by decide +kernel)
set_option maxRecDepth 20000 in
theorem gX7_shift_X7_isThing : GoodIn wsX7_shift (va_wsS RX7 195 yX7_isThing wsX7_isThing) := goodIn_app (goodIn_of _ (by decide +kernel)) ggX7_shift_X7_isThing
set_option maxRecDepth 20000 in
theorem ggX7_shift_X5_shiftedLimit : GoodIn wsX7_shift wsX5_shiftedLimit := goodIn_r _ [14, 15, 16, 17, 31, 32, 33, 34, 35, 36, 37, 38] (by decide +kernel) (by decide +kernel)
set_option maxRecDepth 20000 in
theorem gX7_shift_X5_shiftedLimit : GoodIn wsX7_shift (wsV RX7 198 RX5 yX5_shiftedLimit wsX5_shiftedLimit) := goodIn_app (goodIn_of _ (by decide +kernel)) ggX7_shift_X5_shiftedLimit
set_option maxRecDepth 20000 in
theorem ggX7_shift_X7_is32Bits : GoodIn wsX7_shift wsX7_is32Bits := goodIn_r _ [20] (by decide +kernel) (by decide +kernel)
set_option maxRecDepth 20000 in
theorem gX7_shift_X7_is32Bits : GoodIn wsX7_shift (va_wsS RX7 201 yX7_is32Bits wsX7_is32Bits) := goodIn_app (goodIn_of _ (by decide +kernel)) ggX7_shift_X7_is32Bits
theorem dX7_shift_0 : decode cX7_shift 0 = .ok (.iload_n 1, 1) := by decide +kernel
theorem dX7_shift_1 : decode cX7_shift 1 = .ok (.invokestatic 195, 3) := by decide +kernel
theorem dX7_shift_4 : decode cX7_shift 4 = .ok (.ifCond .ne 5, 3) := by decide +kernel
theorem dX7_shift_7 : decode cX7_shift 7 = .ok (.iconst (-1), 1) := by decide +kernel
theorem dX7_shift_8 : decode cX7_shift 8 = .ok (.ireturn, 1) := by decide +kernel
theorem dX7_shift_9 : decode cX7_shift 9 = .ok (.iconst 0, 1) := by decide +kernel
theorem dX7_shift_10 : decode cX7_shift 10 = .ok (.istore_n 3, 1) := by decide +kernel
theorem dX7_shift_11 : decode cX7_shift 11 = .ok (.iload_n 3, 1) := by decide +kernel
theorem dX7_shift_12 : decode cX7_shift 12 = .ok (.aload_n 0, 1) := by decide +kernel
theorem dX7_shift_13 : decode cX7_shift 13 = .ok (.getfield 10, 3) := by decide +kernel
theorem dX7_shift_16 : decode cX7_shift 16 = .ok (.getfield 108, 3) := by decide +kernel
theorem dX7_shift_19 : decode cX7_shift 19 = .ok (.if_icmp .ge 28, 3) := by decide +kernel
theorem dX7_shift_22 : decode cX7_shift 22 = .ok (.aload_n 0, 1) := by decide +kernel
theorem dX7_shift_23 : decode cX7_shift 23 = .ok (.getfield 10, 3) := by decide +kernel
theorem dX7_shift_26 : decode cX7_shift 26 = .ok (.iload_n 3, 1) := by decide +kernel
theorem dX7_shift_27 : decode cX7_shift 27 = .ok (.iload_n 1, 1) := by decide +kernel
theorem dX7_shift_28 : decode cX7_shift 28 = .ok (.iload_n 2, 1) := by decide +kernel
theorem dX7_shift_29 : decode cX7_shift 29 = .ok (.invokevirtual 198, 3) := by decide +kernel
theorem dX7_shift_32 : decode cX7_shift 32 = .ok (.invokestatic 201, 3) := by decide +kernel
theorem dX7_shift_35 : decode cX7_shift 35 = .ok (.ifCond .ne 6, 3) := by decide +kernel
theorem dX7_shift_38 : decode cX7_shift 38 = .ok (.bipush (-5), 2) := by decide +kernel
theorem dX7_shift_40 : decode cX7_shift 40 = .ok (.ireturn, 1) := by decide +kernel
theorem dX7_shift_41 : decode cX7_shift 41 = .ok (.iinc 3 1, 3) := by decide +kernel
theorem dX7_shift_44 : decode cX7_shift 44 = .ok (.goto (-33), 3) := by decide +kernel
theorem dX7_shift_47 : decode cX7_shift 47 = .ok (.iconst 0, 1) := by decide +kernel
theorem dX7_shift_48 : decode cX7_shift 48 = .ok (.istore_n 3, 1) := by decide +kernel
theorem dX7_shift_49 : decode cX7_shift 49 = .ok (.iconst 0, 1) := by decide +kernel
theorem dX7_shift_50 : decode cX7_shift 50 = .ok (.istore 4, 2) := by decide +kernel
theorem dX7_shift_52 : decode cX7_shift 52 = .ok (.iload 4, 2) := by decide +kernel
theorem dX7_shift_54 : decode cX7_shift 54 = .ok (.aload_n 0, 1) := by decide +kernel
theorem dX7_shift_55 : decode cX7_shift 55 = .ok (.getfield 10, 3) := by decide +kernel
theorem dX7_shift_58 : decode cX7_shift 58 = .ok (.getfield 108, 3) := by decide +kernel
theorem dX7_shift_61 : decode cX7_shift 61 = .ok (.if_icmp .ge 62, 3) := by decide +kernel
theorem dX7_shift_64 : decode cX7_shift 64 = .ok (.aload_n 0, 1) := by decide +kernel
theorem dX7_shift_65 : decode cX7_shift 65 = .ok (.getfield 10, 3) := by decide +kernel
theorem dX7_shift_68 : decode cX7_shift 68 = .ok (.getfield 130, 3) := by decide +kernel
theorem dX7_shift_71 : decode cX7_shift 71 = .ok (.iload 4, 2) := by decide +kernel
theorem dX7_shift_73 : decode cX7_shift 73 = .ok (.iaload, 1) := by decide +kernel
theorem dX7_shift_74 : decode cX7_shift 74 = .ok (.iload_n 1, 1) := by decide +kernel
theorem dX7_shift_75 : decode cX7_shift 75 = .ok (.if_icmp .eq 17, 3) := by decide +kernel
theorem dX7_shift_78 : decode cX7_shift 78 = .ok (.aload_n 0, 1) := by decide +kernel
theorem dX7_shift_79 : decode cX7_shift 79 = .ok (.getfield 10, 3) := by decide +kernel
theorem dX7_shift_82 : decode cX7_shift 82 = .ok (.getfield 134, 3) := by decide +kernel
theorem dX7_shift_85 : decode cX7_shift 85 = .ok (.iload 4, 2) := by decide +kernel
theorem dX7_shift_87 : decode cX7_shift 87 = .ok (.iaload, 1) := by decide +kernel
theorem dX7_shift_88 : decode cX7_shift 88 = .ok (.iload_n 1, 1) := by decide +kernel
theorem dX7_shift_89 : decode cX7_shift 89 = .ok (.if_icmp .ne 28, 3) := by decide +kernel
theorem dX7_shift_92 : decode cX7_shift 92 = .ok (.aload_n 0, 1) := by decide +kernel
theorem dX7_shift_93 : decode cX7_shift 93 = .ok (.getfield 10, 3) := by decide +kernel
theorem dX7_shift_96 : decode cX7_shift 96 = .ok (.getfield 147, 3) := by decide +kernel
theorem dX7_shift_99 : decode cX7_shift 99 = .ok (.iload 4, 2) := by decide +kernel
theorem dX7_shift_101 : decode cX7_shift 101 = .ok (.aload_n 0, 1) := by decide +kernel
theorem dX7_shift_102 : decode cX7_shift 102 = .ok (.getfield 10, 3) := by decide +kernel
theorem dX7_shift_105 : decode cX7_shift 105 = .ok (.iload 4, 2) := by decide +kernel
theorem dX7_shift_107 : decode cX7_shift 107 = .ok (.iload_n 1, 1) := by decide +kernel
theorem dX7_shift_108 : decode cX7_shift 108 = .ok (.iload_n 2, 1) := by decide +kernel
theorem dX7_shift_109 : decode cX7_shift 109 = .ok (.invokevirtual 198, 3) := by decide +kernel
theorem dX7_shift_112 : decode cX7_shift 112 = .ok (.l2i, 1) := by decide +kernel
theorem dX7_shift_113 : decode cX7_shift 113 = .ok (.iastore, 1) := by decide +kernel
theorem dX7_shift_114 : decode cX7_shift 114 = .ok (.iinc 3 1, 3) := by decide +kernel
theorem dX7_shift_117 : decode cX7_shift 117 = .ok (.iinc 4 1, 3) := by decide +kernel
theorem dX7_shift_120 : decode cX7_shift 120 = .ok (.goto (-68), 3) := by decide +kernel
theorem dX7_shift_123 : decode cX7_shift 123 = .ok (.iload_n 3, 1) := by decide +kernel
theorem dX7_shift_124 : decode cX7_shift 124 = .ok (.ireturn, 1) := by decide +kernel
set_option maxRecDepth 20000 in
theorem ggX7_whole_X7_isBit : GoodIn wsX7_whole wsX7_isBit := goodIn_r _ [7] (by decide +kernel) (by decide +kernel)
set_option maxRecDepth 20000 in
theorem gX7_whole_X7_isBit : GoodIn wsX7_whole (va_wsS RX7 173 yX7_isBit wsX7_isBit) := goodIn_app (goodIn_of _ (by decide +kernel)) ggX7_whole_X7_isBit
set_option maxRecDepth 20000 in
theorem ggX7_whole_X2_canHold : GoodIn wsX7_whole wsX2_canHold := goodIn_r _ [12, 13, 14, 15, 16, 17, 18, 19, 20, 11, 21, 22, 23, 24, 25, 26, 27, 28, 6, 29, 30, 49, 50, 41, 42, 43, 44, 45, 46, 47, 48] (by decide +kernel) (by decide +kernel)
set_option maxRecDepth 20000 in
theorem gX7_whole_X2_canHold : GoodIn wsX7_whole (wsV RX7 89 RX2 yX2_canHold wsX2_canHold) := goodIn_app (goodIn_of _ (by decide +kernel)) ggX7_whole_X2_canHold
theorem dX7_whole_0 : decode cX7_whole 0 = .ok (.iload_n 1, 1) := by decide +kernel
theorem dX7_whole_1 : decode cX7_whole 1 = .ok (.invokestatic 173, 3) := by decide +kernel
theorem dX7_whole_4 : decode cX7_whole 4 = .ok (.ifCond .ne 5, 3) := by decide +kernel
theorem dX7_whole_7 : decode cX7_whole 7 = .ok (.iconst (-1), 1) := by decide +kernel
theorem dX7_whole_8 : decode cX7_whole 8 = .ok (.ireturn, 1) := by decide +kernel
theorem dX7_whole_9 : decode cX7_whole 9 = .ok (.aload_n 0, 1) := by decide +kernel
theorem dX7_whole_10 : decode cX7_whole 10 = .ok (.getfield 34, 3) := by decide +kernel
theorem dX7_whole_13 : decode cX7_whole 13 = .ok (.aload_n 0, 1) := by decide +kernel
theorem dX7_whole_14 : decode cX7_whole 14 = .ok (.getfield 10, 3) := by decide +kernel
theorem dX7_whole_17 : decode cX7_whole 17 = .ok (.iload_n 1, 1) := by decide +kernel
theorem dX7_whole_18 : decode cX7_whole 18 = .ok (.invokevirtual 89, 3) := by decide +kernel
theorem dX7_whole_21 : decode cX7_whole 21 = .ok (.ifCond .ne 6, 3) := by decide +kernel
theorem dX7_whole_24 : decode cX7_whole 24 = .ok (.bipush (-2), 2) := by decide +kernel
theorem dX7_whole_26 : decode cX7_whole 26 = .ok (.ireturn, 1) := by decide +kernel
theorem dX7_whole_27 : decode cX7_whole 27 = .ok (.aload_n 0, 1) := by decide +kernel
theorem dX7_whole_28 : decode cX7_whole 28 = .ok (.getfield 10, 3) := by decide +kernel
theorem dX7_whole_31 : decode cX7_whole 31 = .ok (.getfield 86, 3) := by decide +kernel
theorem dX7_whole_34 : decode cX7_whole 34 = .ok (.istore_n 2, 1) := by decide +kernel
theorem dX7_whole_35 : decode cX7_whole 35 = .ok (.aload_n 0, 1) := by decide +kernel
theorem dX7_whole_36 : decode cX7_whole 36 = .ok (.getfield 10, 3) := by decide +kernel
theorem dX7_whole_39 : decode cX7_whole 39 = .ok (.iload_n 1, 1) := by decide +kernel
theorem dX7_whole_40 : decode cX7_whole 40 = .ok (.putfield 86, 3) := by decide +kernel
theorem dX7_whole_43 : decode cX7_whole 43 = .ok (.iload_n 2, 1) := by decide +kernel
theorem dX7_whole_44 : decode cX7_whole 44 = .ok (.ireturn, 1) := by decide +kernel
theorem dX7_push_0 : decode cX7_push 0 = .ok (.aload_n 0, 1) := by decide +kernel
theorem dX7_push_1 : decode cX7_push 1 = .ok (.getfield 10, 3) := by decide +kernel
theorem dX7_push_4 : decode cX7_push 4 = .ok (.getfield 109, 3) := by decide +kernel
theorem dX7_push_7 : decode cX7_push 7 = .ok (.bipush 8, 2) := by decide +kernel
theorem dX7_push_9 : decode cX7_push 9 = .ok (.if_icmp .lt 6, 3) := by decide +kernel
theorem dX7_push_12 : decode cX7_push 12 = .ok (.bipush (-3), 2) := by decide +kernel
theorem dX7_push_14 : decode cX7_push 14 = .ok (.ireturn, 1) := by decide +kernel
theorem dX7_push_15 : decode cX7_push 15 = .ok (.aload_n 0, 1) := by decide +kernel
theorem dX7_push_16 : decode cX7_push 16 = .ok (.getfield 10, 3) := by decide +kernel
theorem dX7_push_19 : decode cX7_push 19 = .ok (.getfield 205, 3) := by decide +kernel
theorem dX7_push_22 : decode cX7_push 22 = .ok (.aload_n 0, 1) := by decide +kernel
theorem dX7_push_23 : decode cX7_push 23 = .ok (.getfield 10, 3) := by decide +kernel
theorem dX7_push_26 : decode cX7_push 26 = .ok (.getfield 109, 3) := by decide +kernel
theorem dX7_push_29 : decode cX7_push 29 = .ok (.aload_n 0, 1) := by decide +kernel
theorem dX7_push_30 : decode cX7_push 30 = .ok (.getfield 10, 3) := by decide +kernel
theorem dX7_push_33 : decode cX7_push 33 = .ok (.getfield 108, 3) := by decide +kernel
theorem dX7_push_36 : decode cX7_push 36 = .ok (.iastore, 1) := by decide +kernel
theorem dX7_push_37 : decode cX7_push 37 = .ok (.aload_n 0, 1) := by decide +kernel
theorem dX7_push_38 : decode cX7_push 38 = .ok (.getfield 10, 3) := by decide +kernel
theorem dX7_push_41 : decode cX7_push 41 = .ok (.dup, 1) := by decide +kernel
theorem dX7_push_42 : decode cX7_push 42 = .ok (.getfield 109, 3) := by decide +kernel
theorem dX7_push_45 : decode cX7_push 45 = .ok (.iconst 1, 1) := by decide +kernel
theorem dX7_push_46 : decode cX7_push 46 = .ok (.iadd, 1) := by decide +kernel
theorem dX7_push_47 : decode cX7_push 47 = .ok (.putfield 109, 3) := by decide +kernel
theorem dX7_push_50 : decode cX7_push 50 = .ok (.aload_n 0, 1) := by decide +kernel
theorem dX7_push_51 : decode cX7_push 51 = .ok (.getfield 10, 3) := by decide +kernel
theorem dX7_push_54 : decode cX7_push 54 = .ok (.getfield 109, 3) := by decide +kernel
theorem dX7_push_57 : decode cX7_push 57 = .ok (.ireturn, 1) := by decide +kernel
set_option maxRecDepth 20000 in
theorem ggX7_pop_X5_hasMark : GoodIn wsX7_pop wsX5_hasMark := goodIn_r _ [9, 10, 21, 22, 23, 24, 25, 26, 27, 28] (by decide +kernel) (by decide +kernel)
set_option maxRecDepth 20000 in
theorem gX7_pop_X5_hasMark : GoodIn wsX7_pop (wsV RX7 208 RX5 yX5_hasMark wsX5_hasMark) := goodIn_app (goodIn_of _ (by decide +kernel)) ggX7_pop_X5_hasMark
theorem dX7_pop_0 : decode cX7_pop 0 = .ok (.aload_n 0, 1) := by decide +kernel
theorem dX7_pop_1 : decode cX7_pop 1 = .ok (.getfield 10, 3) := by decide +kernel
theorem dX7_pop_4 : decode cX7_pop 4 = .ok (.iload_n 1, 1) := by decide +kernel
theorem dX7_pop_5 : decode cX7_pop 5 = .ok (.invokevirtual 208, 3) := by decide +kernel
theorem dX7_pop_8 : decode cX7_pop 8 = .ok (.ifCond .ne 5, 3) := by decide +kernel
theorem dX7_pop_11 : decode cX7_pop 11 = .ok (.iconst (-1), 1) := by decide +kernel
theorem dX7_pop_12 : decode cX7_pop 12 = .ok (.ireturn, 1) := by decide +kernel
theorem dX7_pop_13 : decode cX7_pop 13 = .ok (.aload_n 0, 1) := by decide +kernel
theorem dX7_pop_14 : decode cX7_pop 14 = .ok (.getfield 10, 3) := by decide +kernel
theorem dX7_pop_17 : decode cX7_pop 17 = .ok (.getfield 108, 3) := by decide +kernel
theorem dX7_pop_20 : decode cX7_pop 20 = .ok (.istore_n 2, 1) := by decide +kernel
theorem dX7_pop_21 : decode cX7_pop 21 = .ok (.aload_n 0, 1) := by decide +kernel
theorem dX7_pop_22 : decode cX7_pop 22 = .ok (.getfield 10, 3) := by decide +kernel
theorem dX7_pop_25 : decode cX7_pop 25 = .ok (.aload_n 0, 1) := by decide +kernel
theorem dX7_pop_26 : decode cX7_pop 26 = .ok (.getfield 10, 3) := by decide +kernel
theorem dX7_pop_29 : decode cX7_pop 29 = .ok (.getfield 205, 3) := by decide +kernel
theorem dX7_pop_32 : decode cX7_pop 32 = .ok (.iload_n 1, 1) := by decide +kernel
theorem dX7_pop_33 : decode cX7_pop 33 = .ok (.iaload, 1) := by decide +kernel
theorem dX7_pop_34 : decode cX7_pop 34 = .ok (.putfield 108, 3) := by decide +kernel
theorem dX7_pop_37 : decode cX7_pop 37 = .ok (.aload_n 0, 1) := by decide +kernel
theorem dX7_pop_38 : decode cX7_pop 38 = .ok (.getfield 10, 3) := by decide +kernel
theorem dX7_pop_41 : decode cX7_pop 41 = .ok (.iload_n 1, 1) := by decide +kernel
theorem dX7_pop_42 : decode cX7_pop 42 = .ok (.putfield 109, 3) := by decide +kernel
theorem dX7_pop_45 : decode cX7_pop 45 = .ok (.iload_n 2, 1) := by decide +kernel
theorem dX7_pop_46 : decode cX7_pop 46 = .ok (.aload_n 0, 1) := by decide +kernel
theorem dX7_pop_47 : decode cX7_pop 47 = .ok (.getfield 10, 3) := by decide +kernel
theorem dX7_pop_50 : decode cX7_pop 50 = .ok (.getfield 108, 3) := by decide +kernel
theorem dX7_pop_53 : decode cX7_pop 53 = .ok (.isub, 1) := by decide +kernel
theorem dX7_pop_54 : decode cX7_pop 54 = .ok (.ireturn, 1) := by decide +kernel
set_option maxRecDepth 20000 in
theorem ggX7_level_X5_hasMark : GoodIn wsX7_level wsX5_hasMark := goodIn_r _ [7, 8, 19, 20, 21, 22, 23, 24, 25, 26] (by decide +kernel) (by decide +kernel)
set_option maxRecDepth 20000 in
theorem gX7_level_X5_hasMark : GoodIn wsX7_level (wsV RX7 208 RX5 yX5_hasMark wsX5_hasMark) := goodIn_app (goodIn_of _ (by decide +kernel)) ggX7_level_X5_hasMark
theorem dX7_level_0 : decode cX7_level 0 = .ok (.aload_n 0, 1) := by decide +kernel
theorem dX7_level_1 : decode cX7_level 1 = .ok (.getfield 10, 3) := by decide +kernel
theorem dX7_level_4 : decode cX7_level 4 = .ok (.iload_n 1, 1) := by decide +kernel
theorem dX7_level_5 : decode cX7_level 5 = .ok (.invokevirtual 208, 3) := by decide +kernel
theorem dX7_level_8 : decode cX7_level 8 = .ok (.ifCond .eq 15, 3) := by decide +kernel
theorem dX7_level_11 : decode cX7_level 11 = .ok (.aload_n 0, 1) := by decide +kernel
theorem dX7_level_12 : decode cX7_level 12 = .ok (.getfield 10, 3) := by decide +kernel
theorem dX7_level_15 : decode cX7_level 15 = .ok (.getfield 205, 3) := by decide +kernel
theorem dX7_level_18 : decode cX7_level 18 = .ok (.iload_n 1, 1) := by decide +kernel
theorem dX7_level_19 : decode cX7_level 19 = .ok (.iaload, 1) := by decide +kernel
theorem dX7_level_20 : decode cX7_level 20 = .ok (.goto 4, 3) := by decide +kernel
theorem dX7_level_23 : decode cX7_level 23 = .ok (.iconst (-1), 1) := by decide +kernel
theorem dX7_level_24 : decode cX7_level 24 = .ok (.ireturn, 1) := by decide +kernel
set_option maxRecDepth 20000 in
theorem ggX7_implied_X7_isThing : GoodIn wsX7_implied wsX7_isThing := goodIn_r _ [9] (by decide +kernel) (by decide +kernel)
set_option maxRecDepth 20000 in
theorem gX7_implied_X7_isThing : GoodIn wsX7_implied (va_wsS RX7 195 yX7_isThing wsX7_isThing) := goodIn_app (goodIn_of _ (by decide +kernel)) ggX7_implied_X7_isThing
set_option maxRecDepth 20000 in
theorem ggX7_implied_X7_isBit : GoodIn wsX7_implied wsX7_isBit := goodIn_r _ [12] (by decide +kernel) (by decide +kernel)
set_option maxRecDepth 20000 in
theorem gX7_implied_X7_isBit : GoodIn wsX7_implied (va_wsS RX7 173 yX7_isBit wsX7_isBit) := goodIn_app (goodIn_of _ (by decide +kernel)) ggX7_implied_X7_isBit
set_option maxRecDepth 20000 in
theorem ggX7_implied_X2_between : GoodIn wsX7_implied wsX2_between := goodIn_r _ [17, 18, 19, 20, 21, 22, 23, 24, 25, 26, 27, 16, 28, 29, 30, 31, 32, 33, 34, 8, 35, 36, 57, 58, 59, 60, 61, 62, 63, 64, 65, 66] (by decide +kernel) (by decide +kernel)
set_option maxRecDepth 20000 in
theorem gX7_implied_X2_between : GoodIn wsX7_implied (wsV RX7 213 RX2 yX2_between wsX2_between) := goodIn_app (goodIn_of _ (by decide +kernel)) ggX7_implied_X2_between
set_option maxRecDepth 20000 in
theorem ggX7_implied_X7_amountOf : GoodIn wsX7_implied wsX7_amountOf := goodIn_r _ [39, 36, 40, 41, 42, 43] (by decide +kernel) (by decide +kernel)
set_option maxRecDepth 20000 in
theorem gX7_implied_X7_amountOf : GoodIn wsX7_implied (va_wsS RX7 217 yX7_amountOf wsX7_amountOf) := goodIn_app (goodIn_of _ (by decide +kernel)) ggX7_implied_X7_amountOf
set_option maxRecDepth 20000 in
theorem ggX7_implied_X7_edgesOf : GoodIn wsX7_implied wsX7_edgesOf := goodIn_r _ [46, 36, 37, 38, 8, 39, 40, 41, 42, 43] (by decide +kernel) (by decide +kernel)
set_option maxRecDepth 20000 in
theorem gX7_implied_X7_edgesOf : GoodIn wsX7_implied (va_wsS RX7 221 yX7_edgesOf wsX7_edgesOf) := goodIn_app (goodIn_of _ (by decide +kernel)) ggX7_implied_X7_edgesOf
theorem dX7_implied_0 : decode cX7_implied 0 = .ok (.iload_n 1, 1) := by decide +kernel
theorem dX7_implied_1 : decode cX7_implied 1 = .ok (.invokestatic 195, 3) := by decide +kernel
theorem dX7_implied_4 : decode cX7_implied 4 = .ok (.ifCond .eq 17, 3) := by decide +kernel
theorem dX7_implied_7 : decode cX7_implied 7 = .ok (.iload_n 2, 1) := by decide +kernel
theorem dX7_implied_8 : decode cX7_implied 8 = .ok (.invokestatic 195, 3) := by decide +kernel
theorem dX7_implied_11 : decode cX7_implied 11 = .ok (.ifCond .eq 10, 3) := by decide +kernel
theorem dX7_implied_14 : decode cX7_implied 14 = .ok (.iload_n 3, 1) := by decide +kernel
theorem dX7_implied_15 : decode cX7_implied 15 = .ok (.invokestatic 173, 3) := by decide +kernel
theorem dX7_implied_18 : decode cX7_implied 18 = .ok (.ifCond .ne 7, 3) := by decide +kernel
theorem dX7_implied_21 : decode cX7_implied 21 = .ok (.ldc2_w 211, 3) := by decide +kernel
theorem dX7_implied_24 : decode cX7_implied 24 = .ok (.lreturn, 1) := by decide +kernel
theorem dX7_implied_25 : decode cX7_implied 25 = .ok (.aload_n 0, 1) := by decide +kernel
theorem dX7_implied_26 : decode cX7_implied 26 = .ok (.getfield 34, 3) := by decide +kernel
theorem dX7_implied_29 : decode cX7_implied 29 = .ok (.aload_n 0, 1) := by decide +kernel
theorem dX7_implied_30 : decode cX7_implied 30 = .ok (.getfield 10, 3) := by decide +kernel
theorem dX7_implied_33 : decode cX7_implied 33 = .ok (.iload_n 2, 1) := by decide +kernel
theorem dX7_implied_34 : decode cX7_implied 34 = .ok (.iload_n 1, 1) := by decide +kernel
theorem dX7_implied_35 : decode cX7_implied 35 = .ok (.iconst (-1), 1) := by decide +kernel
theorem dX7_implied_36 : decode cX7_implied 36 = .ok (.invokevirtual 213, 3) := by decide +kernel
theorem dX7_implied_39 : decode cX7_implied 39 = .ok (.lstore 4, 2) := by decide +kernel
theorem dX7_implied_41 : decode cX7_implied 41 = .ok (.lload 4, 2) := by decide +kernel
theorem dX7_implied_43 : decode cX7_implied 43 = .ok (.ldc2_w 156, 3) := by decide +kernel
theorem dX7_implied_46 : decode cX7_implied 46 = .ok (.lcmp, 1) := by decide +kernel
theorem dX7_implied_47 : decode cX7_implied 47 = .ok (.ifCond .ne 7, 3) := by decide +kernel
theorem dX7_implied_50 : decode cX7_implied 50 = .ok (.ldc2_w 150, 3) := by decide +kernel
theorem dX7_implied_53 : decode cX7_implied 53 = .ok (.lreturn, 1) := by decide +kernel
theorem dX7_implied_54 : decode cX7_implied 54 = .ok (.iload_n 3, 1) := by decide +kernel
theorem dX7_implied_55 : decode cX7_implied 55 = .ok (.ifCond .ne 11, 3) := by decide +kernel
theorem dX7_implied_58 : decode cX7_implied 58 = .ok (.lload 4, 2) := by decide +kernel
theorem dX7_implied_60 : decode cX7_implied 60 = .ok (.invokestatic 217, 3) := by decide +kernel
theorem dX7_implied_63 : decode cX7_implied 63 = .ok (.goto 8, 3) := by decide +kernel
theorem dX7_implied_66 : decode cX7_implied 66 = .ok (.lload 4, 2) := by decide +kernel
theorem dX7_implied_68 : decode cX7_implied 68 = .ok (.invokestatic 221, 3) := by decide +kernel
theorem dX7_implied_71 : decode cX7_implied 71 = .ok (.lreturn, 1) := by decide +kernel
set_option maxRecDepth 20000 in
theorem ggX7_fixed_X7_isThing : GoodIn wsX7_fixed wsX7_isThing := goodIn_r _ [6] (by decide +kernel) (by decide +kernel)
set_option maxRecDepth 20000 in
theorem gX7_fixed_X7_isThing : GoodIn wsX7_fixed (va_wsS RX7 195 yX7_isThing wsX7_isThing) := goodIn_app (goodIn_of _ (by decide +kernel)) ggX7_fixed_X7_isThing
set_option maxRecDepth 20000 in
theorem ggX7_fixed_X2_between : GoodIn wsX7_fixed wsX2_between := goodIn_r _ [11, 12, 13, 14, 15, 16, 17, 18, 19, 20, 21, 10, 22, 23, 24, 25, 26, 27, 28, 5, 29, 30, 45, 46, 47, 48, 49, 50, 51, 52, 53, 54] (by decide +kernel) (by decide +kernel)
set_option maxRecDepth 20000 in
theorem gX7_fixed_X2_between : GoodIn wsX7_fixed (wsV RX7 213 RX2 yX2_between wsX2_between) := goodIn_app (goodIn_of _ (by decide +kernel)) ggX7_fixed_X2_between
set_option maxRecDepth 20000 in
theorem ggX7_fixed_X7_sumToNothing : GoodIn wsX7_fixed wsX7_sumToNothing := goodIn_r _ [33, 34] (by decide +kernel) (by decide +kernel)
set_option maxRecDepth 20000 in
theorem gX7_fixed_X7_sumToNothing : GoodIn wsX7_fixed (va_wsS RX7 224 yX7_sumToNothing wsX7_sumToNothing) := goodIn_app (goodIn_of _ (by decide +kernel)) ggX7_fixed_X7_sumToNothing
theorem dX7_fixed_0 : decode cX7_fixed 0 = .ok (.iload_n 1, 1) := by decide +kernel
theorem dX7_fixed_1 : decode cX7_fixed 1 = .ok (.invokestatic 195, 3) := by decide +kernel
theorem dX7_fixed_4 : decode cX7_fixed 4 = .ok (.ifCond .eq 10, 3) := by decide +kernel
theorem dX7_fixed_7 : decode cX7_fixed 7 = .ok (.iload_n 2, 1) := by decide +kernel
theorem dX7_fixed_8 : decode cX7_fixed 8 = .ok (.invokestatic 195, 3) := by decide +kernel
theorem dX7_fixed_11 : decode cX7_fixed 11 = .ok (.ifCond .ne 5, 3) := by decide +kernel
theorem dX7_fixed_14 : decode cX7_fixed 14 = .ok (.iconst (-1), 1) := by decide +kernel
theorem dX7_fixed_15 : decode cX7_fixed 15 = .ok (.ireturn, 1) := by decide +kernel
theorem dX7_fixed_16 : decode cX7_fixed 16 = .ok (.aload_n 0, 1) := by decide +kernel
theorem dX7_fixed_17 : decode cX7_fixed 17 = .ok (.getfield 34, 3) := by decide +kernel
theorem dX7_fixed_20 : decode cX7_fixed 20 = .ok (.aload_n 0, 1) := by decide +kernel
theorem dX7_fixed_21 : decode cX7_fixed 21 = .ok (.getfield 10, 3) := by decide +kernel
theorem dX7_fixed_24 : decode cX7_fixed 24 = .ok (.iload_n 1, 1) := by decide +kernel
theorem dX7_fixed_25 : decode cX7_fixed 25 = .ok (.iload_n 2, 1) := by decide +kernel
theorem dX7_fixed_26 : decode cX7_fixed 26 = .ok (.iconst (-1), 1) := by decide +kernel
theorem dX7_fixed_27 : decode cX7_fixed 27 = .ok (.invokevirtual 213, 3) := by decide +kernel
theorem dX7_fixed_30 : decode cX7_fixed 30 = .ok (.lstore_n 3, 1) := by decide +kernel
theorem dX7_fixed_31 : decode cX7_fixed 31 = .ok (.aload_n 0, 1) := by decide +kernel
theorem dX7_fixed_32 : decode cX7_fixed 32 = .ok (.getfield 34, 3) := by decide +kernel
theorem dX7_fixed_35 : decode cX7_fixed 35 = .ok (.aload_n 0, 1) := by decide +kernel
theorem dX7_fixed_36 : decode cX7_fixed 36 = .ok (.getfield 10, 3) := by decide +kernel
theorem dX7_fixed_39 : decode cX7_fixed 39 = .ok (.iload_n 2, 1) := by decide +kernel
theorem dX7_fixed_40 : decode cX7_fixed 40 = .ok (.iload_n 1, 1) := by decide +kernel
theorem dX7_fixed_41 : decode cX7_fixed 41 = .ok (.iconst (-1), 1) := by decide +kernel
theorem dX7_fixed_42 : decode cX7_fixed 42 = .ok (.invokevirtual 213, 3) := by decide +kernel
theorem dX7_fixed_45 : decode cX7_fixed 45 = .ok (.lstore 5, 2) := by decide +kernel
theorem dX7_fixed_47 : decode cX7_fixed 47 = .ok (.lload_n 3, 1) := by decide +kernel
theorem dX7_fixed_48 : decode cX7_fixed 48 = .ok (.lload 5, 2) := by decide +kernel
theorem dX7_fixed_50 : decode cX7_fixed 50 = .ok (.invokestatic 224, 3) := by decide +kernel
theorem dX7_fixed_53 : decode cX7_fixed 53 = .ok (.ifCond .eq 7, 3) := by decide +kernel
theorem dX7_fixed_56 : decode cX7_fixed 56 = .ok (.iconst 1, 1) := by decide +kernel
theorem dX7_fixed_57 : decode cX7_fixed 57 = .ok (.goto 4, 3) := by decide +kernel
theorem dX7_fixed_60 : decode cX7_fixed 60 = .ok (.iconst 0, 1) := by decide +kernel
theorem dX7_fixed_61 : decode cX7_fixed 61 = .ok (.ireturn, 1) := by decide +kernel
set_option maxRecDepth 20000 in
theorem ggX7_high_X7_isThing : GoodIn wsX7_high wsX7_isThing := goodIn_r _ [7] (by decide +kernel) (by decide +kernel)
set_option maxRecDepth 20000 in
theorem gX7_high_X7_isThing : GoodIn wsX7_high (va_wsS RX7 195 yX7_isThing wsX7_isThing) := goodIn_app (goodIn_of _ (by decide +kernel)) ggX7_high_X7_isThing
set_option maxRecDepth 20000 in
theorem ggX7_high_X7_isBit : GoodIn wsX7_high wsX7_isBit := goodIn_r _ [10] (by decide +kernel) (by decide +kernel)
set_option maxRecDepth 20000 in
theorem gX7_high_X7_isBit : GoodIn wsX7_high (va_wsS RX7 173 yX7_isBit wsX7_isBit) := goodIn_app (goodIn_of _ (by decide +kernel)) ggX7_high_X7_isBit
set_option maxRecDepth 20000 in
theorem ggX7_high_X2_highOf : GoodIn wsX7_high wsX2_highOf := goodIn_r _ [15, 16, 17, 18, 19, 20, 14, 21, 22, 23, 24, 25, 26, 27, 28, 29, 30, 31, 32, 33, 34, 35, 36, 6, 37, 38, 59, 60, 61, 62, 63, 64, 65, 66, 67, 68] (by decide +kernel) (by decide +kernel)
set_option maxRecDepth 20000 in
theorem gX7_high_X2_highOf : GoodIn wsX7_high (wsV RX7 228 RX2 yX2_highOf wsX2_highOf) := goodIn_app (goodIn_of _ (by decide +kernel)) ggX7_high_X2_highOf
set_option maxRecDepth 20000 in
theorem ggX7_high_X7_amountOf : GoodIn wsX7_high wsX7_amountOf := goodIn_r _ [41, 38, 42, 43, 44, 45] (by decide +kernel) (by decide +kernel)
set_option maxRecDepth 20000 in
theorem gX7_high_X7_amountOf : GoodIn wsX7_high (va_wsS RX7 217 yX7_amountOf wsX7_amountOf) := goodIn_app (goodIn_of _ (by decide +kernel)) ggX7_high_X7_amountOf
set_option maxRecDepth 20000 in
theorem ggX7_high_X7_edgesOf : GoodIn wsX7_high wsX7_edgesOf := goodIn_r _ [48, 38, 39, 40, 6, 41, 42, 43, 44, 45] (by decide +kernel) (by decide +kernel)
set_option maxRecDepth 20000 in
theorem gX7_high_X7_edgesOf : GoodIn wsX7_high (va_wsS RX7 221 yX7_edgesOf wsX7_edgesOf) := goodIn_app (goodIn_of _ (by decide +kernel)) ggX7_high_X7_edgesOf
theorem dX7_high_0 : decode cX7_high 0 = .ok (.iload_n 1, 1) := by decide +kernel
theorem dX7_high_1 : decode cX7_high 1 = .ok (.invokestatic 195, 3) := by decide +kernel
theorem dX7_high_4 : decode cX7_high 4 = .ok (.ifCond .eq 10, 3) := by decide +kernel
theorem dX7_high_7 : decode cX7_high 7 = .ok (.iload_n 2, 1) := by decide +kernel
theorem dX7_high_8 : decode cX7_high 8 = .ok (.invokestatic 173, 3) := by decide +kernel
theorem dX7_high_11 : decode cX7_high 11 = .ok (.ifCond .ne 7, 3) := by decide +kernel
theorem dX7_high_14 : decode cX7_high 14 = .ok (.ldc2_w 211, 3) := by decide +kernel
theorem dX7_high_17 : decode cX7_high 17 = .ok (.lreturn, 1) := by decide +kernel
theorem dX7_high_18 : decode cX7_high 18 = .ok (.aload_n 0, 1) := by decide +kernel
theorem dX7_high_19 : decode cX7_high 19 = .ok (.getfield 34, 3) := by decide +kernel
theorem dX7_high_22 : decode cX7_high 22 = .ok (.aload_n 0, 1) := by decide +kernel
theorem dX7_high_23 : decode cX7_high 23 = .ok (.getfield 10, 3) := by decide +kernel
theorem dX7_high_26 : decode cX7_high 26 = .ok (.iload_n 1, 1) := by decide +kernel
theorem dX7_high_27 : decode cX7_high 27 = .ok (.invokevirtual 228, 3) := by decide +kernel
theorem dX7_high_30 : decode cX7_high 30 = .ok (.lstore_n 3, 1) := by decide +kernel
theorem dX7_high_31 : decode cX7_high 31 = .ok (.iload_n 2, 1) := by decide +kernel
theorem dX7_high_32 : decode cX7_high 32 = .ok (.ifCond .ne 10, 3) := by decide +kernel
theorem dX7_high_35 : decode cX7_high 35 = .ok (.lload_n 3, 1) := by decide +kernel
theorem dX7_high_36 : decode cX7_high 36 = .ok (.invokestatic 217, 3) := by decide +kernel
theorem dX7_high_39 : decode cX7_high 39 = .ok (.goto 7, 3) := by decide +kernel
theorem dX7_high_42 : decode cX7_high 42 = .ok (.lload_n 3, 1) := by decide +kernel
theorem dX7_high_43 : decode cX7_high 43 = .ok (.invokestatic 221, 3) := by decide +kernel
theorem dX7_high_46 : decode cX7_high 46 = .ok (.lreturn, 1) := by decide +kernel
set_option maxRecDepth 20000 in
theorem ggX7_reach_X7_isThing : GoodIn wsX7_reach wsX7_isThing := goodIn_r _ [9] (by decide +kernel) (by decide +kernel)
set_option maxRecDepth 20000 in
theorem gX7_reach_X7_isThing : GoodIn wsX7_reach (va_wsS RX7 195 yX7_isThing wsX7_isThing) := goodIn_app (goodIn_of _ (by decide +kernel)) ggX7_reach_X7_isThing
set_option maxRecDepth 20000 in
theorem ggX7_reach_X2_between : GoodIn wsX7_reach wsX2_between := goodIn_r _ [14, 15, 16, 17, 18, 19, 20, 21, 22, 23, 24, 13, 25, 26, 27, 28, 29, 30, 31, 8, 32, 33, 54, 55, 56, 57, 58, 59, 60, 61, 62, 63] (by decide +kernel) (by decide +kernel)
set_option maxRecDepth 20000 in
theorem gX7_reach_X2_between : GoodIn wsX7_reach (wsV RX7 213 RX2 yX2_between wsX2_between) := goodIn_app (goodIn_of _ (by decide +kernel)) ggX7_reach_X2_between
set_option maxRecDepth 20000 in
theorem ggX7_reach_X7_edgesOf : GoodIn wsX7_reach wsX7_edgesOf := goodIn_r _ [36, 33, 37, 38, 8, 39, 40, 41, 42, 43] (by decide +kernel) (by decide +kernel)
set_option maxRecDepth 20000 in
theorem gX7_reach_X7_edgesOf : GoodIn wsX7_reach (va_wsS RX7 221 yX7_edgesOf wsX7_edgesOf) := goodIn_app (goodIn_of _ (by decide +kernel)) ggX7_reach_X7_edgesOf
set_option maxRecDepth 20000 in
theorem ggX7_reach_X7_amountOf : GoodIn wsX7_reach wsX7_amountOf := goodIn_r _ [39, 33, 40, 41, 42, 43] (by decide +kernel) (by decide +kernel)
set_option maxRecDepth 20000 in
theorem gX7_reach_X7_amountOf : GoodIn wsX7_reach (va_wsS RX7 217 yX7_amountOf wsX7_amountOf) := goodIn_app (goodIn_of _ (by decide +kernel)) ggX7_reach_X7_amountOf
theorem dX7_reach_0 : decode cX7_reach 0 = .ok (.iload_n 1, 1) := by decide +kernel
theorem dX7_reach_1 : decode cX7_reach 1 = .ok (.invokestatic 195, 3) := by decide +kernel
theorem dX7_reach_4 : decode cX7_reach 4 = .ok (.ifCond .eq 21, 3) := by decide +kernel
theorem dX7_reach_7 : decode cX7_reach 7 = .ok (.iload_n 2, 1) := by decide +kernel
theorem dX7_reach_8 : decode cX7_reach 8 = .ok (.invokestatic 195, 3) := by decide +kernel
theorem dX7_reach_11 : decode cX7_reach 11 = .ok (.ifCond .eq 14, 3) := by decide +kernel
theorem dX7_reach_14 : decode cX7_reach 14 = .ok (.iload 4, 2) := by decide +kernel
theorem dX7_reach_16 : decode cX7_reach 16 = .ok (.ifCond .lt 9, 3) := by decide +kernel
theorem dX7_reach_19 : decode cX7_reach 19 = .ok (.iload 4, 2) := by decide +kernel
theorem dX7_reach_21 : decode cX7_reach 21 = .ok (.iconst 3, 1) := by decide +kernel
theorem dX7_reach_22 : decode cX7_reach 22 = .ok (.if_icmp .le 7, 3) := by decide +kernel
theorem dX7_reach_25 : decode cX7_reach 25 = .ok (.ldc2_w 211, 3) := by decide +kernel
theorem dX7_reach_28 : decode cX7_reach 28 = .ok (.lreturn, 1) := by decide +kernel
theorem dX7_reach_29 : decode cX7_reach 29 = .ok (.iload 4, 2) := by decide +kernel
theorem dX7_reach_31 : decode cX7_reach 31 = .ok (.ifCond .eq 9, 3) := by decide +kernel
theorem dX7_reach_34 : decode cX7_reach 34 = .ok (.iload 4, 2) := by decide +kernel
theorem dX7_reach_36 : decode cX7_reach 36 = .ok (.iconst 2, 1) := by decide +kernel
theorem dX7_reach_37 : decode cX7_reach 37 = .ok (.if_icmp .ne 7, 3) := by decide +kernel
theorem dX7_reach_40 : decode cX7_reach 40 = .ok (.iconst 1, 1) := by decide +kernel
theorem dX7_reach_41 : decode cX7_reach 41 = .ok (.goto 4, 3) := by decide +kernel
theorem dX7_reach_44 : decode cX7_reach 44 = .ok (.iconst 0, 1) := by decide +kernel
theorem dX7_reach_45 : decode cX7_reach 45 = .ok (.istore 5, 2) := by decide +kernel
theorem dX7_reach_47 : decode cX7_reach 47 = .ok (.iload 5, 2) := by decide +kernel
theorem dX7_reach_49 : decode cX7_reach 49 = .ok (.ifCond .eq 20, 3) := by decide +kernel
theorem dX7_reach_52 : decode cX7_reach 52 = .ok (.aload_n 0, 1) := by decide +kernel
theorem dX7_reach_53 : decode cX7_reach 53 = .ok (.getfield 34, 3) := by decide +kernel
theorem dX7_reach_56 : decode cX7_reach 56 = .ok (.aload_n 0, 1) := by decide +kernel
theorem dX7_reach_57 : decode cX7_reach 57 = .ok (.getfield 10, 3) := by decide +kernel
theorem dX7_reach_60 : decode cX7_reach 60 = .ok (.iload_n 2, 1) := by decide +kernel
theorem dX7_reach_61 : decode cX7_reach 61 = .ok (.iload_n 1, 1) := by decide +kernel
theorem dX7_reach_62 : decode cX7_reach 62 = .ok (.iconst (-1), 1) := by decide +kernel
theorem dX7_reach_63 : decode cX7_reach 63 = .ok (.invokevirtual 213, 3) := by decide +kernel
theorem dX7_reach_66 : decode cX7_reach 66 = .ok (.goto 17, 3) := by decide +kernel
theorem dX7_reach_69 : decode cX7_reach 69 = .ok (.aload_n 0, 1) := by decide +kernel
theorem dX7_reach_70 : decode cX7_reach 70 = .ok (.getfield 34, 3) := by decide +kernel
theorem dX7_reach_73 : decode cX7_reach 73 = .ok (.aload_n 0, 1) := by decide +kernel
theorem dX7_reach_74 : decode cX7_reach 74 = .ok (.getfield 10, 3) := by decide +kernel
theorem dX7_reach_77 : decode cX7_reach 77 = .ok (.iload_n 1, 1) := by decide +kernel
theorem dX7_reach_78 : decode cX7_reach 78 = .ok (.iload_n 2, 1) := by decide +kernel
theorem dX7_reach_79 : decode cX7_reach 79 = .ok (.iconst (-1), 1) := by decide +kernel
theorem dX7_reach_80 : decode cX7_reach 80 = .ok (.invokevirtual 213, 3) := by decide +kernel
theorem dX7_reach_83 : decode cX7_reach 83 = .ok (.lstore 6, 2) := by decide +kernel
theorem dX7_reach_85 : decode cX7_reach 85 = .ok (.lload 6, 2) := by decide +kernel
theorem dX7_reach_87 : decode cX7_reach 87 = .ok (.ldc2_w 156, 3) := by decide +kernel
theorem dX7_reach_90 : decode cX7_reach 90 = .ok (.lcmp, 1) := by decide +kernel
theorem dX7_reach_91 : decode cX7_reach 91 = .ok (.ifCond .ne 7, 3) := by decide +kernel
theorem dX7_reach_94 : decode cX7_reach 94 = .ok (.ldc2_w 150, 3) := by decide +kernel
theorem dX7_reach_97 : decode cX7_reach 97 = .ok (.lreturn, 1) := by decide +kernel
theorem dX7_reach_98 : decode cX7_reach 98 = .ok (.iload 4, 2) := by decide +kernel
theorem dX7_reach_100 : decode cX7_reach 100 = .ok (.iconst 2, 1) := by decide +kernel
theorem dX7_reach_101 : decode cX7_reach 101 = .ok (.if_icmp .lt 9, 3) := by decide +kernel
theorem dX7_reach_104 : decode cX7_reach 104 = .ok (.lload 6, 2) := by decide +kernel
theorem dX7_reach_106 : decode cX7_reach 106 = .ok (.invokestatic 221, 3) := by decide +kernel
theorem dX7_reach_109 : decode cX7_reach 109 = .ok (.lreturn, 1) := by decide +kernel
theorem dX7_reach_110 : decode cX7_reach 110 = .ok (.iload 5, 2) := by decide +kernel
theorem dX7_reach_112 : decode cX7_reach 112 = .ok (.ifCond .eq 14, 3) := by decide +kernel
theorem dX7_reach_115 : decode cX7_reach 115 = .ok (.iload_n 3, 1) := by decide +kernel
theorem dX7_reach_116 : decode cX7_reach 116 = .ok (.i2l, 1) := by decide +kernel
theorem dX7_reach_117 : decode cX7_reach 117 = .ok (.lload 6, 2) := by decide +kernel
theorem dX7_reach_119 : decode cX7_reach 119 = .ok (.invokestatic 217, 3) := by decide +kernel
theorem dX7_reach_122 : decode cX7_reach 122 = .ok (.ladd, 1) := by decide +kernel
theorem dX7_reach_123 : decode cX7_reach 123 = .ok (.goto 11, 3) := by decide +kernel
theorem dX7_reach_126 : decode cX7_reach 126 = .ok (.iload_n 3, 1) := by decide +kernel
theorem dX7_reach_127 : decode cX7_reach 127 = .ok (.i2l, 1) := by decide +kernel
theorem dX7_reach_128 : decode cX7_reach 128 = .ok (.lload 6, 2) := by decide +kernel
theorem dX7_reach_130 : decode cX7_reach 130 = .ok (.invokestatic 217, 3) := by decide +kernel
theorem dX7_reach_133 : decode cX7_reach 133 = .ok (.lsub, 1) := by decide +kernel
theorem dX7_reach_134 : decode cX7_reach 134 = .ok (.lreturn, 1) := by decide +kernel
set_option maxRecDepth 20000 in
theorem ggX7_room_X7_arePair : GoodIn wsX7_room wsX7_arePair := goodIn_r _ [9, 10, 11, 8, 12] (by decide +kernel) (by decide +kernel)
set_option maxRecDepth 20000 in
theorem gX7_room_X7_arePair : GoodIn wsX7_room (va_wsS RX7 152 yX7_arePair wsX7_arePair) := goodIn_app (goodIn_of _ (by decide +kernel)) ggX7_room_X7_arePair
set_option maxRecDepth 20000 in
theorem ggX7_room_X7_isBit : GoodIn wsX7_room wsX7_isBit := goodIn_r _ [15] (by decide +kernel) (by decide +kernel)
set_option maxRecDepth 20000 in
theorem gX7_room_X7_isBit : GoodIn wsX7_room (va_wsS RX7 173 yX7_isBit wsX7_isBit) := goodIn_app (goodIn_of _ (by decide +kernel)) ggX7_room_X7_isBit
set_option maxRecDepth 20000 in
theorem ggX7_room_X2_between : GoodIn wsX7_room wsX2_between := goodIn_r _ [20, 21, 22, 23, 24, 25, 26, 27, 28, 29, 30, 19, 31, 32, 33, 34, 35, 36, 37, 8, 38, 39, 60, 61, 62, 63, 64, 65, 66, 67, 68, 69] (by decide +kernel) (by decide +kernel)
set_option maxRecDepth 20000 in
theorem gX7_room_X2_between : GoodIn wsX7_room (wsV RX7 213 RX2 yX2_between wsX2_between) := goodIn_app (goodIn_of _ (by decide +kernel)) ggX7_room_X2_between
set_option maxRecDepth 20000 in
theorem ggX7_room_X7_amountOf : GoodIn wsX7_room wsX7_amountOf := goodIn_r _ [42, 39, 43, 44, 45, 46] (by decide +kernel) (by decide +kernel)
set_option maxRecDepth 20000 in
theorem gX7_room_X7_amountOf : GoodIn wsX7_room (va_wsS RX7 217 yX7_amountOf wsX7_amountOf) := goodIn_app (goodIn_of _ (by decide +kernel)) ggX7_room_X7_amountOf
set_option maxRecDepth 20000 in
theorem ggX7_room_X7_edgesOf : GoodIn wsX7_room wsX7_edgesOf := goodIn_r _ [49, 39, 40, 41, 8, 42, 43, 44, 45, 46] (by decide +kernel) (by decide +kernel)
set_option maxRecDepth 20000 in
theorem gX7_room_X7_edgesOf : GoodIn wsX7_room (va_wsS RX7 221 yX7_edgesOf wsX7_edgesOf) := goodIn_app (goodIn_of _ (by decide +kernel)) ggX7_room_X7_edgesOf
theorem dX7_room_0 : decode cX7_room 0 = .ok (.iload_n 1, 1) := by decide +kernel
theorem dX7_room_1 : decode cX7_room 1 = .ok (.iload_n 2, 1) := by decide +kernel
theorem dX7_room_2 : decode cX7_room 2 = .ok (.invokestatic 152, 3) := by decide +kernel
theorem dX7_room_5 : decode cX7_room 5 = .ok (.ifCond .eq 10, 3) := by decide +kernel
theorem dX7_room_8 : decode cX7_room 8 = .ok (.iload_n 3, 1) := by decide +kernel
theorem dX7_room_9 : decode cX7_room 9 = .ok (.invokestatic 173, 3) := by decide +kernel
theorem dX7_room_12 : decode cX7_room 12 = .ok (.ifCond .ne 7, 3) := by decide +kernel
theorem dX7_room_15 : decode cX7_room 15 = .ok (.ldc2_w 211, 3) := by decide +kernel
theorem dX7_room_18 : decode cX7_room 18 = .ok (.lreturn, 1) := by decide +kernel
theorem dX7_room_19 : decode cX7_room 19 = .ok (.aload_n 0, 1) := by decide +kernel
theorem dX7_room_20 : decode cX7_room 20 = .ok (.getfield 34, 3) := by decide +kernel
theorem dX7_room_23 : decode cX7_room 23 = .ok (.aload_n 0, 1) := by decide +kernel
theorem dX7_room_24 : decode cX7_room 24 = .ok (.getfield 10, 3) := by decide +kernel
theorem dX7_room_27 : decode cX7_room 27 = .ok (.iload_n 1, 1) := by decide +kernel
theorem dX7_room_28 : decode cX7_room 28 = .ok (.iload_n 2, 1) := by decide +kernel
theorem dX7_room_29 : decode cX7_room 29 = .ok (.iconst (-1), 1) := by decide +kernel
theorem dX7_room_30 : decode cX7_room 30 = .ok (.invokevirtual 213, 3) := by decide +kernel
theorem dX7_room_33 : decode cX7_room 33 = .ok (.lstore 4, 2) := by decide +kernel
theorem dX7_room_35 : decode cX7_room 35 = .ok (.lload 4, 2) := by decide +kernel
theorem dX7_room_37 : decode cX7_room 37 = .ok (.ldc2_w 156, 3) := by decide +kernel
theorem dX7_room_40 : decode cX7_room 40 = .ok (.lcmp, 1) := by decide +kernel
theorem dX7_room_41 : decode cX7_room 41 = .ok (.ifCond .ne 7, 3) := by decide +kernel
theorem dX7_room_44 : decode cX7_room 44 = .ok (.ldc2_w 150, 3) := by decide +kernel
theorem dX7_room_47 : decode cX7_room 47 = .ok (.lreturn, 1) := by decide +kernel
theorem dX7_room_48 : decode cX7_room 48 = .ok (.iload_n 3, 1) := by decide +kernel
theorem dX7_room_49 : decode cX7_room 49 = .ok (.ifCond .ne 10, 3) := by decide +kernel
theorem dX7_room_52 : decode cX7_room 52 = .ok (.lload 4, 2) := by decide +kernel
theorem dX7_room_54 : decode cX7_room 54 = .ok (.invokestatic 217, 3) := by decide +kernel
theorem dX7_room_57 : decode cX7_room 57 = .ok (.lneg, 1) := by decide +kernel
theorem dX7_room_58 : decode cX7_room 58 = .ok (.lreturn, 1) := by decide +kernel
theorem dX7_room_59 : decode cX7_room 59 = .ok (.lload 4, 2) := by decide +kernel
theorem dX7_room_61 : decode cX7_room 61 = .ok (.invokestatic 221, 3) := by decide +kernel
theorem dX7_room_64 : decode cX7_room 64 = .ok (.lconst 0, 1) := by decide +kernel
theorem dX7_room_65 : decode cX7_room 65 = .ok (.lcmp, 1) := by decide +kernel
theorem dX7_room_66 : decode cX7_room 66 = .ok (.ifCond .le 7, 3) := by decide +kernel
theorem dX7_room_69 : decode cX7_room 69 = .ok (.lconst 1, 1) := by decide +kernel
theorem dX7_room_70 : decode cX7_room 70 = .ok (.goto 4, 3) := by decide +kernel
theorem dX7_room_73 : decode cX7_room 73 = .ok (.lconst 0, 1) := by decide +kernel
theorem dX7_room_74 : decode cX7_room 74 = .ok (.lreturn, 1) := by decide +kernel
set_option maxRecDepth 20000 in
theorem ggX7_ways_X4_prepare : GoodIn wsX7_ways wsX4_prepare := goodIn_r _ [7, 8, 9, 10, 11, 12, 13, 14, 15, 16, 17, 18, 19, 20, 21, 22, 23, 24, 42, 43, 44, 45, 46, 47, 48, 49, 50, 51, 52, 53] (by decide +kernel) (by decide +kernel)
set_option maxRecDepth 20000 in
theorem gX7_ways_X4_prepare : GoodIn wsX7_ways (wsV RX7 232 RX4 yX4_prepare wsX4_prepare) := goodIn_app (goodIn_of _ (by decide +kernel)) ggX7_ways_X4_prepare
set_option maxRecDepth 20000 in
theorem ggX7_ways_X4_waysFrom : GoodIn wsX7_ways wsX4_waysFrom := goodIn_r _ [26, 9, 27, 10, 28, 29, 19, 30, 17, 18, 20, 8, 31, 25, 6, 42, 43, 44, 45] (by decide +kernel) (by decide +kernel)
set_option maxRecDepth 20000 in
theorem gX7_ways_X4_waysFrom_n236 : GoodIn wsX7_ways (wsX4_waysFrom) := ggX7_ways_X4_waysFrom
theorem dX7_ways_0 : decode cX7_ways 0 = .ok (.iload_n 1, 1) := by decide +kernel
theorem dX7_ways_1 : decode cX7_ways 1 = .ok (.iconst 1, 1) := by decide +kernel
theorem dX7_ways_2 : decode cX7_ways 2 = .ok (.if_icmp .lt 18, 3) := by decide +kernel
theorem dX7_ways_5 : decode cX7_ways 5 = .ok (.iload_n 1, 1) := by decide +kernel
theorem dX7_ways_6 : decode cX7_ways 6 = .ok (.iconst 5, 1) := by decide +kernel
theorem dX7_ways_7 : decode cX7_ways 7 = .ok (.if_icmp .gt 13, 3) := by decide +kernel
theorem dX7_ways_10 : decode cX7_ways 10 = .ok (.iload_n 2, 1) := by decide +kernel
theorem dX7_ways_11 : decode cX7_ways 11 = .ok (.ifCond .lt 9, 3) := by decide +kernel
theorem dX7_ways_14 : decode cX7_ways 14 = .ok (.iload_n 2, 1) := by decide +kernel
theorem dX7_ways_15 : decode cX7_ways 15 = .ok (.bipush 6, 2) := by decide +kernel
theorem dX7_ways_17 : decode cX7_ways 17 = .ok (.if_icmp .le 5, 3) := by decide +kernel
theorem dX7_ways_20 : decode cX7_ways 20 = .ok (.iconst (-1), 1) := by decide +kernel
theorem dX7_ways_21 : decode cX7_ways 21 = .ok (.ireturn, 1) := by decide +kernel
theorem dX7_ways_22 : decode cX7_ways 22 = .ok (.aload_n 0, 1) := by decide +kernel
theorem dX7_ways_23 : decode cX7_ways 23 = .ok (.getfield 48, 3) := by decide +kernel
theorem dX7_ways_26 : decode cX7_ways 26 = .ok (.aload_n 0, 1) := by decide +kernel
theorem dX7_ways_27 : decode cX7_ways 27 = .ok (.getfield 10, 3) := by decide +kernel
theorem dX7_ways_30 : decode cX7_ways 30 = .ok (.iload_n 1, 1) := by decide +kernel
theorem dX7_ways_31 : decode cX7_ways 31 = .ok (.iload_n 2, 1) := by decide +kernel
theorem dX7_ways_32 : decode cX7_ways 32 = .ok (.invokevirtual 232, 3) := by decide +kernel
theorem dX7_ways_35 : decode cX7_ways 35 = .ok (.aload_n 0, 1) := by decide +kernel
theorem dX7_ways_36 : decode cX7_ways 36 = .ok (.getfield 48, 3) := by decide +kernel
theorem dX7_ways_39 : decode cX7_ways 39 = .ok (.iconst 0, 1) := by decide +kernel
theorem dX7_ways_40 : decode cX7_ways 40 = .ok (.invokestatic 236, 3) := by decide +kernel
theorem dX7_ways_43 : decode cX7_ways 43 = .ok (.ireturn, 1) := by decide +kernel
set_option maxRecDepth 20000 in
theorem ggX7_grow_X7_nextSeed : GoodIn wsX7_grow wsX7_nextSeed := goodIn_r _ [7, 8] (by decide +kernel) (by decide +kernel)
set_option maxRecDepth 20000 in
theorem gX7_grow_X7_nextSeed : GoodIn wsX7_grow (va_wsS RX7 240 yX7_nextSeed wsX7_nextSeed) := goodIn_app (goodIn_of _ (by decide +kernel)) ggX7_grow_X7_nextSeed
set_option maxRecDepth 20000 in
theorem ggX7_grow_X7_seedBits : GoodIn wsX7_grow wsX7_seedBits := goodIn_r _ [11] (by decide +kernel) (by decide +kernel)
set_option maxRecDepth 20000 in
theorem gX7_grow_X7_seedBits : GoodIn wsX7_grow (va_wsS RX7 244 yX7_seedBits wsX7_seedBits) := goodIn_app (goodIn_of _ (by decide +kernel)) ggX7_grow_X7_seedBits
set_option maxRecDepth 20000 in
theorem ggX7_grow_X7_weigh : GoodIn wsX7_grow wsX7_weigh := goodIn_r _ [14, 15] (by decide +kernel) (by decide +kernel)
set_option maxRecDepth 20000 in
theorem gX7_grow_X7_weigh : GoodIn wsX7_grow (va_wsS RX7 176 yX7_weigh wsX7_weigh) := goodIn_app (goodIn_of _ (by decide +kernel)) ggX7_grow_X7_weigh
set_option maxRecDepth 20000 in
theorem ggX7_grow_X7_fits : GoodIn wsX7_grow wsX7_fits := goodIn_r _ [19, 20, 1, 21, 22, 23, 24, 25, 26, 27, 28, 29, 30, 31, 32, 33, 34, 35, 36, 37, 38, 39, 40, 41, 42, 13, 6, 14, 15, 53, 54, 55, 56, 57, 58, 59, 60, 61, 62, 71, 72, 63, 64, 65, 66, 67, 68, 69, 70] (by decide +kernel) (by decide +kernel)
set_option maxRecDepth 20000 in
theorem gX7_grow_X7_fits : GoodIn wsX7_grow (wsV RX7 180 RX7 yX7_fits wsX7_fits) := goodIn_app (goodIn_of _ (by decide +kernel)) ggX7_grow_X7_fits
set_option maxRecDepth 20000 in
theorem ggX7_grow_X5_append : GoodIn wsX7_grow wsX5_append := goodIn_r _ [47, 48, 49, 50, 51, 52, 63, 64, 65, 66, 67, 68, 69, 70] (by decide +kernel) (by decide +kernel)
set_option maxRecDepth 20000 in
theorem gX7_grow_X5_append : GoodIn wsX7_grow (wsV RX7 247 RX5 yX5_append wsX5_append) := goodIn_app (goodIn_of _ (by decide +kernel)) ggX7_grow_X5_append
theorem dX7_grow_0 : decode cX7_grow 0 = .ok (.iload_n 2, 1) := by decide +kernel
theorem dX7_grow_1 : decode cX7_grow 1 = .ok (.iconst 1, 1) := by decide +kernel
theorem dX7_grow_2 : decode cX7_grow 2 = .ok (.if_icmp .lt 9, 3) := by decide +kernel
theorem dX7_grow_5 : decode cX7_grow 5 = .ok (.iload_n 2, 1) := by decide +kernel
theorem dX7_grow_6 : decode cX7_grow 6 = .ok (.bipush 20, 2) := by decide +kernel
theorem dX7_grow_8 : decode cX7_grow 8 = .ok (.if_icmp .le 5, 3) := by decide +kernel
theorem dX7_grow_11 : decode cX7_grow 11 = .ok (.iconst (-1), 1) := by decide +kernel
theorem dX7_grow_12 : decode cX7_grow 12 = .ok (.ireturn, 1) := by decide +kernel
theorem dX7_grow_13 : decode cX7_grow 13 = .ok (.iconst 0, 1) := by decide +kernel
theorem dX7_grow_14 : decode cX7_grow 14 = .ok (.istore_n 3, 1) := by decide +kernel
theorem dX7_grow_15 : decode cX7_grow 15 = .ok (.iload_n 1, 1) := by decide +kernel
theorem dX7_grow_16 : decode cX7_grow 16 = .ok (.istore 4, 2) := by decide +kernel
theorem dX7_grow_18 : decode cX7_grow 18 = .ok (.iconst 0, 1) := by decide +kernel
theorem dX7_grow_19 : decode cX7_grow 19 = .ok (.istore 5, 2) := by decide +kernel
theorem dX7_grow_21 : decode cX7_grow 21 = .ok (.iload 5, 2) := by decide +kernel
theorem dX7_grow_23 : decode cX7_grow 23 = .ok (.iload_n 2, 1) := by decide +kernel
theorem dX7_grow_24 : decode cX7_grow 24 = .ok (.if_icmp .ge 145, 3) := by decide +kernel
theorem dX7_grow_27 : decode cX7_grow 27 = .ok (.iload 4, 2) := by decide +kernel
theorem dX7_grow_29 : decode cX7_grow 29 = .ok (.invokestatic 240, 3) := by decide +kernel
theorem dX7_grow_32 : decode cX7_grow 32 = .ok (.istore 4, 2) := by decide +kernel
theorem dX7_grow_34 : decode cX7_grow 34 = .ok (.iload 4, 2) := by decide +kernel
theorem dX7_grow_36 : decode cX7_grow 36 = .ok (.invokestatic 244, 3) := by decide +kernel
theorem dX7_grow_39 : decode cX7_grow 39 = .ok (.istore 6, 2) := by decide +kernel
theorem dX7_grow_41 : decode cX7_grow 41 = .ok (.iload 4, 2) := by decide +kernel
theorem dX7_grow_43 : decode cX7_grow 43 = .ok (.invokestatic 240, 3) := by decide +kernel
theorem dX7_grow_46 : decode cX7_grow 46 = .ok (.istore 4, 2) := by decide +kernel
theorem dX7_grow_48 : decode cX7_grow 48 = .ok (.iload 4, 2) := by decide +kernel
theorem dX7_grow_50 : decode cX7_grow 50 = .ok (.invokestatic 244, 3) := by decide +kernel
theorem dX7_grow_53 : decode cX7_grow 53 = .ok (.istore 7, 2) := by decide +kernel
theorem dX7_grow_55 : decode cX7_grow 55 = .ok (.iload 6, 2) := by decide +kernel
theorem dX7_grow_57 : decode cX7_grow 57 = .ok (.bipush 10, 2) := by decide +kernel
theorem dX7_grow_59 : decode cX7_grow 59 = .ok (.irem, 1) := by decide +kernel
theorem dX7_grow_60 : decode cX7_grow 60 = .ok (.istore 8, 2) := by decide +kernel
theorem dX7_grow_62 : decode cX7_grow 62 = .ok (.iload 6, 2) := by decide +kernel
theorem dX7_grow_64 : decode cX7_grow 64 = .ok (.bipush 16, 2) := by decide +kernel
theorem dX7_grow_66 : decode cX7_grow 66 = .ok (.idiv, 1) := by decide +kernel
theorem dX7_grow_67 : decode cX7_grow 67 = .ok (.bipush 10, 2) := by decide +kernel
theorem dX7_grow_69 : decode cX7_grow 69 = .ok (.irem, 1) := by decide +kernel
theorem dX7_grow_70 : decode cX7_grow 70 = .ok (.istore 9, 2) := by decide +kernel
theorem dX7_grow_72 : decode cX7_grow 72 = .ok (.iload 6, 2) := by decide +kernel
theorem dX7_grow_74 : decode cX7_grow 74 = .ok (.sipush 256, 3) := by decide +kernel
theorem dX7_grow_77 : decode cX7_grow 77 = .ok (.idiv, 1) := by decide +kernel
theorem dX7_grow_78 : decode cX7_grow 78 = .ok (.iconst 4, 1) := by decide +kernel
theorem dX7_grow_79 : decode cX7_grow 79 = .ok (.irem, 1) := by decide +kernel
theorem dX7_grow_80 : decode cX7_grow 80 = .ok (.ifCond .ne 7, 3) := by decide +kernel
theorem dX7_grow_83 : decode cX7_grow 83 = .ok (.iconst 1, 1) := by decide +kernel
theorem dX7_grow_84 : decode cX7_grow 84 = .ok (.goto 4, 3) := by decide +kernel
theorem dX7_grow_87 : decode cX7_grow 87 = .ok (.iconst 0, 1) := by decide +kernel
theorem dX7_grow_88 : decode cX7_grow 88 = .ok (.istore 10, 2) := by decide +kernel
theorem dX7_grow_90 : decode cX7_grow 90 = .ok (.iload 7, 2) := by decide +kernel
theorem dX7_grow_92 : decode cX7_grow 92 = .ok (.bipush 41, 2) := by decide +kernel
theorem dX7_grow_94 : decode cX7_grow 94 = .ok (.irem, 1) := by decide +kernel
theorem dX7_grow_95 : decode cX7_grow 95 = .ok (.bipush 12, 2) := by decide +kernel
theorem dX7_grow_97 : decode cX7_grow 97 = .ok (.isub, 1) := by decide +kernel
theorem dX7_grow_98 : decode cX7_grow 98 = .ok (.istore 11, 2) := by decide +kernel
theorem dX7_grow_100 : decode cX7_grow 100 = .ok (.iload 8, 2) := by decide +kernel
theorem dX7_grow_102 : decode cX7_grow 102 = .ok (.iload 9, 2) := by decide +kernel
theorem dX7_grow_104 : decode cX7_grow 104 = .ok (.if_icmp .eq 59, 3) := by decide +kernel
theorem dX7_grow_107 : decode cX7_grow 107 = .ok (.aload_n 0, 1) := by decide +kernel
theorem dX7_grow_108 : decode cX7_grow 108 = .ok (.getfield 10, 3) := by decide +kernel
theorem dX7_grow_111 : decode cX7_grow 111 = .ok (.getfield 108, 3) := by decide +kernel
theorem dX7_grow_114 : decode cX7_grow 114 = .ok (.bipush 24, 2) := by decide +kernel
theorem dX7_grow_116 : decode cX7_grow 116 = .ok (.if_icmp .ge 47, 3) := by decide +kernel
theorem dX7_grow_119 : decode cX7_grow 119 = .ok (.aload_n 0, 1) := by decide +kernel
theorem dX7_grow_120 : decode cX7_grow 120 = .ok (.iload 8, 2) := by decide +kernel
theorem dX7_grow_122 : decode cX7_grow 122 = .ok (.iload 9, 2) := by decide +kernel
theorem dX7_grow_124 : decode cX7_grow 124 = .ok (.iload 11, 2) := by decide +kernel
theorem dX7_grow_126 : decode cX7_grow 126 = .ok (.iload 10, 2) := by decide +kernel
theorem dX7_grow_128 : decode cX7_grow 128 = .ok (.aload_n 0, 1) := by decide +kernel
theorem dX7_grow_129 : decode cX7_grow 129 = .ok (.getfield 10, 3) := by decide +kernel
theorem dX7_grow_132 : decode cX7_grow 132 = .ok (.getfield 86, 3) := by decide +kernel
theorem dX7_grow_135 : decode cX7_grow 135 = .ok (.invokestatic 176, 3) := by decide +kernel
theorem dX7_grow_138 : decode cX7_grow 138 = .ok (.iconst (-1), 1) := by decide +kernel
theorem dX7_grow_139 : decode cX7_grow 139 = .ok (.invokevirtual 180, 3) := by decide +kernel
theorem dX7_grow_142 : decode cX7_grow 142 = .ok (.ifCond .eq 21, 3) := by decide +kernel
theorem dX7_grow_145 : decode cX7_grow 145 = .ok (.aload_n 0, 1) := by decide +kernel
theorem dX7_grow_146 : decode cX7_grow 146 = .ok (.getfield 10, 3) := by decide +kernel
theorem dX7_grow_149 : decode cX7_grow 149 = .ok (.iload 8, 2) := by decide +kernel
theorem dX7_grow_151 : decode cX7_grow 151 = .ok (.iload 9, 2) := by decide +kernel
theorem dX7_grow_153 : decode cX7_grow 153 = .ok (.iload 11, 2) := by decide +kernel
theorem dX7_grow_155 : decode cX7_grow 155 = .ok (.iload 10, 2) := by decide +kernel
theorem dX7_grow_157 : decode cX7_grow 157 = .ok (.invokevirtual 247, 3) := by decide +kernel
theorem dX7_grow_160 : decode cX7_grow 160 = .ok (.iinc 3 1, 3) := by decide +kernel
theorem dX7_grow_163 : decode cX7_grow 163 = .ok (.iinc 5 1, 3) := by decide +kernel
theorem dX7_grow_166 : decode cX7_grow 166 = .ok (.goto (-145), 3) := by decide +kernel
theorem dX7_grow_169 : decode cX7_grow 169 = .ok (.iload_n 3, 1) := by decide +kernel
theorem dX7_grow_170 : decode cX7_grow 170 = .ok (.ireturn, 1) := by decide +kernel
set_option maxRecDepth 20000 in
theorem ggX7_keep_X5_takeFrom : GoodIn wsX7_keep wsX5_takeFrom := goodIn_r _ [8, 9, 10, 11, 12, 13, 14, 15, 16, 17, 18, 19, 20, 31, 32, 33, 34, 35, 36, 37, 38] (by decide +kernel) (by decide +kernel)
set_option maxRecDepth 20000 in
theorem gX7_keep_X5_takeFrom : GoodIn wsX7_keep (wsV RX7 100 RX5 yX5_takeFrom wsX5_takeFrom) := goodIn_app (goodIn_of _ (by decide +kernel)) ggX7_keep_X5_takeFrom
theorem dX7_keep_0 : decode cX7_keep 0 = .ok (.iload_n 1, 1) := by decide +kernel
theorem dX7_keep_1 : decode cX7_keep 1 = .ok (.ifCond .lt 8, 3) := by decide +kernel
theorem dX7_keep_4 : decode cX7_keep 4 = .ok (.iload_n 1, 1) := by decide +kernel
theorem dX7_keep_5 : decode cX7_keep 5 = .ok (.iconst 2, 1) := by decide +kernel
theorem dX7_keep_6 : decode cX7_keep 6 = .ok (.if_icmp .lt 5, 3) := by decide +kernel
theorem dX7_keep_9 : decode cX7_keep 9 = .ok (.iconst (-1), 1) := by decide +kernel
theorem dX7_keep_10 : decode cX7_keep 10 = .ok (.ireturn, 1) := by decide +kernel
theorem dX7_keep_11 : decode cX7_keep 11 = .ok (.aload_n 0, 1) := by decide +kernel
theorem dX7_keep_12 : decode cX7_keep 12 = .ok (.getfield 20, 3) := by decide +kernel
theorem dX7_keep_15 : decode cX7_keep 15 = .ok (.iload_n 1, 1) := by decide +kernel
theorem dX7_keep_16 : decode cX7_keep 16 = .ok (.baload, 1) := by decide +kernel
theorem dX7_keep_17 : decode cX7_keep 17 = .ok (.ifCond .eq 7, 3) := by decide +kernel
theorem dX7_keep_20 : decode cX7_keep 20 = .ok (.iconst 1, 1) := by decide +kernel
theorem dX7_keep_21 : decode cX7_keep 21 = .ok (.goto 4, 3) := by decide +kernel
theorem dX7_keep_24 : decode cX7_keep 24 = .ok (.iconst 0, 1) := by decide +kernel
theorem dX7_keep_25 : decode cX7_keep 25 = .ok (.istore_n 2, 1) := by decide +kernel
theorem dX7_keep_26 : decode cX7_keep 26 = .ok (.aload_n 0, 1) := by decide +kernel
theorem dX7_keep_27 : decode cX7_keep 27 = .ok (.getfield 16, 3) := by decide +kernel
theorem dX7_keep_30 : decode cX7_keep 30 = .ok (.iload_n 1, 1) := by decide +kernel
theorem dX7_keep_31 : decode cX7_keep 31 = .ok (.aaload, 1) := by decide +kernel
theorem dX7_keep_32 : decode cX7_keep 32 = .ok (.aload_n 0, 1) := by decide +kernel
theorem dX7_keep_33 : decode cX7_keep 33 = .ok (.getfield 10, 3) := by decide +kernel
theorem dX7_keep_36 : decode cX7_keep 36 = .ok (.invokevirtual 100, 3) := by decide +kernel
theorem dX7_keep_39 : decode cX7_keep 39 = .ok (.aload_n 0, 1) := by decide +kernel
theorem dX7_keep_40 : decode cX7_keep 40 = .ok (.getfield 20, 3) := by decide +kernel
theorem dX7_keep_43 : decode cX7_keep 43 = .ok (.iload_n 1, 1) := by decide +kernel
theorem dX7_keep_44 : decode cX7_keep 44 = .ok (.iconst 1, 1) := by decide +kernel
theorem dX7_keep_45 : decode cX7_keep 45 = .ok (.bastore, 1) := by decide +kernel
theorem dX7_keep_46 : decode cX7_keep 46 = .ok (.iload_n 2, 1) := by decide +kernel
theorem dX7_keep_47 : decode cX7_keep 47 = .ok (.ireturn, 1) := by decide +kernel
set_option maxRecDepth 20000 in
theorem ggX7_back_X5_takeFrom : GoodIn wsX7_back wsX5_takeFrom := goodIn_r _ [9, 10, 11, 12, 13, 14, 15, 16, 17, 18, 19, 20, 21, 32, 33, 34, 35, 36, 37, 38, 39] (by decide +kernel) (by decide +kernel)
set_option maxRecDepth 20000 in
theorem gX7_back_X5_takeFrom : GoodIn wsX7_back (wsV RX7 100 RX5 yX5_takeFrom wsX5_takeFrom) := goodIn_app (goodIn_of _ (by decide +kernel)) ggX7_back_X5_takeFrom
theorem dX7_back_0 : decode cX7_back 0 = .ok (.iload_n 1, 1) := by decide +kernel
theorem dX7_back_1 : decode cX7_back 1 = .ok (.ifCond .lt 8, 3) := by decide +kernel
theorem dX7_back_4 : decode cX7_back 4 = .ok (.iload_n 1, 1) := by decide +kernel
theorem dX7_back_5 : decode cX7_back 5 = .ok (.iconst 2, 1) := by decide +kernel
theorem dX7_back_6 : decode cX7_back 6 = .ok (.if_icmp .lt 5, 3) := by decide +kernel
theorem dX7_back_9 : decode cX7_back 9 = .ok (.iconst (-1), 1) := by decide +kernel
theorem dX7_back_10 : decode cX7_back 10 = .ok (.ireturn, 1) := by decide +kernel
theorem dX7_back_11 : decode cX7_back 11 = .ok (.aload_n 0, 1) := by decide +kernel
theorem dX7_back_12 : decode cX7_back 12 = .ok (.getfield 20, 3) := by decide +kernel
theorem dX7_back_15 : decode cX7_back 15 = .ok (.iload_n 1, 1) := by decide +kernel
theorem dX7_back_16 : decode cX7_back 16 = .ok (.baload, 1) := by decide +kernel
theorem dX7_back_17 : decode cX7_back 17 = .ok (.ifCond .ne 6, 3) := by decide +kernel
theorem dX7_back_20 : decode cX7_back 20 = .ok (.bipush (-2), 2) := by decide +kernel
theorem dX7_back_22 : decode cX7_back 22 = .ok (.ireturn, 1) := by decide +kernel
theorem dX7_back_23 : decode cX7_back 23 = .ok (.aload_n 0, 1) := by decide +kernel
theorem dX7_back_24 : decode cX7_back 24 = .ok (.getfield 10, 3) := by decide +kernel
theorem dX7_back_27 : decode cX7_back 27 = .ok (.aload_n 0, 1) := by decide +kernel
theorem dX7_back_28 : decode cX7_back 28 = .ok (.getfield 16, 3) := by decide +kernel
theorem dX7_back_31 : decode cX7_back 31 = .ok (.iload_n 1, 1) := by decide +kernel
theorem dX7_back_32 : decode cX7_back 32 = .ok (.aaload, 1) := by decide +kernel
theorem dX7_back_33 : decode cX7_back 33 = .ok (.invokevirtual 100, 3) := by decide +kernel
theorem dX7_back_36 : decode cX7_back 36 = .ok (.aload_n 0, 1) := by decide +kernel
theorem dX7_back_37 : decode cX7_back 37 = .ok (.getfield 10, 3) := by decide +kernel
theorem dX7_back_40 : decode cX7_back 40 = .ok (.getfield 108, 3) := by decide +kernel
theorem dX7_back_43 : decode cX7_back 43 = .ok (.ireturn, 1) := by decide +kernel
set_option maxRecDepth 20000 in
theorem ggX7_sheet_X3_renew : GoodIn wsX7_sheet wsX3_renew := goodIn_r _ [6, 7, 8, 9, 10, 11, 12, 13, 24, 25, 26] (by decide +kernel) (by decide +kernel)
set_option maxRecDepth 20000 in
theorem gX7_sheet_X3_renew : GoodIn wsX7_sheet (wsV RX7 251 RX3 yX3_renew wsX3_renew) := goodIn_app (goodIn_of _ (by decide +kernel)) ggX7_sheet_X3_renew
theorem dX7_sheet_0 : decode cX7_sheet 0 = .ok (.iload_n 1, 1) := by decide +kernel
theorem dX7_sheet_1 : decode cX7_sheet 1 = .ok (.ifCond .lt 23, 3) := by decide +kernel
theorem dX7_sheet_4 : decode cX7_sheet 4 = .ok (.iload_n 1, 1) := by decide +kernel
theorem dX7_sheet_5 : decode cX7_sheet 5 = .ok (.iconst 4, 1) := by decide +kernel
theorem dX7_sheet_6 : decode cX7_sheet 6 = .ok (.if_icmp .ge 18, 3) := by decide +kernel
theorem dX7_sheet_9 : decode cX7_sheet 9 = .ok (.iload_n 2, 1) := by decide +kernel
theorem dX7_sheet_10 : decode cX7_sheet 10 = .ok (.ifCond .lt 14, 3) := by decide +kernel
theorem dX7_sheet_13 : decode cX7_sheet 13 = .ok (.iload_n 2, 1) := by decide +kernel
theorem dX7_sheet_14 : decode cX7_sheet 14 = .ok (.iconst 3, 1) := by decide +kernel
theorem dX7_sheet_15 : decode cX7_sheet 15 = .ok (.if_icmp .ge 9, 3) := by decide +kernel
theorem dX7_sheet_18 : decode cX7_sheet 18 = .ok (.iload_n 3, 1) := by decide +kernel
theorem dX7_sheet_19 : decode cX7_sheet 19 = .ok (.bipush 40, 2) := by decide +kernel
theorem dX7_sheet_21 : decode cX7_sheet 21 = .ok (.if_icmp .le 5, 3) := by decide +kernel
theorem dX7_sheet_24 : decode cX7_sheet 24 = .ok (.iconst (-1), 1) := by decide +kernel
theorem dX7_sheet_25 : decode cX7_sheet 25 = .ok (.ireturn, 1) := by decide +kernel
theorem dX7_sheet_26 : decode cX7_sheet 26 = .ok (.iload_n 3, 1) := by decide +kernel
theorem dX7_sheet_27 : decode cX7_sheet 27 = .ok (.ifCond .ge 6, 3) := by decide +kernel
theorem dX7_sheet_30 : decode cX7_sheet 30 = .ok (.bipush (-14), 2) := by decide +kernel
theorem dX7_sheet_32 : decode cX7_sheet 32 = .ok (.ireturn, 1) := by decide +kernel
theorem dX7_sheet_33 : decode cX7_sheet 33 = .ok (.aload_n 0, 1) := by decide +kernel
theorem dX7_sheet_34 : decode cX7_sheet 34 = .ok (.getfield 26, 3) := by decide +kernel
theorem dX7_sheet_37 : decode cX7_sheet 37 = .ok (.iload_n 1, 1) := by decide +kernel
theorem dX7_sheet_38 : decode cX7_sheet 38 = .ok (.aaload, 1) := by decide +kernel
theorem dX7_sheet_39 : decode cX7_sheet 39 = .ok (.iload_n 2, 1) := by decide +kernel
theorem dX7_sheet_40 : decode cX7_sheet 40 = .ok (.iload_n 3, 1) := by decide +kernel
theorem dX7_sheet_41 : decode cX7_sheet 41 = .ok (.invokevirtual 251, 3) := by decide +kernel
theorem dX7_sheet_44 : decode cX7_sheet 44 = .ok (.iconst 1, 1) := by decide +kernel
theorem dX7_sheet_45 : decode cX7_sheet 45 = .ok (.ireturn, 1) := by decide +kernel
set_option maxRecDepth 20000 in
theorem ggX7_lay_X3_faultAt : GoodIn wsX7_lay wsX3_faultAt := goodIn_r _ [7, 8, 9, 25, 26, 27] (by decide +kernel) (by decide +kernel)
set_option maxRecDepth 20000 in
theorem gX7_lay_X3_faultAt : GoodIn wsX7_lay (wsV RX7 257 RX3 yX3_faultAt wsX3_faultAt) := goodIn_app (goodIn_of _ (by decide +kernel)) ggX7_lay_X3_faultAt
set_option maxRecDepth 20000 in
theorem ggX7_lay_X3_put : GoodIn wsX7_lay wsX3_put := goodIn_r _ [13, 8, 14, 25, 26, 27] (by decide +kernel) (by decide +kernel)
set_option maxRecDepth 20000 in
theorem gX7_lay_X3_put : GoodIn wsX7_lay (wsV RX7 261 RX3 yX3_put wsX3_put) := goodIn_app (goodIn_of _ (by decide +kernel)) ggX7_lay_X3_put
theorem dX7_lay_0 : decode cX7_lay 0 = .ok (.iload_n 1, 1) := by decide +kernel
theorem dX7_lay_1 : decode cX7_lay 1 = .ok (.ifCond .lt 8, 3) := by decide +kernel
theorem dX7_lay_4 : decode cX7_lay 4 = .ok (.iload_n 1, 1) := by decide +kernel
theorem dX7_lay_5 : decode cX7_lay 5 = .ok (.iconst 4, 1) := by decide +kernel
theorem dX7_lay_6 : decode cX7_lay 6 = .ok (.if_icmp .lt 5, 3) := by decide +kernel
theorem dX7_lay_9 : decode cX7_lay 9 = .ok (.iconst (-1), 1) := by decide +kernel
theorem dX7_lay_10 : decode cX7_lay 10 = .ok (.ireturn, 1) := by decide +kernel
theorem dX7_lay_11 : decode cX7_lay 11 = .ok (.aload_n 0, 1) := by decide +kernel
theorem dX7_lay_12 : decode cX7_lay 12 = .ok (.getfield 26, 3) := by decide +kernel
theorem dX7_lay_15 : decode cX7_lay 15 = .ok (.iload_n 1, 1) := by decide +kernel
theorem dX7_lay_16 : decode cX7_lay 16 = .ok (.aaload, 1) := by decide +kernel
theorem dX7_lay_17 : decode cX7_lay 17 = .ok (.astore 4, 2) := by decide +kernel
theorem dX7_lay_19 : decode cX7_lay 19 = .ok (.aload 4, 2) := by decide +kernel
theorem dX7_lay_21 : decode cX7_lay 21 = .ok (.aload 4, 2) := by decide +kernel
theorem dX7_lay_23 : decode cX7_lay 23 = .ok (.getfield 254, 3) := by decide +kernel
theorem dX7_lay_26 : decode cX7_lay 26 = .ok (.iload_n 2, 1) := by decide +kernel
theorem dX7_lay_27 : decode cX7_lay 27 = .ok (.i2l, 1) := by decide +kernel
theorem dX7_lay_28 : decode cX7_lay 28 = .ok (.iconst 1, 1) := by decide +kernel
theorem dX7_lay_29 : decode cX7_lay 29 = .ok (.invokevirtual 257, 3) := by decide +kernel
theorem dX7_lay_32 : decode cX7_lay 32 = .ok (.istore 5, 2) := by decide +kernel
theorem dX7_lay_34 : decode cX7_lay 34 = .ok (.iload 5, 2) := by decide +kernel
theorem dX7_lay_36 : decode cX7_lay 36 = .ok (.ifCond .eq 9, 3) := by decide +kernel
theorem dX7_lay_39 : decode cX7_lay 39 = .ok (.bipush (-10), 2) := by decide +kernel
theorem dX7_lay_41 : decode cX7_lay 41 = .ok (.iload 5, 2) := by decide +kernel
theorem dX7_lay_43 : decode cX7_lay 43 = .ok (.isub, 1) := by decide +kernel
theorem dX7_lay_44 : decode cX7_lay 44 = .ok (.ireturn, 1) := by decide +kernel
theorem dX7_lay_45 : decode cX7_lay 45 = .ok (.aload 4, 2) := by decide +kernel
theorem dX7_lay_47 : decode cX7_lay 47 = .ok (.iload_n 2, 1) := by decide +kernel
theorem dX7_lay_48 : decode cX7_lay 48 = .ok (.iload_n 3, 1) := by decide +kernel
theorem dX7_lay_49 : decode cX7_lay 49 = .ok (.invokevirtual 261, 3) := by decide +kernel
theorem dX7_lay_52 : decode cX7_lay 52 = .ok (.iconst 1, 1) := by decide +kernel
theorem dX7_lay_53 : decode cX7_lay 53 = .ok (.ireturn, 1) := by decide +kernel
set_option maxRecDepth 20000 in
theorem ggX7_read_X3_faultAt : GoodIn wsX7_read wsX3_faultAt := goodIn_r _ [11, 12, 13, 128, 129, 130] (by decide +kernel) (by decide +kernel)
set_option maxRecDepth 20000 in
theorem gX7_read_X3_faultAt : GoodIn wsX7_read (wsV RX7 257 RX3 yX3_faultAt wsX3_faultAt) := goodIn_app (goodIn_of _ (by decide +kernel)) ggX7_read_X3_faultAt
set_option maxRecDepth 20000 in
theorem ggX7_read_X3_cellAt : GoodIn wsX7_read wsX3_cellAt := goodIn_r _ [17, 13, 18, 128, 129, 130] (by decide +kernel) (by decide +kernel)
set_option maxRecDepth 20000 in
theorem gX7_read_X3_cellAt : GoodIn wsX7_read (wsV RX7 264 RX3 yX3_cellAt wsX3_cellAt) := goodIn_app (goodIn_of _ (by decide +kernel)) ggX7_read_X3_cellAt
set_option maxRecDepth 20000 in
theorem ggX7_read_X7_join : GoodIn wsX7_read wsX7_join := goodIn_r _ [23, 2, 3, 24, 25, 26, 27, 22, 28, 29, 30, 31, 32, 33, 34, 35, 36, 37, 38, 39, 40, 41, 42, 43, 44, 45, 46, 47, 48, 49, 50, 51, 52, 53, 54, 55, 56, 57, 58, 59, 60, 61, 62, 63, 64, 65, 66, 67, 68, 69, 70, 71, 72, 73, 74, 75, 76, 77, 78, 79, 80, 81, 82, 83, 84, 85, 86, 87, 88, 89, 90, 91, 92, 93, 94, 95, 96, 97, 98, 99, 100, 101, 102, 103, 104, 105, 106, 107, 108, 109, 110, 111, 112, 113, 114, 115, 116, 117, 118, 119, 120, 121, 122, 123, 124, 125, 126, 127, 131, 132, 133, 134, 135] (by decide +kernel) (by decide +kernel)
set_option maxRecDepth 20000 in
theorem gX7_read_X7_join : GoodIn wsX7_read (wsV RX7 169 RX7 yX7_join wsX7_join) := goodIn_app (goodIn_of _ (by decide +kernel)) ggX7_read_X7_join
theorem dX7_read_0 : decode cX7_read 0 = .ok (.iload_n 1, 1) := by decide +kernel
theorem dX7_read_1 : decode cX7_read 1 = .ok (.ifCond .lt 29, 3) := by decide +kernel
theorem dX7_read_4 : decode cX7_read 4 = .ok (.iload_n 1, 1) := by decide +kernel
theorem dX7_read_5 : decode cX7_read 5 = .ok (.iconst 4, 1) := by decide +kernel
theorem dX7_read_6 : decode cX7_read 6 = .ok (.if_icmp .ge 24, 3) := by decide +kernel
theorem dX7_read_9 : decode cX7_read 9 = .ok (.iload_n 2, 1) := by decide +kernel
theorem dX7_read_10 : decode cX7_read 10 = .ok (.ifCond .lt 20, 3) := by decide +kernel
theorem dX7_read_13 : decode cX7_read 13 = .ok (.iload_n 2, 1) := by decide +kernel
theorem dX7_read_14 : decode cX7_read 14 = .ok (.iconst 3, 1) := by decide +kernel
theorem dX7_read_15 : decode cX7_read 15 = .ok (.if_icmp .ge 15, 3) := by decide +kernel
theorem dX7_read_18 : decode cX7_read 18 = .ok (.iload 4, 2) := by decide +kernel
theorem dX7_read_20 : decode cX7_read 20 = .ok (.ifCond .lt 10, 3) := by decide +kernel
theorem dX7_read_23 : decode cX7_read 23 = .ok (.iload 4, 2) := by decide +kernel
theorem dX7_read_25 : decode cX7_read 25 = .ok (.bipush 10, 2) := by decide +kernel
theorem dX7_read_27 : decode cX7_read 27 = .ok (.if_icmp .le 5, 3) := by decide +kernel
theorem dX7_read_30 : decode cX7_read 30 = .ok (.iconst (-1), 1) := by decide +kernel
theorem dX7_read_31 : decode cX7_read 31 = .ok (.ireturn, 1) := by decide +kernel
theorem dX7_read_32 : decode cX7_read 32 = .ok (.aload_n 0, 1) := by decide +kernel
theorem dX7_read_33 : decode cX7_read 33 = .ok (.getfield 26, 3) := by decide +kernel
theorem dX7_read_36 : decode cX7_read 36 = .ok (.iload_n 1, 1) := by decide +kernel
theorem dX7_read_37 : decode cX7_read 37 = .ok (.aaload, 1) := by decide +kernel
theorem dX7_read_38 : decode cX7_read 38 = .ok (.astore 5, 2) := by decide +kernel
theorem dX7_read_40 : decode cX7_read 40 = .ok (.aload_n 0, 1) := by decide +kernel
theorem dX7_read_41 : decode cX7_read 41 = .ok (.getfield 10, 3) := by decide +kernel
theorem dX7_read_44 : decode cX7_read 44 = .ok (.getfield 108, 3) := by decide +kernel
theorem dX7_read_47 : decode cX7_read 47 = .ok (.istore 6, 2) := by decide +kernel
theorem dX7_read_49 : decode cX7_read 49 = .ok (.iconst 0, 1) := by decide +kernel
theorem dX7_read_50 : decode cX7_read 50 = .ok (.istore 7, 2) := by decide +kernel
theorem dX7_read_52 : decode cX7_read 52 = .ok (.iconst 0, 1) := by decide +kernel
theorem dX7_read_53 : decode cX7_read 53 = .ok (.istore 8, 2) := by decide +kernel
theorem dX7_read_55 : decode cX7_read 55 = .ok (.iload 8, 2) := by decide +kernel
theorem dX7_read_57 : decode cX7_read 57 = .ok (.iload 4, 2) := by decide +kernel
theorem dX7_read_59 : decode cX7_read 59 = .ok (.if_icmp .ge 100, 3) := by decide +kernel
theorem dX7_read_62 : decode cX7_read 62 = .ok (.iload 7, 2) := by decide +kernel
theorem dX7_read_64 : decode cX7_read 64 = .ok (.ifCond .ne 95, 3) := by decide +kernel
theorem dX7_read_67 : decode cX7_read 67 = .ok (.iload_n 3, 1) := by decide +kernel
theorem dX7_read_68 : decode cX7_read 68 = .ok (.i2l, 1) := by decide +kernel
theorem dX7_read_69 : decode cX7_read 69 = .ok (.iconst 4, 1) := by decide +kernel
theorem dX7_read_70 : decode cX7_read 70 = .ok (.iload 8, 2) := by decide +kernel
theorem dX7_read_72 : decode cX7_read 72 = .ok (.imul, 1) := by decide +kernel
theorem dX7_read_73 : decode cX7_read 73 = .ok (.i2l, 1) := by decide +kernel
theorem dX7_read_74 : decode cX7_read 74 = .ok (.ladd, 1) := by decide +kernel
theorem dX7_read_75 : decode cX7_read 75 = .ok (.lstore 9, 2) := by decide +kernel
theorem dX7_read_77 : decode cX7_read 77 = .ok (.aload 5, 2) := by decide +kernel
theorem dX7_read_79 : decode cX7_read 79 = .ok (.iload_n 2, 1) := by decide +kernel
theorem dX7_read_80 : decode cX7_read 80 = .ok (.lload 9, 2) := by decide +kernel
theorem dX7_read_82 : decode cX7_read 82 = .ok (.iconst 4, 1) := by decide +kernel
theorem dX7_read_83 : decode cX7_read 83 = .ok (.invokevirtual 257, 3) := by decide +kernel
theorem dX7_read_86 : decode cX7_read 86 = .ok (.istore 7, 2) := by decide +kernel
theorem dX7_read_88 : decode cX7_read 88 = .ok (.iload 7, 2) := by decide +kernel
theorem dX7_read_90 : decode cX7_read 90 = .ok (.ifCond .ne 63, 3) := by decide +kernel
theorem dX7_read_93 : decode cX7_read 93 = .ok (.aload_n 0, 1) := by decide +kernel
theorem dX7_read_94 : decode cX7_read 94 = .ok (.aload 5, 2) := by decide +kernel
theorem dX7_read_96 : decode cX7_read 96 = .ok (.lload 9, 2) := by decide +kernel
theorem dX7_read_98 : decode cX7_read 98 = .ok (.invokevirtual 264, 3) := by decide +kernel
theorem dX7_read_101 : decode cX7_read 101 = .ok (.aload 5, 2) := by decide +kernel
theorem dX7_read_103 : decode cX7_read 103 = .ok (.lload 9, 2) := by decide +kernel
theorem dX7_read_105 : decode cX7_read 105 = .ok (.lconst 1, 1) := by decide +kernel
theorem dX7_read_106 : decode cX7_read 106 = .ok (.ladd, 1) := by decide +kernel
theorem dX7_read_107 : decode cX7_read 107 = .ok (.invokevirtual 264, 3) := by decide +kernel
theorem dX7_read_110 : decode cX7_read 110 = .ok (.aload 5, 2) := by decide +kernel
