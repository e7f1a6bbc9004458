theorem dX8_isNeedless_23 : decode cX8_isNeedless 23 = .ok (.getfield 7, 3) := by decide +kernel
theorem dX8_isNeedless_26 : decode cX8_isNeedless 26 = .ok (.iload_n 1, 1) := by decide +kernel
theorem dX8_isNeedless_27 : decode cX8_isNeedless 27 = .ok (.iaload, 1) := by decide +kernel
theorem dX8_isNeedless_28 : decode cX8_isNeedless 28 = .ok (.iadd, 1) := by decide +kernel
theorem dX8_isNeedless_29 : decode cX8_isNeedless 29 = .ok (.laload, 1) := by decide +kernel
theorem dX8_isNeedless_30 : decode cX8_isNeedless 30 = .ok (.aload_n 0, 1) := by decide +kernel
theorem dX8_isNeedless_31 : decode cX8_isNeedless 31 = .ok (.iconst 0, 1) := by decide +kernel
theorem dX8_isNeedless_32 : decode cX8_isNeedless 32 = .ok (.iload_n 1, 1) := by decide +kernel
theorem dX8_isNeedless_33 : decode cX8_isNeedless 33 = .ok (.invokevirtual 153, 3) := by decide +kernel
theorem dX8_isNeedless_36 : decode cX8_isNeedless 36 = .ok (.lcmp, 1) := by decide +kernel
theorem dX8_isNeedless_37 : decode cX8_isNeedless 37 = .ok (.ifCond .gt 7, 3) := by decide +kernel
theorem dX8_isNeedless_40 : decode cX8_isNeedless 40 = .ok (.iconst 1, 1) := by decide +kernel
theorem dX8_isNeedless_41 : decode cX8_isNeedless 41 = .ok (.goto 4, 3) := by decide +kernel
theorem dX8_isNeedless_44 : decode cX8_isNeedless 44 = .ok (.iconst 0, 1) := by decide +kernel
theorem dX8_isNeedless_45 : decode cX8_isNeedless 45 = .ok (.ireturn, 1) := by decide +kernel
theorem dX8_pairOf_0 : decode cX8_pairOf 0 = .ok (.bipush 10, 2) := by decide +kernel
theorem dX8_pairOf_2 : decode cX8_pairOf 2 = .ok (.aload_n 0, 1) := by decide +kernel
theorem dX8_pairOf_3 : decode cX8_pairOf 3 = .ok (.getfield 7, 3) := by decide +kernel
theorem dX8_pairOf_6 : decode cX8_pairOf 6 = .ok (.iload_n 1, 1) := by decide +kernel
theorem dX8_pairOf_7 : decode cX8_pairOf 7 = .ok (.iaload, 1) := by decide +kernel
theorem dX8_pairOf_8 : decode cX8_pairOf 8 = .ok (.imul, 1) := by decide +kernel
theorem dX8_pairOf_9 : decode cX8_pairOf 9 = .ok (.aload_n 0, 1) := by decide +kernel
theorem dX8_pairOf_10 : decode cX8_pairOf 10 = .ok (.getfield 7, 3) := by decide +kernel
theorem dX8_pairOf_13 : decode cX8_pairOf 13 = .ok (.bipush 24, 2) := by decide +kernel
theorem dX8_pairOf_15 : decode cX8_pairOf 15 = .ok (.iload_n 1, 1) := by decide +kernel
theorem dX8_pairOf_16 : decode cX8_pairOf 16 = .ok (.iadd, 1) := by decide +kernel
theorem dX8_pairOf_17 : decode cX8_pairOf 17 = .ok (.iaload, 1) := by decide +kernel
theorem dX8_pairOf_18 : decode cX8_pairOf 18 = .ok (.iadd, 1) := by decide +kernel
theorem dX8_pairOf_19 : decode cX8_pairOf 19 = .ok (.ireturn, 1) := by decide +kernel
set_option maxRecDepth 20000 in
theorem ggX8_isFirstPair_X8_pairOf : GoodIn wsX8_isFirstPair wsX8_pairOf := goodIn_r _ [5, 6, 7, 8, 9, 10, 11, 12, 13, 14, 15, 16, 17, 18, 19, 20, 21, 22, 23, 24, 25, 26, 27, 28, 29] (by decide +kernel) (by decide +kernel)
set_option maxRecDepth 20000 in
theorem gX8_isFirstPair_X8_pairOf : GoodIn wsX8_isFirstPair (wsV RX8 168 RX8 yX8_pairOf wsX8_pairOf) := goodIn_app (goodIn_of _ (by decide +kernel)) ggX8_isFirstPair_X8_pairOf
theorem dX8_isFirstPair_0 : decode cX8_isFirstPair 0 = .ok (.iconst 1, 1) := by decide +kernel
theorem dX8_isFirstPair_1 : decode cX8_isFirstPair 1 = .ok (.istore_n 2, 1) := by decide +kernel
theorem dX8_isFirstPair_2 : decode cX8_isFirstPair 2 = .ok (.iconst 0, 1) := by decide +kernel
theorem dX8_isFirstPair_3 : decode cX8_isFirstPair 3 = .ok (.istore_n 3, 1) := by decide +kernel
theorem dX8_isFirstPair_4 : decode cX8_isFirstPair 4 = .ok (.iload_n 3, 1) := by decide +kernel
theorem dX8_isFirstPair_5 : decode cX8_isFirstPair 5 = .ok (.iload_n 1, 1) := by decide +kernel
theorem dX8_isFirstPair_6 : decode cX8_isFirstPair 6 = .ok (.if_icmp .ge 32, 3) := by decide +kernel
theorem dX8_isFirstPair_9 : decode cX8_isFirstPair 9 = .ok (.iload_n 2, 1) := by decide +kernel
theorem dX8_isFirstPair_10 : decode cX8_isFirstPair 10 = .ok (.ifCond .eq 20, 3) := by decide +kernel
theorem dX8_isFirstPair_13 : decode cX8_isFirstPair 13 = .ok (.aload_n 0, 1) := by decide +kernel
theorem dX8_isFirstPair_14 : decode cX8_isFirstPair 14 = .ok (.iload_n 3, 1) := by decide +kernel
theorem dX8_isFirstPair_15 : decode cX8_isFirstPair 15 = .ok (.invokevirtual 168, 3) := by decide +kernel
theorem dX8_isFirstPair_18 : decode cX8_isFirstPair 18 = .ok (.aload_n 0, 1) := by decide +kernel
theorem dX8_isFirstPair_19 : decode cX8_isFirstPair 19 = .ok (.iload_n 1, 1) := by decide +kernel
theorem dX8_isFirstPair_20 : decode cX8_isFirstPair 20 = .ok (.invokevirtual 168, 3) := by decide +kernel
theorem dX8_isFirstPair_23 : decode cX8_isFirstPair 23 = .ok (.if_icmp .eq 7, 3) := by decide +kernel
theorem dX8_isFirstPair_26 : decode cX8_isFirstPair 26 = .ok (.iconst 1, 1) := by decide +kernel
theorem dX8_isFirstPair_27 : decode cX8_isFirstPair 27 = .ok (.goto 4, 3) := by decide +kernel
theorem dX8_isFirstPair_30 : decode cX8_isFirstPair 30 = .ok (.iconst 0, 1) := by decide +kernel
theorem dX8_isFirstPair_31 : decode cX8_isFirstPair 31 = .ok (.istore_n 2, 1) := by decide +kernel
theorem dX8_isFirstPair_32 : decode cX8_isFirstPair 32 = .ok (.iinc 3 1, 3) := by decide +kernel
theorem dX8_isFirstPair_35 : decode cX8_isFirstPair 35 = .ok (.goto (-31), 3) := by decide +kernel
theorem dX8_isFirstPair_38 : decode cX8_isFirstPair 38 = .ok (.iload_n 2, 1) := by decide +kernel
theorem dX8_isFirstPair_39 : decode cX8_isFirstPair 39 = .ok (.ireturn, 1) := by decide +kernel
theorem dX8_isFirstLimit_0 : decode cX8_isFirstLimit 0 = .ok (.iconst 1, 1) := by decide +kernel
theorem dX8_isFirstLimit_1 : decode cX8_isFirstLimit 1 = .ok (.istore_n 2, 1) := by decide +kernel
theorem dX8_isFirstLimit_2 : decode cX8_isFirstLimit 2 = .ok (.iconst 0, 1) := by decide +kernel
theorem dX8_isFirstLimit_3 : decode cX8_isFirstLimit 3 = .ok (.istore_n 3, 1) := by decide +kernel
theorem dX8_isFirstLimit_4 : decode cX8_isFirstLimit 4 = .ok (.iload_n 3, 1) := by decide +kernel
theorem dX8_isFirstLimit_5 : decode cX8_isFirstLimit 5 = .ok (.iload_n 1, 1) := by decide +kernel
theorem dX8_isFirstLimit_6 : decode cX8_isFirstLimit 6 = .ok (.if_icmp .ge 40, 3) := by decide +kernel
theorem dX8_isFirstLimit_9 : decode cX8_isFirstLimit 9 = .ok (.iload_n 2, 1) := by decide +kernel
theorem dX8_isFirstLimit_10 : decode cX8_isFirstLimit 10 = .ok (.ifCond .eq 28, 3) := by decide +kernel
theorem dX8_isFirstLimit_13 : decode cX8_isFirstLimit 13 = .ok (.aload_n 0, 1) := by decide +kernel
theorem dX8_isFirstLimit_14 : decode cX8_isFirstLimit 14 = .ok (.getfield 7, 3) := by decide +kernel
theorem dX8_isFirstLimit_17 : decode cX8_isFirstLimit 17 = .ok (.bipush 48, 2) := by decide +kernel
theorem dX8_isFirstLimit_19 : decode cX8_isFirstLimit 19 = .ok (.iload_n 3, 1) := by decide +kernel
theorem dX8_isFirstLimit_20 : decode cX8_isFirstLimit 20 = .ok (.iadd, 1) := by decide +kernel
theorem dX8_isFirstLimit_21 : decode cX8_isFirstLimit 21 = .ok (.iaload, 1) := by decide +kernel
theorem dX8_isFirstLimit_22 : decode cX8_isFirstLimit 22 = .ok (.aload_n 0, 1) := by decide +kernel
theorem dX8_isFirstLimit_23 : decode cX8_isFirstLimit 23 = .ok (.getfield 7, 3) := by decide +kernel
theorem dX8_isFirstLimit_26 : decode cX8_isFirstLimit 26 = .ok (.bipush 48, 2) := by decide +kernel
theorem dX8_isFirstLimit_28 : decode cX8_isFirstLimit 28 = .ok (.iload_n 1, 1) := by decide +kernel
theorem dX8_isFirstLimit_29 : decode cX8_isFirstLimit 29 = .ok (.iadd, 1) := by decide +kernel
theorem dX8_isFirstLimit_30 : decode cX8_isFirstLimit 30 = .ok (.iaload, 1) := by decide +kernel
theorem dX8_isFirstLimit_31 : decode cX8_isFirstLimit 31 = .ok (.if_icmp .eq 7, 3) := by decide +kernel
theorem dX8_isFirstLimit_34 : decode cX8_isFirstLimit 34 = .ok (.iconst 1, 1) := by decide +kernel
theorem dX8_isFirstLimit_35 : decode cX8_isFirstLimit 35 = .ok (.goto 4, 3) := by decide +kernel
theorem dX8_isFirstLimit_38 : decode cX8_isFirstLimit 38 = .ok (.iconst 0, 1) := by decide +kernel
theorem dX8_isFirstLimit_39 : decode cX8_isFirstLimit 39 = .ok (.istore_n 2, 1) := by decide +kernel
theorem dX8_isFirstLimit_40 : decode cX8_isFirstLimit 40 = .ok (.iinc 3 1, 3) := by decide +kernel
theorem dX8_isFirstLimit_43 : decode cX8_isFirstLimit 43 = .ok (.goto (-39), 3) := by decide +kernel
theorem dX8_isFirstLimit_46 : decode cX8_isFirstLimit 46 = .ok (.iload_n 2, 1) := by decide +kernel
theorem dX8_isFirstLimit_47 : decode cX8_isFirstLimit 47 = .ok (.ireturn, 1) := by decide +kernel
set_option maxRecDepth 20000 in
theorem ggX8_ofBounds_X8_many : GoodIn wsX8_ofBounds wsX8_many := goodIn_r _ [6, 1, 37, 38, 39, 40, 41, 42, 43, 44, 45, 46, 47, 48, 49, 50, 51, 52, 53, 54, 55, 56, 57, 58, 59] (by decide +kernel) (by decide +kernel)
set_option maxRecDepth 20000 in
theorem gX8_ofBounds_X8_many : GoodIn wsX8_ofBounds (wsV RX8 160 RX8 yX8_many wsX8_many) := goodIn_app (goodIn_of _ (by decide +kernel)) ggX8_ofBounds_X8_many
set_option maxRecDepth 20000 in
theorem ggX8_ofBounds_X8_isFirstPair : GoodIn wsX8_ofBounds wsX8_isFirstPair := goodIn_r _ [10, 11, 12, 13, 5, 14, 1, 37, 38, 39, 40, 41, 42, 43, 44, 45, 46, 47, 48, 49, 50, 51, 52, 53, 54, 55, 56, 57, 58, 59] (by decide +kernel) (by decide +kernel)
set_option maxRecDepth 20000 in
theorem gX8_ofBounds_X8_isFirstPair : GoodIn wsX8_ofBounds (wsV RX8 171 RX8 yX8_isFirstPair wsX8_isFirstPair) := goodIn_app (goodIn_of _ (by decide +kernel)) ggX8_ofBounds_X8_isFirstPair
set_option maxRecDepth 20000 in
theorem ggX8_ofBounds_X8_isFirstLimit : GoodIn wsX8_ofBounds wsX8_isFirstLimit := goodIn_r _ [18, 1, 37, 38, 39, 40, 41, 42, 43, 44, 45, 46, 47, 48, 49, 50, 51, 52, 53, 54, 55, 56, 57, 58, 59] (by decide +kernel) (by decide +kernel)
set_option maxRecDepth 20000 in
theorem gX8_ofBounds_X8_isFirstLimit : GoodIn wsX8_ofBounds (wsV RX8 174 RX8 yX8_isFirstLimit wsX8_isFirstLimit) := goodIn_app (goodIn_of _ (by decide +kernel)) ggX8_ofBounds_X8_isFirstLimit
set_option maxRecDepth 20000 in
theorem ggX8_ofBounds_X8_isNeedless : GoodIn wsX8_ofBounds wsX8_isNeedless := goodIn_r _ [22, 23, 1, 24, 25, 26, 5, 27, 28, 29, 30, 31, 32, 33, 34, 35, 36, 37, 38, 39, 40, 41, 42, 43, 44, 45, 46, 47, 48, 49, 50, 51, 52, 53, 54, 55, 56, 57, 58, 59] (by decide +kernel) (by decide +kernel)
set_option maxRecDepth 20000 in
theorem gX8_ofBounds_X8_isNeedless : GoodIn wsX8_ofBounds (wsV RX8 177 RX8 yX8_isNeedless wsX8_isNeedless) := goodIn_app (goodIn_of _ (by decide +kernel)) ggX8_ofBounds_X8_isNeedless
theorem dX8_ofBounds_0 : decode cX8_ofBounds 0 = .ok (.iconst 0, 1) := by decide +kernel
theorem dX8_ofBounds_1 : decode cX8_ofBounds 1 = .ok (.istore_n 2, 1) := by decide +kernel
theorem dX8_ofBounds_2 : decode cX8_ofBounds 2 = .ok (.iconst 0, 1) := by decide +kernel
theorem dX8_ofBounds_3 : decode cX8_ofBounds 3 = .ok (.istore_n 3, 1) := by decide +kernel
theorem dX8_ofBounds_4 : decode cX8_ofBounds 4 = .ok (.iload_n 3, 1) := by decide +kernel
theorem dX8_ofBounds_5 : decode cX8_ofBounds 5 = .ok (.aload_n 0, 1) := by decide +kernel
theorem dX8_ofBounds_6 : decode cX8_ofBounds 6 = .ok (.invokevirtual 160, 3) := by decide +kernel
theorem dX8_ofBounds_9 : decode cX8_ofBounds 9 = .ok (.if_icmp .ge 81, 3) := by decide +kernel
theorem dX8_ofBounds_12 : decode cX8_ofBounds 12 = .ok (.iload_n 1, 1) := by decide +kernel
theorem dX8_ofBounds_13 : decode cX8_ofBounds 13 = .ok (.iconst 3, 1) := by decide +kernel
theorem dX8_ofBounds_14 : decode cX8_ofBounds 14 = .ok (.if_icmp .ne 11, 3) := by decide +kernel
theorem dX8_ofBounds_17 : decode cX8_ofBounds 17 = .ok (.aload_n 0, 1) := by decide +kernel
theorem dX8_ofBounds_18 : decode cX8_ofBounds 18 = .ok (.iload_n 3, 1) := by decide +kernel
theorem dX8_ofBounds_19 : decode cX8_ofBounds 19 = .ok (.invokevirtual 171, 3) := by decide +kernel
theorem dX8_ofBounds_22 : decode cX8_ofBounds 22 = .ok (.goto 47, 3) := by decide +kernel
theorem dX8_ofBounds_25 : decode cX8_ofBounds 25 = .ok (.iload_n 1, 1) := by decide +kernel
theorem dX8_ofBounds_26 : decode cX8_ofBounds 26 = .ok (.iconst 4, 1) := by decide +kernel
theorem dX8_ofBounds_27 : decode cX8_ofBounds 27 = .ok (.if_icmp .ne 11, 3) := by decide +kernel
theorem dX8_ofBounds_30 : decode cX8_ofBounds 30 = .ok (.aload_n 0, 1) := by decide +kernel
theorem dX8_ofBounds_31 : decode cX8_ofBounds 31 = .ok (.iload_n 3, 1) := by decide +kernel
theorem dX8_ofBounds_32 : decode cX8_ofBounds 32 = .ok (.invokevirtual 174, 3) := by decide +kernel
theorem dX8_ofBounds_35 : decode cX8_ofBounds 35 = .ok (.goto 34, 3) := by decide +kernel
theorem dX8_ofBounds_38 : decode cX8_ofBounds 38 = .ok (.iload_n 1, 1) := by decide +kernel
theorem dX8_ofBounds_39 : decode cX8_ofBounds 39 = .ok (.iconst 5, 1) := by decide +kernel
theorem dX8_ofBounds_40 : decode cX8_ofBounds 40 = .ok (.if_icmp .ne 11, 3) := by decide +kernel
theorem dX8_ofBounds_43 : decode cX8_ofBounds 43 = .ok (.aload_n 0, 1) := by decide +kernel
theorem dX8_ofBounds_44 : decode cX8_ofBounds 44 = .ok (.iload_n 3, 1) := by decide +kernel
theorem dX8_ofBounds_45 : decode cX8_ofBounds 45 = .ok (.invokevirtual 177, 3) := by decide +kernel
theorem dX8_ofBounds_48 : decode cX8_ofBounds 48 = .ok (.goto 21, 3) := by decide +kernel
theorem dX8_ofBounds_51 : decode cX8_ofBounds 51 = .ok (.aload_n 0, 1) := by decide +kernel
theorem dX8_ofBounds_52 : decode cX8_ofBounds 52 = .ok (.getfield 7, 3) := by decide +kernel
theorem dX8_ofBounds_55 : decode cX8_ofBounds 55 = .ok (.bipush 72, 2) := by decide +kernel
theorem dX8_ofBounds_57 : decode cX8_ofBounds 57 = .ok (.iload_n 3, 1) := by decide +kernel
theorem dX8_ofBounds_58 : decode cX8_ofBounds 58 = .ok (.iadd, 1) := by decide +kernel
theorem dX8_ofBounds_59 : decode cX8_ofBounds 59 = .ok (.iaload, 1) := by decide +kernel
theorem dX8_ofBounds_60 : decode cX8_ofBounds 60 = .ok (.iconst 1, 1) := by decide +kernel
theorem dX8_ofBounds_61 : decode cX8_ofBounds 61 = .ok (.if_icmp .ne 7, 3) := by decide +kernel
theorem dX8_ofBounds_64 : decode cX8_ofBounds 64 = .ok (.iconst 1, 1) := by decide +kernel
theorem dX8_ofBounds_65 : decode cX8_ofBounds 65 = .ok (.goto 4, 3) := by decide +kernel
theorem dX8_ofBounds_68 : decode cX8_ofBounds 68 = .ok (.iconst 0, 1) := by decide +kernel
theorem dX8_ofBounds_69 : decode cX8_ofBounds 69 = .ok (.istore 4, 2) := by decide +kernel
theorem dX8_ofBounds_71 : decode cX8_ofBounds 71 = .ok (.iload_n 2, 1) := by decide +kernel
theorem dX8_ofBounds_72 : decode cX8_ofBounds 72 = .ok (.iload 4, 2) := by decide +kernel
theorem dX8_ofBounds_74 : decode cX8_ofBounds 74 = .ok (.ifCond .eq 7, 3) := by decide +kernel
theorem dX8_ofBounds_77 : decode cX8_ofBounds 77 = .ok (.iconst 1, 1) := by decide +kernel
theorem dX8_ofBounds_78 : decode cX8_ofBounds 78 = .ok (.goto 4, 3) := by decide +kernel
theorem dX8_ofBounds_81 : decode cX8_ofBounds 81 = .ok (.iconst 0, 1) := by decide +kernel
theorem dX8_ofBounds_82 : decode cX8_ofBounds 82 = .ok (.iadd, 1) := by decide +kernel
theorem dX8_ofBounds_83 : decode cX8_ofBounds 83 = .ok (.istore_n 2, 1) := by decide +kernel
theorem dX8_ofBounds_84 : decode cX8_ofBounds 84 = .ok (.iinc 3 1, 3) := by decide +kernel
theorem dX8_ofBounds_87 : decode cX8_ofBounds 87 = .ok (.goto (-83), 3) := by decide +kernel
theorem dX8_ofBounds_90 : decode cX8_ofBounds 90 = .ok (.iload_n 2, 1) := by decide +kernel
theorem dX8_ofBounds_91 : decode cX8_ofBounds 91 = .ok (.ireturn, 1) := by decide +kernel
theorem dX8_isFixed_0 : decode cX8_isFixed 0 = .ok (.aload_n 0, 1) := by decide +kernel
theorem dX8_isFixed_1 : decode cX8_isFixed 1 = .ok (.getfield 22, 3) := by decide +kernel
theorem dX8_isFixed_4 : decode cX8_isFixed 4 = .ok (.bipush 10, 2) := by decide +kernel
theorem dX8_isFixed_6 : decode cX8_isFixed 6 = .ok (.iload_n 2, 1) := by decide +kernel
theorem dX8_isFixed_7 : decode cX8_isFixed 7 = .ok (.imul, 1) := by decide +kernel
theorem dX8_isFixed_8 : decode cX8_isFixed 8 = .ok (.iload_n 1, 1) := by decide +kernel
theorem dX8_isFixed_9 : decode cX8_isFixed 9 = .ok (.iadd, 1) := by decide +kernel
theorem dX8_isFixed_10 : decode cX8_isFixed 10 = .ok (.laload, 1) := by decide +kernel
theorem dX8_isFixed_11 : decode cX8_isFixed 11 = .ok (.lstore_n 3, 1) := by decide +kernel
theorem dX8_isFixed_12 : decode cX8_isFixed 12 = .ok (.aload_n 0, 1) := by decide +kernel
theorem dX8_isFixed_13 : decode cX8_isFixed 13 = .ok (.getfield 22, 3) := by decide +kernel
theorem dX8_isFixed_16 : decode cX8_isFixed 16 = .ok (.bipush 10, 2) := by decide +kernel
theorem dX8_isFixed_18 : decode cX8_isFixed 18 = .ok (.iload_n 1, 1) := by decide +kernel
theorem dX8_isFixed_19 : decode cX8_isFixed 19 = .ok (.imul, 1) := by decide +kernel
theorem dX8_isFixed_20 : decode cX8_isFixed 20 = .ok (.iload_n 2, 1) := by decide +kernel
theorem dX8_isFixed_21 : decode cX8_isFixed 21 = .ok (.iadd, 1) := by decide +kernel
theorem dX8_isFixed_22 : decode cX8_isFixed 22 = .ok (.laload, 1) := by decide +kernel
theorem dX8_isFixed_23 : decode cX8_isFixed 23 = .ok (.lstore 5, 2) := by decide +kernel
theorem dX8_isFixed_25 : decode cX8_isFixed 25 = .ok (.lload_n 3, 1) := by decide +kernel
theorem dX8_isFixed_26 : decode cX8_isFixed 26 = .ok (.ldc2_w 151, 3) := by decide +kernel
theorem dX8_isFixed_29 : decode cX8_isFixed 29 = .ok (.lcmp, 1) := by decide +kernel
theorem dX8_isFixed_30 : decode cX8_isFixed 30 = .ok (.ifCond .ge 25, 3) := by decide +kernel
theorem dX8_isFixed_33 : decode cX8_isFixed 33 = .ok (.lload 5, 2) := by decide +kernel
theorem dX8_isFixed_35 : decode cX8_isFixed 35 = .ok (.ldc2_w 151, 3) := by decide +kernel
theorem dX8_isFixed_38 : decode cX8_isFixed 38 = .ok (.lcmp, 1) := by decide +kernel
theorem dX8_isFixed_39 : decode cX8_isFixed 39 = .ok (.ifCond .ge 16, 3) := by decide +kernel
theorem dX8_isFixed_42 : decode cX8_isFixed 42 = .ok (.lload_n 3, 1) := by decide +kernel
theorem dX8_isFixed_43 : decode cX8_isFixed 43 = .ok (.lload 5, 2) := by decide +kernel
theorem dX8_isFixed_45 : decode cX8_isFixed 45 = .ok (.ladd, 1) := by decide +kernel
theorem dX8_isFixed_46 : decode cX8_isFixed 46 = .ok (.lconst 0, 1) := by decide +kernel
theorem dX8_isFixed_47 : decode cX8_isFixed 47 = .ok (.lcmp, 1) := by decide +kernel
theorem dX8_isFixed_48 : decode cX8_isFixed 48 = .ok (.ifCond .ne 7, 3) := by decide +kernel
theorem dX8_isFixed_51 : decode cX8_isFixed 51 = .ok (.iconst 1, 1) := by decide +kernel
theorem dX8_isFixed_52 : decode cX8_isFixed 52 = .ok (.goto 4, 3) := by decide +kernel
theorem dX8_isFixed_55 : decode cX8_isFixed 55 = .ok (.iconst 0, 1) := by decide +kernel
theorem dX8_isFixed_56 : decode cX8_isFixed 56 = .ok (.ireturn, 1) := by decide +kernel
set_option maxRecDepth 20000 in
theorem ggX8_groups_X8_reckons : GoodIn wsX8_groups wsX8_reckons := goodIn_r _ [5, 6, 7, 8, 9, 10, 11, 4, 12, 13, 14, 15, 16, 21, 22, 23, 24, 25, 26, 27, 28, 29, 30, 31, 32, 33, 34, 35, 36, 37, 38, 39, 40, 41, 42, 43] (by decide +kernel) (by decide +kernel)
set_option maxRecDepth 20000 in
theorem gX8_groups_X8_reckons : GoodIn wsX8_groups (wsV RX8 157 RX8 yX8_reckons wsX8_reckons) := goodIn_app (goodIn_of _ (by decide +kernel)) ggX8_groups_X8_reckons
set_option maxRecDepth 20000 in
theorem ggX8_groups_X8_isFixed : GoodIn wsX8_groups wsX8_isFixed := goodIn_r _ [20, 6, 7, 21, 22, 23, 24, 25, 26, 27, 28, 29, 30, 31, 32, 33, 34, 35, 36, 37, 38, 39, 40, 41, 42, 43] (by decide +kernel) (by decide +kernel)
set_option maxRecDepth 20000 in
theorem gX8_groups_X8_isFixed : GoodIn wsX8_groups (wsV RX8 180 RX8 yX8_isFixed wsX8_isFixed) := goodIn_app (goodIn_of _ (by decide +kernel)) ggX8_groups_X8_isFixed
theorem dX8_groups_0 : decode cX8_groups 0 = .ok (.aload_n 0, 1) := by decide +kernel
theorem dX8_groups_1 : decode cX8_groups 1 = .ok (.iconst 0, 1) := by decide +kernel
theorem dX8_groups_2 : decode cX8_groups 2 = .ok (.bipush (-4), 2) := by decide +kernel
theorem dX8_groups_4 : decode cX8_groups 4 = .ok (.invokevirtual 157, 3) := by decide +kernel
theorem dX8_groups_7 : decode cX8_groups 7 = .ok (.iconst 0, 1) := by decide +kernel
theorem dX8_groups_8 : decode cX8_groups 8 = .ok (.istore_n 1, 1) := by decide +kernel
theorem dX8_groups_9 : decode cX8_groups 9 = .ok (.iconst 0, 1) := by decide +kernel
theorem dX8_groups_10 : decode cX8_groups 10 = .ok (.istore_n 2, 1) := by decide +kernel
theorem dX8_groups_11 : decode cX8_groups 11 = .ok (.iload_n 2, 1) := by decide +kernel
theorem dX8_groups_12 : decode cX8_groups 12 = .ok (.bipush 10, 2) := by decide +kernel
theorem dX8_groups_14 : decode cX8_groups 14 = .ok (.if_icmp .ge 58, 3) := by decide +kernel
theorem dX8_groups_17 : decode cX8_groups 17 = .ok (.iconst 1, 1) := by decide +kernel
theorem dX8_groups_18 : decode cX8_groups 18 = .ok (.istore_n 3, 1) := by decide +kernel
theorem dX8_groups_19 : decode cX8_groups 19 = .ok (.iconst 0, 1) := by decide +kernel
theorem dX8_groups_20 : decode cX8_groups 20 = .ok (.istore 4, 2) := by decide +kernel
theorem dX8_groups_22 : decode cX8_groups 22 = .ok (.iload 4, 2) := by decide +kernel
theorem dX8_groups_24 : decode cX8_groups 24 = .ok (.iload_n 2, 1) := by decide +kernel
theorem dX8_groups_25 : decode cX8_groups 25 = .ok (.if_icmp .ge 29, 3) := by decide +kernel
theorem dX8_groups_28 : decode cX8_groups 28 = .ok (.iload_n 3, 1) := by decide +kernel
theorem dX8_groups_29 : decode cX8_groups 29 = .ok (.ifCond .eq 17, 3) := by decide +kernel
theorem dX8_groups_32 : decode cX8_groups 32 = .ok (.aload_n 0, 1) := by decide +kernel
theorem dX8_groups_33 : decode cX8_groups 33 = .ok (.iload 4, 2) := by decide +kernel
theorem dX8_groups_35 : decode cX8_groups 35 = .ok (.iload_n 2, 1) := by decide +kernel
theorem dX8_groups_36 : decode cX8_groups 36 = .ok (.invokevirtual 180, 3) := by decide +kernel
theorem dX8_groups_39 : decode cX8_groups 39 = .ok (.ifCond .ne 7, 3) := by decide +kernel
theorem dX8_groups_42 : decode cX8_groups 42 = .ok (.iconst 1, 1) := by decide +kernel
theorem dX8_groups_43 : decode cX8_groups 43 = .ok (.goto 4, 3) := by decide +kernel
theorem dX8_groups_46 : decode cX8_groups 46 = .ok (.iconst 0, 1) := by decide +kernel
theorem dX8_groups_47 : decode cX8_groups 47 = .ok (.istore_n 3, 1) := by decide +kernel
theorem dX8_groups_48 : decode cX8_groups 48 = .ok (.iinc 4 1, 3) := by decide +kernel
theorem dX8_groups_51 : decode cX8_groups 51 = .ok (.goto (-29), 3) := by decide +kernel
theorem dX8_groups_54 : decode cX8_groups 54 = .ok (.iload_n 1, 1) := by decide +kernel
theorem dX8_groups_55 : decode cX8_groups 55 = .ok (.iload_n 3, 1) := by decide +kernel
theorem dX8_groups_56 : decode cX8_groups 56 = .ok (.ifCond .eq 7, 3) := by decide +kernel
theorem dX8_groups_59 : decode cX8_groups 59 = .ok (.iconst 1, 1) := by decide +kernel
theorem dX8_groups_60 : decode cX8_groups 60 = .ok (.goto 4, 3) := by decide +kernel
theorem dX8_groups_63 : decode cX8_groups 63 = .ok (.iconst 0, 1) := by decide +kernel
theorem dX8_groups_64 : decode cX8_groups 64 = .ok (.iadd, 1) := by decide +kernel
theorem dX8_groups_65 : decode cX8_groups 65 = .ok (.istore_n 1, 1) := by decide +kernel
theorem dX8_groups_66 : decode cX8_groups 66 = .ok (.iinc 2 1, 3) := by decide +kernel
theorem dX8_groups_69 : decode cX8_groups 69 = .ok (.goto (-58), 3) := by decide +kernel
theorem dX8_groups_72 : decode cX8_groups 72 = .ok (.iload_n 1, 1) := by decide +kernel
theorem dX8_groups_73 : decode cX8_groups 73 = .ok (.ireturn, 1) := by decide +kernel
set_option maxRecDepth 20000 in
theorem ggX8_rule_X8_many : GoodIn wsX8_rule wsX8_many := goodIn_r _ [7, 1, 50, 51, 52, 53, 54, 55, 56, 57, 58, 59, 60, 61, 62, 63, 64, 65, 66, 67, 68, 69, 70, 71, 72] (by decide +kernel) (by decide +kernel)
set_option maxRecDepth 20000 in
theorem gX8_rule_X8_many : GoodIn wsX8_rule (wsV RX8 160 RX8 yX8_many wsX8_many) := goodIn_app (goodIn_of _ (by decide +kernel)) ggX8_rule_X8_many
set_option maxRecDepth 20000 in
theorem ggX8_rule_X8_ofBounds : GoodIn wsX8_rule wsX8_ofBounds := goodIn_r _ [11, 1, 3, 4, 5, 6, 7, 12, 13, 14, 15, 16, 17, 18, 19, 20, 21, 22, 23, 24, 25, 26, 27, 28, 29, 30, 31, 32, 33, 34, 35, 36, 37, 38, 39, 40, 41, 50, 51, 52, 53, 54, 55, 56, 57, 58, 59, 60, 61, 62, 63, 64, 65, 66, 67, 68, 69, 70, 71, 72] (by decide +kernel) (by decide +kernel)
set_option maxRecDepth 20000 in
theorem gX8_rule_X8_ofBounds : GoodIn wsX8_rule (wsV RX8 184 RX8 yX8_ofBounds wsX8_ofBounds) := goodIn_app (goodIn_of _ (by decide +kernel)) ggX8_rule_X8_ofBounds
set_option maxRecDepth 20000 in
theorem ggX8_rule_X8_groups : GoodIn wsX8_rule wsX8_groups := goodIn_r _ [45, 29, 30, 31, 6, 32, 28, 33, 1, 34, 35, 36, 37, 38, 39, 40, 41, 46, 47, 48, 49, 50, 51, 52, 53, 54, 55, 56, 57, 58, 59, 60, 61, 62, 63, 64, 65, 66, 67, 68, 69, 70, 71, 72] (by decide +kernel) (by decide +kernel)
set_option maxRecDepth 20000 in
theorem gX8_rule_X8_groups : GoodIn wsX8_rule (wsV RX8 187 RX8 yX8_groups wsX8_groups) := goodIn_app (goodIn_of _ (by decide +kernel)) ggX8_rule_X8_groups
theorem dX8_rule_0 : decode cX8_rule 0 = .ok (.iload_n 1, 1) := by decide +kernel
theorem dX8_rule_1 : decode cX8_rule 1 = .ok (.tableswitch 86 0 7 #[47, 52, 62, 70, 70, 70, 76, 81], 47) := by decide +kernel
theorem dX8_rule_48 : decode cX8_rule 48 = .ok (.aload_n 0, 1) := by decide +kernel
theorem dX8_rule_49 : decode cX8_rule 49 = .ok (.invokevirtual 160, 3) := by decide +kernel
theorem dX8_rule_52 : decode cX8_rule 52 = .ok (.ireturn, 1) := by decide +kernel
theorem dX8_rule_53 : decode cX8_rule 53 = .ok (.iconst 1, 1) := by decide +kernel
theorem dX8_rule_54 : decode cX8_rule 54 = .ok (.aload_n 0, 1) := by decide +kernel
theorem dX8_rule_55 : decode cX8_rule 55 = .ok (.getfield 7, 3) := by decide +kernel
theorem dX8_rule_58 : decode cX8_rule 58 = .ok (.bipush 105, 2) := by decide +kernel
theorem dX8_rule_60 : decode cX8_rule 60 = .ok (.iaload, 1) := by decide +kernel
theorem dX8_rule_61 : decode cX8_rule 61 = .ok (.isub, 1) := by decide +kernel
theorem dX8_rule_62 : decode cX8_rule 62 = .ok (.ireturn, 1) := by decide +kernel
theorem dX8_rule_63 : decode cX8_rule 63 = .ok (.aload_n 0, 1) := by decide +kernel
theorem dX8_rule_64 : decode cX8_rule 64 = .ok (.getfield 7, 3) := by decide +kernel
theorem dX8_rule_67 : decode cX8_rule 67 = .ok (.bipush 106, 2) := by decide +kernel
theorem dX8_rule_69 : decode cX8_rule 69 = .ok (.iaload, 1) := by decide +kernel
theorem dX8_rule_70 : decode cX8_rule 70 = .ok (.ireturn, 1) := by decide +kernel
theorem dX8_rule_71 : decode cX8_rule 71 = .ok (.aload_n 0, 1) := by decide +kernel
theorem dX8_rule_72 : decode cX8_rule 72 = .ok (.iload_n 1, 1) := by decide +kernel
theorem dX8_rule_73 : decode cX8_rule 73 = .ok (.invokevirtual 184, 3) := by decide +kernel
theorem dX8_rule_76 : decode cX8_rule 76 = .ok (.ireturn, 1) := by decide +kernel
theorem dX8_rule_77 : decode cX8_rule 77 = .ok (.aload_n 0, 1) := by decide +kernel
theorem dX8_rule_78 : decode cX8_rule 78 = .ok (.invokevirtual 187, 3) := by decide +kernel
theorem dX8_rule_81 : decode cX8_rule 81 = .ok (.ireturn, 1) := by decide +kernel
theorem dX8_rule_82 : decode cX8_rule 82 = .ok (.aload_n 0, 1) := by decide +kernel
theorem dX8_rule_83 : decode cX8_rule 83 = .ok (.getfield 136, 3) := by decide +kernel
theorem dX8_rule_86 : decode cX8_rule 86 = .ok (.ireturn, 1) := by decide +kernel
theorem dX8_rule_87 : decode cX8_rule 87 = .ok (.iconst (-1), 1) := by decide +kernel
theorem dX8_rule_88 : decode cX8_rule 88 = .ok (.ireturn, 1) := by decide +kernel
set_option maxRecDepth 20000 in
theorem ggX8_ofPair_X8_many : GoodIn wsX8_ofPair wsX8_many := goodIn_r _ [5, 6, 11, 12, 13, 14, 15, 16, 17, 18, 19, 20, 21, 22, 23, 24, 25, 26, 27, 28, 29, 30, 31, 32, 33] (by decide +kernel) (by decide +kernel)
set_option maxRecDepth 20000 in
theorem gX8_ofPair_X8_many : GoodIn wsX8_ofPair (wsV RX8 160 RX8 yX8_many wsX8_many) := goodIn_app (goodIn_of _ (by decide +kernel)) ggX8_ofPair_X8_many
set_option maxRecDepth 20000 in
theorem ggX8_ofPair_X8_pairOf : GoodIn wsX8_ofPair wsX8_pairOf := goodIn_r _ [10, 6, 11, 12, 13, 14, 15, 16, 17, 18, 19, 20, 21, 22, 23, 24, 25, 26, 27, 28, 29, 30, 31, 32, 33] (by decide +kernel) (by decide +kernel)
set_option maxRecDepth 20000 in
theorem gX8_ofPair_X8_pairOf : GoodIn wsX8_ofPair (wsV RX8 168 RX8 yX8_pairOf wsX8_pairOf) := goodIn_app (goodIn_of _ (by decide +kernel)) ggX8_ofPair_X8_pairOf
theorem dX8_ofPair_0 : decode cX8_ofPair 0 = .ok (.iconst 0, 1) := by decide +kernel
theorem dX8_ofPair_1 : decode cX8_ofPair 1 = .ok (.istore_n 2, 1) := by decide +kernel
theorem dX8_ofPair_2 : decode cX8_ofPair 2 = .ok (.iconst 0, 1) := by decide +kernel
theorem dX8_ofPair_3 : decode cX8_ofPair 3 = .ok (.istore_n 3, 1) := by decide +kernel
theorem dX8_ofPair_4 : decode cX8_ofPair 4 = .ok (.iload_n 3, 1) := by decide +kernel
theorem dX8_ofPair_5 : decode cX8_ofPair 5 = .ok (.aload_n 0, 1) := by decide +kernel
theorem dX8_ofPair_6 : decode cX8_ofPair 6 = .ok (.invokevirtual 160, 3) := by decide +kernel
theorem dX8_ofPair_9 : decode cX8_ofPair 9 = .ok (.if_icmp .ge 30, 3) := by decide +kernel
theorem dX8_ofPair_12 : decode cX8_ofPair 12 = .ok (.iload_n 2, 1) := by decide +kernel
theorem dX8_ofPair_13 : decode cX8_ofPair 13 = .ok (.aload_n 0, 1) := by decide +kernel
theorem dX8_ofPair_14 : decode cX8_ofPair 14 = .ok (.iload_n 3, 1) := by decide +kernel
theorem dX8_ofPair_15 : decode cX8_ofPair 15 = .ok (.invokevirtual 168, 3) := by decide +kernel
theorem dX8_ofPair_18 : decode cX8_ofPair 18 = .ok (.aload_n 0, 1) := by decide +kernel
theorem dX8_ofPair_19 : decode cX8_ofPair 19 = .ok (.iload_n 1, 1) := by decide +kernel
theorem dX8_ofPair_20 : decode cX8_ofPair 20 = .ok (.invokevirtual 168, 3) := by decide +kernel
theorem dX8_ofPair_23 : decode cX8_ofPair 23 = .ok (.if_icmp .ne 7, 3) := by decide +kernel
theorem dX8_ofPair_26 : decode cX8_ofPair 26 = .ok (.iconst 1, 1) := by decide +kernel
theorem dX8_ofPair_27 : decode cX8_ofPair 27 = .ok (.goto 4, 3) := by decide +kernel
theorem dX8_ofPair_30 : decode cX8_ofPair 30 = .ok (.iconst 0, 1) := by decide +kernel
theorem dX8_ofPair_31 : decode cX8_ofPair 31 = .ok (.iadd, 1) := by decide +kernel
theorem dX8_ofPair_32 : decode cX8_ofPair 32 = .ok (.istore_n 2, 1) := by decide +kernel
theorem dX8_ofPair_33 : decode cX8_ofPair 33 = .ok (.iinc 3 1, 3) := by decide +kernel
theorem dX8_ofPair_36 : decode cX8_ofPair 36 = .ok (.goto (-32), 3) := by decide +kernel
theorem dX8_ofPair_39 : decode cX8_ofPair 39 = .ok (.iload_n 2, 1) := by decide +kernel
theorem dX8_ofPair_40 : decode cX8_ofPair 40 = .ok (.ireturn, 1) := by decide +kernel
set_option maxRecDepth 20000 in
theorem ggX8_bound_X8_isBound : GoodIn wsX8_bound wsX8_isBound := goodIn_r _ [6, 7, 8, 9, 5, 10, 1, 11, 12, 13, 40, 41, 42, 43, 44, 45, 46, 47, 48, 49, 50, 51, 52, 53, 54, 55, 56, 57, 58, 59, 60, 61, 62] (by decide +kernel) (by decide +kernel)
set_option maxRecDepth 20000 in
theorem gX8_bound_X8_isBound : GoodIn wsX8_bound (wsV RX8 190 RX8 yX8_isBound wsX8_isBound) := goodIn_app (goodIn_of _ (by decide +kernel)) ggX8_bound_X8_isBound
set_option maxRecDepth 20000 in
theorem ggX8_bound_X8_isNeedless : GoodIn wsX8_bound wsX8_isNeedless := goodIn_r _ [17, 18, 1, 19, 20, 21, 5, 22, 23, 24, 25, 26, 27, 28, 29, 30, 31, 40, 41, 42, 43, 44, 45, 46, 47, 48, 49, 50, 51, 52, 53, 54, 55, 56, 57, 58, 59, 60, 61, 62] (by decide +kernel) (by decide +kernel)
set_option maxRecDepth 20000 in
theorem gX8_bound_X8_isNeedless : GoodIn wsX8_bound (wsV RX8 177 RX8 yX8_isNeedless wsX8_isNeedless) := goodIn_app (goodIn_of _ (by decide +kernel)) ggX8_bound_X8_isNeedless
set_option maxRecDepth 20000 in
theorem ggX8_bound_X8_ofPair : GoodIn wsX8_bound wsX8_ofPair := goodIn_r _ [35, 7, 8, 9, 5, 10, 1, 36, 37, 38, 39, 40, 41, 42, 43, 44, 45, 46, 47, 48, 49, 50, 51, 52, 53, 54, 55, 56, 57, 58, 59, 60, 61, 62] (by decide +kernel) (by decide +kernel)
set_option maxRecDepth 20000 in
theorem gX8_bound_X8_ofPair : GoodIn wsX8_bound (wsV RX8 193 RX8 yX8_ofPair wsX8_ofPair) := goodIn_app (goodIn_of _ (by decide +kernel)) ggX8_bound_X8_ofPair
theorem dX8_bound_0 : decode cX8_bound 0 = .ok (.aload_n 0, 1) := by decide +kernel
theorem dX8_bound_1 : decode cX8_bound 1 = .ok (.iload_n 1, 1) := by decide +kernel
theorem dX8_bound_2 : decode cX8_bound 2 = .ok (.invokevirtual 190, 3) := by decide +kernel
theorem dX8_bound_5 : decode cX8_bound 5 = .ok (.ifCond .ne 5, 3) := by decide +kernel
theorem dX8_bound_8 : decode cX8_bound 8 = .ok (.iconst (-1), 1) := by decide +kernel
theorem dX8_bound_9 : decode cX8_bound 9 = .ok (.ireturn, 1) := by decide +kernel
theorem dX8_bound_10 : decode cX8_bound 10 = .ok (.iload_n 2, 1) := by decide +kernel
theorem dX8_bound_11 : decode cX8_bound 11 = .ok (.tableswitch 80 0 4 #[33, 40, 50, 60, 74], 33) := by decide +kernel
theorem dX8_bound_44 : decode cX8_bound 44 = .ok (.aload_n 0, 1) := by decide +kernel
theorem dX8_bound_45 : decode cX8_bound 45 = .ok (.getfield 7, 3) := by decide +kernel
theorem dX8_bound_48 : decode cX8_bound 48 = .ok (.iload_n 1, 1) := by decide +kernel
theorem dX8_bound_49 : decode cX8_bound 49 = .ok (.iaload, 1) := by decide +kernel
theorem dX8_bound_50 : decode cX8_bound 50 = .ok (.ireturn, 1) := by decide +kernel
theorem dX8_bound_51 : decode cX8_bound 51 = .ok (.aload_n 0, 1) := by decide +kernel
theorem dX8_bound_52 : decode cX8_bound 52 = .ok (.getfield 7, 3) := by decide +kernel
theorem dX8_bound_55 : decode cX8_bound 55 = .ok (.bipush 24, 2) := by decide +kernel
theorem dX8_bound_57 : decode cX8_bound 57 = .ok (.iload_n 1, 1) := by decide +kernel
theorem dX8_bound_58 : decode cX8_bound 58 = .ok (.iadd, 1) := by decide +kernel
theorem dX8_bound_59 : decode cX8_bound 59 = .ok (.iaload, 1) := by decide +kernel
theorem dX8_bound_60 : decode cX8_bound 60 = .ok (.ireturn, 1) := by decide +kernel
theorem dX8_bound_61 : decode cX8_bound 61 = .ok (.aload_n 0, 1) := by decide +kernel
theorem dX8_bound_62 : decode cX8_bound 62 = .ok (.getfield 7, 3) := by decide +kernel
theorem dX8_bound_65 : decode cX8_bound 65 = .ok (.bipush 72, 2) := by decide +kernel
theorem dX8_bound_67 : decode cX8_bound 67 = .ok (.iload_n 1, 1) := by decide +kernel
theorem dX8_bound_68 : decode cX8_bound 68 = .ok (.iadd, 1) := by decide +kernel
theorem dX8_bound_69 : decode cX8_bound 69 = .ok (.iaload, 1) := by decide +kernel
theorem dX8_bound_70 : decode cX8_bound 70 = .ok (.ireturn, 1) := by decide +kernel
theorem dX8_bound_71 : decode cX8_bound 71 = .ok (.aload_n 0, 1) := by decide +kernel
theorem dX8_bound_72 : decode cX8_bound 72 = .ok (.iload_n 1, 1) := by decide +kernel
theorem dX8_bound_73 : decode cX8_bound 73 = .ok (.invokevirtual 177, 3) := by decide +kernel
theorem dX8_bound_76 : decode cX8_bound 76 = .ok (.ifCond .eq 7, 3) := by decide +kernel
theorem dX8_bound_79 : decode cX8_bound 79 = .ok (.iconst 1, 1) := by decide +kernel
theorem dX8_bound_80 : decode cX8_bound 80 = .ok (.goto 4, 3) := by decide +kernel
theorem dX8_bound_83 : decode cX8_bound 83 = .ok (.iconst 0, 1) := by decide +kernel
theorem dX8_bound_84 : decode cX8_bound 84 = .ok (.ireturn, 1) := by decide +kernel
theorem dX8_bound_85 : decode cX8_bound 85 = .ok (.aload_n 0, 1) := by decide +kernel
theorem dX8_bound_86 : decode cX8_bound 86 = .ok (.iload_n 1, 1) := by decide +kernel
theorem dX8_bound_87 : decode cX8_bound 87 = .ok (.invokevirtual 193, 3) := by decide +kernel
theorem dX8_bound_90 : decode cX8_bound 90 = .ok (.ireturn, 1) := by decide +kernel
theorem dX8_bound_91 : decode cX8_bound 91 = .ok (.iconst (-1), 1) := by decide +kernel
theorem dX8_bound_92 : decode cX8_bound 92 = .ok (.ireturn, 1) := by decide +kernel
set_option maxRecDepth 20000 in
theorem ggX8_limit_X8_isBound : GoodIn wsX8_limit wsX8_isBound := goodIn_r _ [7, 8, 9, 10, 6, 11, 1, 12, 13, 14, 15, 16, 17, 18, 19, 20, 21, 22, 23, 24, 25, 26, 27, 28, 29, 30, 31, 32, 33, 34, 35, 36, 37] (by decide +kernel) (by decide +kernel)
set_option maxRecDepth 20000 in
theorem gX8_limit_X8_isBound : GoodIn wsX8_limit (wsV RX8 190 RX8 yX8_isBound wsX8_isBound) := goodIn_app (goodIn_of _ (by decide +kernel)) ggX8_limit_X8_isBound
theorem dX8_limit_0 : decode cX8_limit 0 = .ok (.aload_n 0, 1) := by decide +kernel
theorem dX8_limit_1 : decode cX8_limit 1 = .ok (.iload_n 1, 1) := by decide +kernel
theorem dX8_limit_2 : decode cX8_limit 2 = .ok (.invokevirtual 190, 3) := by decide +kernel
theorem dX8_limit_5 : decode cX8_limit 5 = .ok (.ifCond .eq 16, 3) := by decide +kernel
theorem dX8_limit_8 : decode cX8_limit 8 = .ok (.aload_n 0, 1) := by decide +kernel
theorem dX8_limit_9 : decode cX8_limit 9 = .ok (.getfield 7, 3) := by decide +kernel
theorem dX8_limit_12 : decode cX8_limit 12 = .ok (.bipush 48, 2) := by decide +kernel
theorem dX8_limit_14 : decode cX8_limit 14 = .ok (.iload_n 1, 1) := by decide +kernel
theorem dX8_limit_15 : decode cX8_limit 15 = .ok (.iadd, 1) := by decide +kernel
theorem dX8_limit_16 : decode cX8_limit 16 = .ok (.iaload, 1) := by decide +kernel
theorem dX8_limit_17 : decode cX8_limit 17 = .ok (.i2l, 1) := by decide +kernel
theorem dX8_limit_18 : decode cX8_limit 18 = .ok (.goto 6, 3) := by decide +kernel
theorem dX8_limit_21 : decode cX8_limit 21 = .ok (.ldc2_w 196, 3) := by decide +kernel
theorem dX8_limit_24 : decode cX8_limit 24 = .ok (.lreturn, 1) := by decide +kernel
set_option maxRecDepth 20000 in
theorem ggX8_tightest_X8_isPair : GoodIn wsX8_tightest wsX8_isPair := goodIn_r _ [4, 5, 6, 3, 7, 8, 9, 10, 11] (by decide +kernel) (by decide +kernel)
set_option maxRecDepth 20000 in
theorem gX8_tightest_X8_isPair : GoodIn wsX8_tightest (va_wsS RX8 198 yX8_isPair wsX8_isPair) := goodIn_app (goodIn_of _ (by decide +kernel)) ggX8_tightest_X8_isPair
set_option maxRecDepth 20000 in
theorem ggX8_tightest_X8_many : GoodIn wsX8_tightest wsX8_many := goodIn_r _ [15, 16, 29, 30, 31, 32, 33, 34, 35, 36, 37, 38, 39, 40, 41, 42, 43, 44, 45, 46, 47, 48, 49, 50, 51] (by decide +kernel) (by decide +kernel)
set_option maxRecDepth 20000 in
theorem gX8_tightest_X8_many : GoodIn wsX8_tightest (wsV RX8 160 RX8 yX8_many wsX8_many) := goodIn_app (goodIn_of _ (by decide +kernel)) ggX8_tightest_X8_many
set_option maxRecDepth 20000 in
theorem ggX8_tightest_X8_pairOf : GoodIn wsX8_tightest wsX8_pairOf := goodIn_r _ [20, 16, 29, 30, 31, 32, 33, 34, 35, 36, 37, 38, 39, 40, 41, 42, 43, 44, 45, 46, 47, 48, 49, 50, 51] (by decide +kernel) (by decide +kernel)
set_option maxRecDepth 20000 in
theorem gX8_tightest_X8_pairOf : GoodIn wsX8_tightest (wsV RX8 168 RX8 yX8_pairOf wsX8_pairOf) := goodIn_app (goodIn_of _ (by decide +kernel)) ggX8_tightest_X8_pairOf
set_option maxRecDepth 20000 in
theorem ggX8_tightest_X8_weightOf : GoodIn wsX8_tightest wsX8_weightOf := goodIn_r _ [24, 16, 25, 26, 3, 27, 28, 29, 30, 31, 32, 33, 34, 35, 36, 37, 38, 39, 40, 41, 42, 43, 44, 45, 46, 47, 48, 49, 50, 51] (by decide +kernel) (by decide +kernel)
set_option maxRecDepth 20000 in
theorem gX8_tightest_X8_weightOf : GoodIn wsX8_tightest (wsV RX8 153 RX8 yX8_weightOf wsX8_weightOf) := goodIn_app (goodIn_of _ (by decide +kernel)) ggX8_tightest_X8_weightOf
theorem dX8_tightest_0 : decode cX8_tightest 0 = .ok (.iload_n 1, 1) := by decide +kernel
theorem dX8_tightest_1 : decode cX8_tightest 1 = .ok (.iload_n 2, 1) := by decide +kernel
theorem dX8_tightest_2 : decode cX8_tightest 2 = .ok (.invokestatic 198, 3) := by decide +kernel
theorem dX8_tightest_5 : decode cX8_tightest 5 = .ok (.ifCond .ne 5, 3) := by decide +kernel
theorem dX8_tightest_8 : decode cX8_tightest 8 = .ok (.iconst (-1), 1) := by decide +kernel
theorem dX8_tightest_9 : decode cX8_tightest 9 = .ok (.ireturn, 1) := by decide +kernel
theorem dX8_tightest_10 : decode cX8_tightest 10 = .ok (.bipush (-4), 2) := by decide +kernel
theorem dX8_tightest_12 : decode cX8_tightest 12 = .ok (.istore_n 3, 1) := by decide +kernel
theorem dX8_tightest_13 : decode cX8_tightest 13 = .ok (.iconst 0, 1) := by decide +kernel
theorem dX8_tightest_14 : decode cX8_tightest 14 = .ok (.istore 4, 2) := by decide +kernel
theorem dX8_tightest_16 : decode cX8_tightest 16 = .ok (.iload 4, 2) := by decide +kernel
theorem dX8_tightest_18 : decode cX8_tightest 18 = .ok (.aload_n 0, 1) := by decide +kernel
theorem dX8_tightest_19 : decode cX8_tightest 19 = .ok (.invokevirtual 160, 3) := by decide +kernel
theorem dX8_tightest_22 : decode cX8_tightest 22 = .ok (.if_icmp .ge 66, 3) := by decide +kernel
theorem dX8_tightest_25 : decode cX8_tightest 25 = .ok (.aload_n 0, 1) := by decide +kernel
theorem dX8_tightest_26 : decode cX8_tightest 26 = .ok (.iload 4, 2) := by decide +kernel
theorem dX8_tightest_28 : decode cX8_tightest 28 = .ok (.invokevirtual 168, 3) := by decide +kernel
theorem dX8_tightest_31 : decode cX8_tightest 31 = .ok (.bipush 10, 2) := by decide +kernel
theorem dX8_tightest_33 : decode cX8_tightest 33 = .ok (.iload_n 1, 1) := by decide +kernel
theorem dX8_tightest_34 : decode cX8_tightest 34 = .ok (.imul, 1) := by decide +kernel
theorem dX8_tightest_35 : decode cX8_tightest 35 = .ok (.iload_n 2, 1) := by decide +kernel
theorem dX8_tightest_36 : decode cX8_tightest 36 = .ok (.iadd, 1) := by decide +kernel
theorem dX8_tightest_37 : decode cX8_tightest 37 = .ok (.if_icmp .ne 30, 3) := by decide +kernel
theorem dX8_tightest_40 : decode cX8_tightest 40 = .ok (.iload_n 3, 1) := by decide +kernel
theorem dX8_tightest_41 : decode cX8_tightest 41 = .ok (.bipush (-4), 2) := by decide +kernel
theorem dX8_tightest_43 : decode cX8_tightest 43 = .ok (.if_icmp .eq 20, 3) := by decide +kernel
theorem dX8_tightest_46 : decode cX8_tightest 46 = .ok (.aload_n 0, 1) := by decide +kernel
theorem dX8_tightest_47 : decode cX8_tightest 47 = .ok (.iconst 0, 1) := by decide +kernel
theorem dX8_tightest_48 : decode cX8_tightest 48 = .ok (.iload 4, 2) := by decide +kernel
theorem dX8_tightest_50 : decode cX8_tightest 50 = .ok (.invokevirtual 153, 3) := by decide +kernel
theorem dX8_tightest_53 : decode cX8_tightest 53 = .ok (.aload_n 0, 1) := by decide +kernel
theorem dX8_tightest_54 : decode cX8_tightest 54 = .ok (.iconst 0, 1) := by decide +kernel
theorem dX8_tightest_55 : decode cX8_tightest 55 = .ok (.iload_n 3, 1) := by decide +kernel
theorem dX8_tightest_56 : decode cX8_tightest 56 = .ok (.invokevirtual 153, 3) := by decide +kernel
theorem dX8_tightest_59 : decode cX8_tightest 59 = .ok (.lcmp, 1) := by decide +kernel
theorem dX8_tightest_60 : decode cX8_tightest 60 = .ok (.ifCond .ge 7, 3) := by decide +kernel
theorem dX8_tightest_63 : decode cX8_tightest 63 = .ok (.iconst 1, 1) := by decide +kernel
theorem dX8_tightest_64 : decode cX8_tightest 64 = .ok (.goto 4, 3) := by decide +kernel
theorem dX8_tightest_67 : decode cX8_tightest 67 = .ok (.iconst 0, 1) := by decide +kernel
theorem dX8_tightest_68 : decode cX8_tightest 68 = .ok (.istore 5, 2) := by decide +kernel
theorem dX8_tightest_70 : decode cX8_tightest 70 = .ok (.iload 5, 2) := by decide +kernel
theorem dX8_tightest_72 : decode cX8_tightest 72 = .ok (.ifCond .eq 8, 3) := by decide +kernel
theorem dX8_tightest_75 : decode cX8_tightest 75 = .ok (.iload 4, 2) := by decide +kernel
theorem dX8_tightest_77 : decode cX8_tightest 77 = .ok (.goto 4, 3) := by decide +kernel
theorem dX8_tightest_80 : decode cX8_tightest 80 = .ok (.iload_n 3, 1) := by decide +kernel
theorem dX8_tightest_81 : decode cX8_tightest 81 = .ok (.istore_n 3, 1) := by decide +kernel
theorem dX8_tightest_82 : decode cX8_tightest 82 = .ok (.iinc 4 1, 3) := by decide +kernel
theorem dX8_tightest_85 : decode cX8_tightest 85 = .ok (.goto (-69), 3) := by decide +kernel
theorem dX8_tightest_88 : decode cX8_tightest 88 = .ok (.iload_n 3, 1) := by decide +kernel
theorem dX8_tightest_89 : decode cX8_tightest 89 = .ok (.ireturn, 1) := by decide +kernel
set_option maxRecDepth 20000 in
theorem ggX8_pair_X8_many : GoodIn wsX8_pair wsX8_many := goodIn_r _ [5, 6, 15, 16, 17, 18, 19, 20, 21, 22, 23, 24, 25, 26, 27, 28, 29, 30, 31, 32, 33, 34, 35, 36, 37] (by decide +kernel) (by decide +kernel)
set_option maxRecDepth 20000 in
theorem gX8_pair_X8_many : GoodIn wsX8_pair (wsV RX8 160 RX8 yX8_many wsX8_many) := goodIn_app (goodIn_of _ (by decide +kernel)) ggX8_pair_X8_many
set_option maxRecDepth 20000 in
theorem ggX8_pair_X8_isFirstPair : GoodIn wsX8_pair wsX8_isFirstPair := goodIn_r _ [10, 11, 12, 13, 4, 14, 6, 15, 16, 17, 18, 19, 20, 21, 22, 23, 24, 25, 26, 27, 28, 29, 30, 31, 32, 33, 34, 35, 36, 37] (by decide +kernel) (by decide +kernel)
set_option maxRecDepth 20000 in
theorem gX8_pair_X8_isFirstPair : GoodIn wsX8_pair (wsV RX8 171 RX8 yX8_isFirstPair wsX8_isFirstPair) := goodIn_app (goodIn_of _ (by decide +kernel)) ggX8_pair_X8_isFirstPair
set_option maxRecDepth 20000 in
theorem ggX8_pair_X8_pairOf : GoodIn wsX8_pair wsX8_pairOf := goodIn_r _ [14, 6, 15, 16, 17, 18, 19, 20, 21, 22, 23, 24, 25, 26, 27, 28, 29, 30, 31, 32, 33, 34, 35, 36, 37] (by decide +kernel) (by decide +kernel)
set_option maxRecDepth 20000 in
theorem gX8_pair_X8_pairOf : GoodIn wsX8_pair (wsV RX8 168 RX8 yX8_pairOf wsX8_pairOf) := goodIn_app (goodIn_of _ (by decide +kernel)) ggX8_pair_X8_pairOf
theorem dX8_pair_0 : decode cX8_pair 0 = .ok (.iload_n 1, 1) := by decide +kernel
theorem dX8_pair_1 : decode cX8_pair 1 = .ok (.ifCond .ge 5, 3) := by decide +kernel
theorem dX8_pair_4 : decode cX8_pair 4 = .ok (.iconst (-1), 1) := by decide +kernel
theorem dX8_pair_5 : decode cX8_pair 5 = .ok (.ireturn, 1) := by decide +kernel
theorem dX8_pair_6 : decode cX8_pair 6 = .ok (.iload_n 1, 1) := by decide +kernel
theorem dX8_pair_7 : decode cX8_pair 7 = .ok (.istore_n 2, 1) := by decide +kernel
theorem dX8_pair_8 : decode cX8_pair 8 = .ok (.iconst 0, 1) := by decide +kernel
theorem dX8_pair_9 : decode cX8_pair 9 = .ok (.istore_n 3, 1) := by decide +kernel
theorem dX8_pair_10 : decode cX8_pair 10 = .ok (.iload_n 3, 1) := by decide +kernel
theorem dX8_pair_11 : decode cX8_pair 11 = .ok (.aload_n 0, 1) := by decide +kernel
theorem dX8_pair_12 : decode cX8_pair 12 = .ok (.invokevirtual 160, 3) := by decide +kernel
theorem dX8_pair_15 : decode cX8_pair 15 = .ok (.if_icmp .ge 30, 3) := by decide +kernel
theorem dX8_pair_18 : decode cX8_pair 18 = .ok (.aload_n 0, 1) := by decide +kernel
theorem dX8_pair_19 : decode cX8_pair 19 = .ok (.iload_n 3, 1) := by decide +kernel
theorem dX8_pair_20 : decode cX8_pair 20 = .ok (.invokevirtual 171, 3) := by decide +kernel
theorem dX8_pair_23 : decode cX8_pair 23 = .ok (.ifCond .eq 16, 3) := by decide +kernel
theorem dX8_pair_26 : decode cX8_pair 26 = .ok (.iload_n 2, 1) := by decide +kernel
theorem dX8_pair_27 : decode cX8_pair 27 = .ok (.ifCond .ne 9, 3) := by decide +kernel
theorem dX8_pair_30 : decode cX8_pair 30 = .ok (.aload_n 0, 1) := by decide +kernel
theorem dX8_pair_31 : decode cX8_pair 31 = .ok (.iload_n 3, 1) := by decide +kernel
theorem dX8_pair_32 : decode cX8_pair 32 = .ok (.invokevirtual 168, 3) := by decide +kernel
theorem dX8_pair_35 : decode cX8_pair 35 = .ok (.ireturn, 1) := by decide +kernel
theorem dX8_pair_36 : decode cX8_pair 36 = .ok (.iinc 2 (-1), 3) := by decide +kernel
theorem dX8_pair_39 : decode cX8_pair 39 = .ok (.iinc 3 1, 3) := by decide +kernel
theorem dX8_pair_42 : decode cX8_pair 42 = .ok (.goto (-32), 3) := by decide +kernel
theorem dX8_pair_45 : decode cX8_pair 45 = .ok (.bipush (-4), 2) := by decide +kernel
theorem dX8_pair_47 : decode cX8_pair 47 = .ok (.ireturn, 1) := by decide +kernel
set_option maxRecDepth 20000 in
theorem ggX8_follow_X8_weightOf : GoodIn wsX8_follow wsX8_weightOf := goodIn_r _ [8, 2, 9, 10, 7, 11, 12, 13, 14, 15, 16, 17, 18, 19, 20, 21, 22, 23, 24, 25, 26, 27, 28, 29, 30, 31, 32, 33, 34, 35] (by decide +kernel) (by decide +kernel)
set_option maxRecDepth 20000 in
theorem gX8_follow_X8_weightOf : GoodIn wsX8_follow (wsV RX8 153 RX8 yX8_weightOf wsX8_weightOf) := goodIn_app (goodIn_of _ (by decide +kernel)) ggX8_follow_X8_weightOf
theorem dX8_follow_0 : decode cX8_follow 0 = .ok (.aload_n 0, 1) := by decide +kernel
theorem dX8_follow_1 : decode cX8_follow 1 = .ok (.getfield 29, 3) := by decide +kernel
theorem dX8_follow_4 : decode cX8_follow 4 = .ok (.bipush 10, 2) := by decide +kernel
theorem dX8_follow_6 : decode cX8_follow 6 = .ok (.iload_n 2, 1) := by decide +kernel
theorem dX8_follow_7 : decode cX8_follow 7 = .ok (.iconst 1, 1) := by decide +kernel
theorem dX8_follow_8 : decode cX8_follow 8 = .ok (.isub, 1) := by decide +kernel
theorem dX8_follow_9 : decode cX8_follow 9 = .ok (.imul, 1) := by decide +kernel
theorem dX8_follow_10 : decode cX8_follow 10 = .ok (.aload_n 0, 1) := by decide +kernel
theorem dX8_follow_11 : decode cX8_follow 11 = .ok (.getfield 7, 3) := by decide +kernel
theorem dX8_follow_14 : decode cX8_follow 14 = .ok (.iload_n 1, 1) := by decide +kernel
theorem dX8_follow_15 : decode cX8_follow 15 = .ok (.iaload, 1) := by decide +kernel
theorem dX8_follow_16 : decode cX8_follow 16 = .ok (.iadd, 1) := by decide +kernel
theorem dX8_follow_17 : decode cX8_follow 17 = .ok (.laload, 1) := by decide +kernel
theorem dX8_follow_18 : decode cX8_follow 18 = .ok (.lstore_n 3, 1) := by decide +kernel
theorem dX8_follow_19 : decode cX8_follow 19 = .ok (.lload_n 3, 1) := by decide +kernel
theorem dX8_follow_20 : decode cX8_follow 20 = .ok (.ldc2_w 151, 3) := by decide +kernel
theorem dX8_follow_23 : decode cX8_follow 23 = .ok (.lcmp, 1) := by decide +kernel
theorem dX8_follow_24 : decode cX8_follow 24 = .ok (.ifCond .ge 14, 3) := by decide +kernel
theorem dX8_follow_27 : decode cX8_follow 27 = .ok (.aload_n 0, 1) := by decide +kernel
theorem dX8_follow_28 : decode cX8_follow 28 = .ok (.iconst 0, 1) := by decide +kernel
theorem dX8_follow_29 : decode cX8_follow 29 = .ok (.iload_n 1, 1) := by decide +kernel
theorem dX8_follow_30 : decode cX8_follow 30 = .ok (.invokevirtual 153, 3) := by decide +kernel
theorem dX8_follow_33 : decode cX8_follow 33 = .ok (.lload_n 3, 1) := by decide +kernel
theorem dX8_follow_34 : decode cX8_follow 34 = .ok (.ladd, 1) := by decide +kernel
theorem dX8_follow_35 : decode cX8_follow 35 = .ok (.goto 6, 3) := by decide +kernel
theorem dX8_follow_38 : decode cX8_follow 38 = .ok (.ldc2_w 151, 3) := by decide +kernel
theorem dX8_follow_41 : decode cX8_follow 41 = .ok (.lreturn, 1) := by decide +kernel
set_option maxRecDepth 20000 in
theorem ggX8_behindAll_X8_many : GoodIn wsX8_behindAll wsX8_many := goodIn_r _ [8, 3, 21, 22, 23, 24, 25, 26, 27, 28, 29, 30, 31, 32, 33, 34, 35, 36, 37, 38, 39, 40, 41, 42, 43] (by decide +kernel) (by decide +kernel)
set_option maxRecDepth 20000 in
theorem gX8_behindAll_X8_many : GoodIn wsX8_behindAll (wsV RX8 160 RX8 yX8_many wsX8_many) := goodIn_app (goodIn_of _ (by decide +kernel)) ggX8_behindAll_X8_many
set_option maxRecDepth 20000 in
theorem ggX8_behindAll_X8_follow : GoodIn wsX8_behindAll wsX8_follow := goodIn_r _ [12, 1, 3, 2, 13, 14, 15, 7, 16, 17, 18, 19, 20, 21, 22, 23, 24, 25, 26, 27, 28, 29, 30, 31, 32, 33, 34, 35, 36, 37, 38, 39, 40, 41, 42, 43] (by decide +kernel) (by decide +kernel)
set_option maxRecDepth 20000 in
theorem gX8_behindAll_X8_follow : GoodIn wsX8_behindAll (wsV RX8 201 RX8 yX8_follow wsX8_follow) := goodIn_app (goodIn_of _ (by decide +kernel)) ggX8_behindAll_X8_follow
theorem dX8_behindAll_0 : decode cX8_behindAll 0 = .ok (.iconst 0, 1) := by decide +kernel
theorem dX8_behindAll_1 : decode cX8_behindAll 1 = .ok (.istore_n 3, 1) := by decide +kernel
theorem dX8_behindAll_2 : decode cX8_behindAll 2 = .ok (.iload_n 3, 1) := by decide +kernel
theorem dX8_behindAll_3 : decode cX8_behindAll 3 = .ok (.bipush 10, 2) := by decide +kernel
theorem dX8_behindAll_5 : decode cX8_behindAll 5 = .ok (.if_icmp .ge 27, 3) := by decide +kernel
theorem dX8_behindAll_8 : decode cX8_behindAll 8 = .ok (.aload_n 0, 1) := by decide +kernel
theorem dX8_behindAll_9 : decode cX8_behindAll 9 = .ok (.getfield 29, 3) := by decide +kernel
theorem dX8_behindAll_12 : decode cX8_behindAll 12 = .ok (.iload_n 3, 1) := by decide +kernel
theorem dX8_behindAll_13 : decode cX8_behindAll 13 = .ok (.iload_n 3, 1) := by decide +kernel
theorem dX8_behindAll_14 : decode cX8_behindAll 14 = .ok (.iload_n 1, 1) := by decide +kernel
theorem dX8_behindAll_15 : decode cX8_behindAll 15 = .ok (.if_icmp .ne 7, 3) := by decide +kernel
theorem dX8_behindAll_18 : decode cX8_behindAll 18 = .ok (.lconst 0, 1) := by decide +kernel
theorem dX8_behindAll_19 : decode cX8_behindAll 19 = .ok (.goto 6, 3) := by decide +kernel
theorem dX8_behindAll_22 : decode cX8_behindAll 22 = .ok (.ldc2_w 151, 3) := by decide +kernel
theorem dX8_behindAll_25 : decode cX8_behindAll 25 = .ok (.lastore, 1) := by decide +kernel
theorem dX8_behindAll_26 : decode cX8_behindAll 26 = .ok (.iinc 3 1, 3) := by decide +kernel
theorem dX8_behindAll_29 : decode cX8_behindAll 29 = .ok (.goto (-27), 3) := by decide +kernel
theorem dX8_behindAll_32 : decode cX8_behindAll 32 = .ok (.iconst 1, 1) := by decide +kernel
theorem dX8_behindAll_33 : decode cX8_behindAll 33 = .ok (.istore_n 3, 1) := by decide +kernel
theorem dX8_behindAll_34 : decode cX8_behindAll 34 = .ok (.iload_n 3, 1) := by decide +kernel
theorem dX8_behindAll_35 : decode cX8_behindAll 35 = .ok (.bipush 11, 2) := by decide +kernel
theorem dX8_behindAll_37 : decode cX8_behindAll 37 = .ok (.if_icmp .ge 128, 3) := by decide +kernel
theorem dX8_behindAll_40 : decode cX8_behindAll 40 = .ok (.iconst 0, 1) := by decide +kernel
theorem dX8_behindAll_41 : decode cX8_behindAll 41 = .ok (.istore 4, 2) := by decide +kernel
theorem dX8_behindAll_43 : decode cX8_behindAll 43 = .ok (.iload 4, 2) := by decide +kernel
theorem dX8_behindAll_45 : decode cX8_behindAll 45 = .ok (.bipush 10, 2) := by decide +kernel
theorem dX8_behindAll_47 : decode cX8_behindAll 47 = .ok (.if_icmp .ge 24, 3) := by decide +kernel
theorem dX8_behindAll_50 : decode cX8_behindAll 50 = .ok (.aload_n 0, 1) := by decide +kernel
theorem dX8_behindAll_51 : decode cX8_behindAll 51 = .ok (.getfield 29, 3) := by decide +kernel
theorem dX8_behindAll_54 : decode cX8_behindAll 54 = .ok (.bipush 10, 2) := by decide +kernel
theorem dX8_behindAll_56 : decode cX8_behindAll 56 = .ok (.iload_n 3, 1) := by decide +kernel
theorem dX8_behindAll_57 : decode cX8_behindAll 57 = .ok (.imul, 1) := by decide +kernel
theorem dX8_behindAll_58 : decode cX8_behindAll 58 = .ok (.iload 4, 2) := by decide +kernel
theorem dX8_behindAll_60 : decode cX8_behindAll 60 = .ok (.iadd, 1) := by decide +kernel
theorem dX8_behindAll_61 : decode cX8_behindAll 61 = .ok (.ldc2_w 151, 3) := by decide +kernel
theorem dX8_behindAll_64 : decode cX8_behindAll 64 = .ok (.lastore, 1) := by decide +kernel
theorem dX8_behindAll_65 : decode cX8_behindAll 65 = .ok (.iinc 4 1, 3) := by decide +kernel
theorem dX8_behindAll_68 : decode cX8_behindAll 68 = .ok (.goto (-25), 3) := by decide +kernel
theorem dX8_behindAll_71 : decode cX8_behindAll 71 = .ok (.iconst 0, 1) := by decide +kernel
theorem dX8_behindAll_72 : decode cX8_behindAll 72 = .ok (.istore 4, 2) := by decide +kernel
theorem dX8_behindAll_74 : decode cX8_behindAll 74 = .ok (.iload 4, 2) := by decide +kernel
theorem dX8_behindAll_76 : decode cX8_behindAll 76 = .ok (.aload_n 0, 1) := by decide +kernel
theorem dX8_behindAll_77 : decode cX8_behindAll 77 = .ok (.invokevirtual 160, 3) := by decide +kernel
theorem dX8_behindAll_80 : decode cX8_behindAll 80 = .ok (.if_icmp .ge 79, 3) := by decide +kernel
theorem dX8_behindAll_83 : decode cX8_behindAll 83 = .ok (.bipush 10, 2) := by decide +kernel
theorem dX8_behindAll_85 : decode cX8_behindAll 85 = .ok (.iload_n 3, 1) := by decide +kernel
theorem dX8_behindAll_86 : decode cX8_behindAll 86 = .ok (.imul, 1) := by decide +kernel
theorem dX8_behindAll_87 : decode cX8_behindAll 87 = .ok (.aload_n 0, 1) := by decide +kernel
theorem dX8_behindAll_88 : decode cX8_behindAll 88 = .ok (.getfield 7, 3) := by decide +kernel
theorem dX8_behindAll_91 : decode cX8_behindAll 91 = .ok (.bipush 24, 2) := by decide +kernel
theorem dX8_behindAll_93 : decode cX8_behindAll 93 = .ok (.iload 4, 2) := by decide +kernel
theorem dX8_behindAll_95 : decode cX8_behindAll 95 = .ok (.iadd, 1) := by decide +kernel
theorem dX8_behindAll_96 : decode cX8_behindAll 96 = .ok (.iaload, 1) := by decide +kernel
theorem dX8_behindAll_97 : decode cX8_behindAll 97 = .ok (.iadd, 1) := by decide +kernel
theorem dX8_behindAll_98 : decode cX8_behindAll 98 = .ok (.istore 5, 2) := by decide +kernel
theorem dX8_behindAll_100 : decode cX8_behindAll 100 = .ok (.iload 4, 2) := by decide +kernel
theorem dX8_behindAll_102 : decode cX8_behindAll 102 = .ok (.iload_n 2, 1) := by decide +kernel
theorem dX8_behindAll_103 : decode cX8_behindAll 103 = .ok (.if_icmp .ne 9, 3) := by decide +kernel
theorem dX8_behindAll_106 : decode cX8_behindAll 106 = .ok (.ldc2_w 151, 3) := by decide +kernel
theorem dX8_behindAll_109 : decode cX8_behindAll 109 = .ok (.goto 10, 3) := by decide +kernel
theorem dX8_behindAll_112 : decode cX8_behindAll 112 = .ok (.aload_n 0, 1) := by decide +kernel
theorem dX8_behindAll_113 : decode cX8_behindAll 113 = .ok (.iload 4, 2) := by decide +kernel
theorem dX8_behindAll_115 : decode cX8_behindAll 115 = .ok (.iload_n 3, 1) := by decide +kernel
theorem dX8_behindAll_116 : decode cX8_behindAll 116 = .ok (.invokevirtual 201, 3) := by decide +kernel
theorem dX8_behindAll_119 : decode cX8_behindAll 119 = .ok (.lstore 6, 2) := by decide +kernel
theorem dX8_behindAll_121 : decode cX8_behindAll 121 = .ok (.aload_n 0, 1) := by decide +kernel
theorem dX8_behindAll_122 : decode cX8_behindAll 122 = .ok (.getfield 29, 3) := by decide +kernel
theorem dX8_behindAll_125 : decode cX8_behindAll 125 = .ok (.iload 5, 2) := by decide +kernel
theorem dX8_behindAll_127 : decode cX8_behindAll 127 = .ok (.lload 6, 2) := by decide +kernel
theorem dX8_behindAll_129 : decode cX8_behindAll 129 = .ok (.aload_n 0, 1) := by decide +kernel
theorem dX8_behindAll_130 : decode cX8_behindAll 130 = .ok (.getfield 29, 3) := by decide +kernel
theorem dX8_behindAll_133 : decode cX8_behindAll 133 = .ok (.iload 5, 2) := by decide +kernel
theorem dX8_behindAll_135 : decode cX8_behindAll 135 = .ok (.laload, 1) := by decide +kernel
theorem dX8_behindAll_136 : decode cX8_behindAll 136 = .ok (.lcmp, 1) := by decide +kernel
theorem dX8_behindAll_137 : decode cX8_behindAll 137 = .ok (.ifCond .ge 8, 3) := by decide +kernel
theorem dX8_behindAll_140 : decode cX8_behindAll 140 = .ok (.lload 6, 2) := by decide +kernel
theorem dX8_behindAll_142 : decode cX8_behindAll 142 = .ok (.goto 10, 3) := by decide +kernel
theorem dX8_behindAll_145 : decode cX8_behindAll 145 = .ok (.aload_n 0, 1) := by decide +kernel
theorem dX8_behindAll_146 : decode cX8_behindAll 146 = .ok (.getfield 29, 3) := by decide +kernel
theorem dX8_behindAll_149 : decode cX8_behindAll 149 = .ok (.iload 5, 2) := by decide +kernel
theorem dX8_behindAll_151 : decode cX8_behindAll 151 = .ok (.laload, 1) := by decide +kernel
theorem dX8_behindAll_152 : decode cX8_behindAll 152 = .ok (.lastore, 1) := by decide +kernel
theorem dX8_behindAll_153 : decode cX8_behindAll 153 = .ok (.iinc 4 1, 3) := by decide +kernel
theorem dX8_behindAll_156 : decode cX8_behindAll 156 = .ok (.goto (-82), 3) := by decide +kernel
theorem dX8_behindAll_159 : decode cX8_behindAll 159 = .ok (.iinc 3 1, 3) := by decide +kernel
theorem dX8_behindAll_162 : decode cX8_behindAll 162 = .ok (.goto (-128), 3) := by decide +kernel
theorem dX8_behindAll_165 : decode cX8_behindAll 165 = .ok (.return_, 1) := by decide +kernel
set_option maxRecDepth 20000 in
theorem ggX8_conflictsWith_X8_behindAll : GoodIn wsX8_conflictsWith wsX8_behindAll := goodIn_r _ [10, 1, 2, 4, 11, 12, 13, 9, 14, 15, 16, 17, 18, 19, 20, 21, 22, 23, 24, 25, 26, 27, 28, 29, 30, 31, 32, 33, 34, 35, 36, 37, 38, 39, 40, 41, 42, 43, 44, 45, 46, 47, 48, 49] (by decide +kernel) (by decide +kernel)
set_option maxRecDepth 20000 in
theorem gX8_conflictsWith_X8_behindAll : GoodIn wsX8_conflictsWith (wsV RX8 204 RX8 yX8_behindAll wsX8_behindAll) := goodIn_app (goodIn_of _ (by decide +kernel)) ggX8_conflictsWith_X8_behindAll
set_option maxRecDepth 20000 in
theorem ggX8_conflictsWith_X8_many : GoodIn wsX8_conflictsWith wsX8_many := goodIn_r _ [14, 4, 27, 28, 29, 30, 31, 32, 33, 34, 35, 36, 37, 38, 39, 40, 41, 42, 43, 44, 45, 46, 47, 48, 49] (by decide +kernel) (by decide +kernel)
set_option maxRecDepth 20000 in
theorem gX8_conflictsWith_X8_many : GoodIn wsX8_conflictsWith (wsV RX8 160 RX8 yX8_many wsX8_many) := goodIn_app (goodIn_of _ (by decide +kernel)) ggX8_conflictsWith_X8_many
set_option maxRecDepth 20000 in
theorem ggX8_conflictsWith_X8_follow : GoodIn wsX8_conflictsWith wsX8_follow := goodIn_r _ [18, 1, 4, 2, 19, 20, 21, 9, 22, 23, 24, 25, 26, 27, 28, 29, 30, 31, 32, 33, 34, 35, 36, 37, 38, 39, 40, 41, 42, 43, 44, 45, 46, 47, 48, 49] (by decide +kernel) (by decide +kernel)
set_option maxRecDepth 20000 in
theorem gX8_conflictsWith_X8_follow : GoodIn wsX8_conflictsWith (wsV RX8 201 RX8 yX8_follow wsX8_follow) := goodIn_app (goodIn_of _ (by decide +kernel)) ggX8_conflictsWith_X8_follow
set_option maxRecDepth 20000 in
theorem ggX8_conflictsWith_X8_weightOf : GoodIn wsX8_conflictsWith wsX8_weightOf := goodIn_r _ [22, 4, 23, 24, 9, 25, 26, 27, 28, 29, 30, 31, 32, 33, 34, 35, 36, 37, 38, 39, 40, 41, 42, 43, 44, 45, 46, 47, 48, 49] (by decide +kernel) (by decide +kernel)
set_option maxRecDepth 20000 in
theorem gX8_conflictsWith_X8_weightOf : GoodIn wsX8_conflictsWith (wsV RX8 153 RX8 yX8_weightOf wsX8_weightOf) := goodIn_app (goodIn_of _ (by decide +kernel)) ggX8_conflictsWith_X8_weightOf
theorem dX8_conflictsWith_0 : decode cX8_conflictsWith 0 = .ok (.aload_n 0, 1) := by decide +kernel
theorem dX8_conflictsWith_1 : decode cX8_conflictsWith 1 = .ok (.iload_n 2, 1) := by decide +kernel
theorem dX8_conflictsWith_2 : decode cX8_conflictsWith 2 = .ok (.iload 5, 2) := by decide +kernel
theorem dX8_conflictsWith_4 : decode cX8_conflictsWith 4 = .ok (.invokevirtual 204, 3) := by decide +kernel
theorem dX8_conflictsWith_7 : decode cX8_conflictsWith 7 = .ok (.iconst 1, 1) := by decide +kernel
theorem dX8_conflictsWith_8 : decode cX8_conflictsWith 8 = .ok (.istore 6, 2) := by decide +kernel
theorem dX8_conflictsWith_10 : decode cX8_conflictsWith 10 = .ok (.iload 6, 2) := by decide +kernel
theorem dX8_conflictsWith_12 : decode cX8_conflictsWith 12 = .ok (.bipush 10, 2) := by decide +kernel
theorem dX8_conflictsWith_14 : decode cX8_conflictsWith 14 = .ok (.if_icmp .ge 47, 3) := by decide +kernel
theorem dX8_conflictsWith_17 : decode cX8_conflictsWith 17 = .ok (.aload_n 0, 1) := by decide +kernel
theorem dX8_conflictsWith_18 : decode cX8_conflictsWith 18 = .ok (.getfield 29, 3) := by decide +kernel
theorem dX8_conflictsWith_21 : decode cX8_conflictsWith 21 = .ok (.bipush 10, 2) := by decide +kernel
theorem dX8_conflictsWith_23 : decode cX8_conflictsWith 23 = .ok (.iload 6, 2) := by decide +kernel
theorem dX8_conflictsWith_25 : decode cX8_conflictsWith 25 = .ok (.imul, 1) := by decide +kernel
theorem dX8_conflictsWith_26 : decode cX8_conflictsWith 26 = .ok (.iload_n 1, 1) := by decide +kernel
theorem dX8_conflictsWith_27 : decode cX8_conflictsWith 27 = .ok (.iadd, 1) := by decide +kernel
theorem dX8_conflictsWith_28 : decode cX8_conflictsWith 28 = .ok (.laload, 1) := by decide +kernel
theorem dX8_conflictsWith_29 : decode cX8_conflictsWith 29 = .ok (.ldc2_w 151, 3) := by decide +kernel
theorem dX8_conflictsWith_32 : decode cX8_conflictsWith 32 = .ok (.lcmp, 1) := by decide +kernel
theorem dX8_conflictsWith_33 : decode cX8_conflictsWith 33 = .ok (.ifCond .ge 22, 3) := by decide +kernel
theorem dX8_conflictsWith_36 : decode cX8_conflictsWith 36 = .ok (.aload_n 0, 1) := by decide +kernel
theorem dX8_conflictsWith_37 : decode cX8_conflictsWith 37 = .ok (.getfield 29, 3) := by decide +kernel
theorem dX8_conflictsWith_40 : decode cX8_conflictsWith 40 = .ok (.bipush 10, 2) := by decide +kernel
theorem dX8_conflictsWith_42 : decode cX8_conflictsWith 42 = .ok (.iload 6, 2) := by decide +kernel
theorem dX8_conflictsWith_44 : decode cX8_conflictsWith 44 = .ok (.imul, 1) := by decide +kernel
theorem dX8_conflictsWith_45 : decode cX8_conflictsWith 45 = .ok (.iload_n 1, 1) := by decide +kernel
theorem dX8_conflictsWith_46 : decode cX8_conflictsWith 46 = .ok (.iadd, 1) := by decide +kernel
theorem dX8_conflictsWith_47 : decode cX8_conflictsWith 47 = .ok (.laload, 1) := by decide +kernel
theorem dX8_conflictsWith_48 : decode cX8_conflictsWith 48 = .ok (.lload_n 3, 1) := by decide +kernel
theorem dX8_conflictsWith_49 : decode cX8_conflictsWith 49 = .ok (.ladd, 1) := by decide +kernel
theorem dX8_conflictsWith_50 : decode cX8_conflictsWith 50 = .ok (.lconst 0, 1) := by decide +kernel
theorem dX8_conflictsWith_51 : decode cX8_conflictsWith 51 = .ok (.lcmp, 1) := by decide +kernel
theorem dX8_conflictsWith_52 : decode cX8_conflictsWith 52 = .ok (.ifCond .lt 9, 3) := by decide +kernel
theorem dX8_conflictsWith_55 : decode cX8_conflictsWith 55 = .ok (.iinc 6 1, 3) := by decide +kernel
theorem dX8_conflictsWith_58 : decode cX8_conflictsWith 58 = .ok (.goto (-48), 3) := by decide +kernel
theorem dX8_conflictsWith_61 : decode cX8_conflictsWith 61 = .ok (.aload_n 0, 1) := by decide +kernel
theorem dX8_conflictsWith_62 : decode cX8_conflictsWith 62 = .ok (.iconst 0, 1) := by decide +kernel
theorem dX8_conflictsWith_63 : decode cX8_conflictsWith 63 = .ok (.putfield 136, 3) := by decide +kernel
theorem dX8_conflictsWith_66 : decode cX8_conflictsWith 66 = .ok (.lload_n 3, 1) := by decide +kernel
theorem dX8_conflictsWith_67 : decode cX8_conflictsWith 67 = .ok (.lstore 7, 2) := by decide +kernel
theorem dX8_conflictsWith_69 : decode cX8_conflictsWith 69 = .ok (.iload_n 1, 1) := by decide +kernel
theorem dX8_conflictsWith_70 : decode cX8_conflictsWith 70 = .ok (.istore 9, 2) := by decide +kernel
theorem dX8_conflictsWith_72 : decode cX8_conflictsWith 72 = .ok (.iload 6, 2) := by decide +kernel
theorem dX8_conflictsWith_74 : decode cX8_conflictsWith 74 = .ok (.istore 10, 2) := by decide +kernel
theorem dX8_conflictsWith_76 : decode cX8_conflictsWith 76 = .ok (.iload 10, 2) := by decide +kernel
theorem dX8_conflictsWith_78 : decode cX8_conflictsWith 78 = .ok (.ifCond .le 124, 3) := by decide +kernel
theorem dX8_conflictsWith_81 : decode cX8_conflictsWith 81 = .ok (.iconst 0, 1) := by decide +kernel
theorem dX8_conflictsWith_82 : decode cX8_conflictsWith 82 = .ok (.istore 11, 2) := by decide +kernel
theorem dX8_conflictsWith_84 : decode cX8_conflictsWith 84 = .ok (.iload 11, 2) := by decide +kernel
theorem dX8_conflictsWith_86 : decode cX8_conflictsWith 86 = .ok (.iconst 1, 1) := by decide +kernel
theorem dX8_conflictsWith_87 : decode cX8_conflictsWith 87 = .ok (.iadd, 1) := by decide +kernel
theorem dX8_conflictsWith_88 : decode cX8_conflictsWith 88 = .ok (.aload_n 0, 1) := by decide +kernel
theorem dX8_conflictsWith_89 : decode cX8_conflictsWith 89 = .ok (.invokevirtual 160, 3) := by decide +kernel
theorem dX8_conflictsWith_92 : decode cX8_conflictsWith 92 = .ok (.if_icmp .ge 62, 3) := by decide +kernel
theorem dX8_conflictsWith_95 : decode cX8_conflictsWith 95 = .ok (.iload 11, 2) := by decide +kernel
theorem dX8_conflictsWith_97 : decode cX8_conflictsWith 97 = .ok (.iload 5, 2) := by decide +kernel
theorem dX8_conflictsWith_99 : decode cX8_conflictsWith 99 = .ok (.if_icmp .eq 49, 3) := by decide +kernel
theorem dX8_conflictsWith_102 : decode cX8_conflictsWith 102 = .ok (.aload_n 0, 1) := by decide +kernel
theorem dX8_conflictsWith_103 : decode cX8_conflictsWith 103 = .ok (.getfield 7, 3) := by decide +kernel
theorem dX8_conflictsWith_106 : decode cX8_conflictsWith 106 = .ok (.bipush 24, 2) := by decide +kernel
theorem dX8_conflictsWith_108 : decode cX8_conflictsWith 108 = .ok (.iload 11, 2) := by decide +kernel
theorem dX8_conflictsWith_110 : decode cX8_conflictsWith 110 = .ok (.iadd, 1) := by decide +kernel
theorem dX8_conflictsWith_111 : decode cX8_conflictsWith 111 = .ok (.iaload, 1) := by decide +kernel
theorem dX8_conflictsWith_112 : decode cX8_conflictsWith 112 = .ok (.iload 9, 2) := by decide +kernel
theorem dX8_conflictsWith_114 : decode cX8_conflictsWith 114 = .ok (.if_icmp .ne 34, 3) := by decide +kernel
theorem dX8_conflictsWith_117 : decode cX8_conflictsWith 117 = .ok (.aload_n 0, 1) := by decide +kernel
theorem dX8_conflictsWith_118 : decode cX8_conflictsWith 118 = .ok (.iload 11, 2) := by decide +kernel
theorem dX8_conflictsWith_120 : decode cX8_conflictsWith 120 = .ok (.iload 10, 2) := by decide +kernel
theorem dX8_conflictsWith_122 : decode cX8_conflictsWith 122 = .ok (.invokevirtual 201, 3) := by decide +kernel
theorem dX8_conflictsWith_125 : decode cX8_conflictsWith 125 = .ok (.ldc2_w 151, 3) := by decide +kernel
theorem dX8_conflictsWith_128 : decode cX8_conflictsWith 128 = .ok (.lcmp, 1) := by decide +kernel
theorem dX8_conflictsWith_129 : decode cX8_conflictsWith 129 = .ok (.ifCond .ge 19, 3) := by decide +kernel
theorem dX8_conflictsWith_132 : decode cX8_conflictsWith 132 = .ok (.lload 7, 2) := by decide +kernel
theorem dX8_conflictsWith_134 : decode cX8_conflictsWith 134 = .ok (.aload_n 0, 1) := by decide +kernel
theorem dX8_conflictsWith_135 : decode cX8_conflictsWith 135 = .ok (.iload 11, 2) := by decide +kernel
theorem dX8_conflictsWith_137 : decode cX8_conflictsWith 137 = .ok (.iload 10, 2) := by decide +kernel
theorem dX8_conflictsWith_139 : decode cX8_conflictsWith 139 = .ok (.invokevirtual 201, 3) := by decide +kernel
theorem dX8_conflictsWith_142 : decode cX8_conflictsWith 142 = .ok (.ladd, 1) := by decide +kernel
theorem dX8_conflictsWith_143 : decode cX8_conflictsWith 143 = .ok (.lconst 0, 1) := by decide +kernel
theorem dX8_conflictsWith_144 : decode cX8_conflictsWith 144 = .ok (.lcmp, 1) := by decide +kernel
theorem dX8_conflictsWith_145 : decode cX8_conflictsWith 145 = .ok (.ifCond .lt 9, 3) := by decide +kernel
theorem dX8_conflictsWith_148 : decode cX8_conflictsWith 148 = .ok (.iinc 11 1, 3) := by decide +kernel
theorem dX8_conflictsWith_151 : decode cX8_conflictsWith 151 = .ok (.goto (-67), 3) := by decide +kernel
theorem dX8_conflictsWith_154 : decode cX8_conflictsWith 154 = .ok (.aload_n 0, 1) := by decide +kernel
theorem dX8_conflictsWith_155 : decode cX8_conflictsWith 155 = .ok (.getfield 26, 3) := by decide +kernel
theorem dX8_conflictsWith_158 : decode cX8_conflictsWith 158 = .ok (.aload_n 0, 1) := by decide +kernel
theorem dX8_conflictsWith_159 : decode cX8_conflictsWith 159 = .ok (.getfield 136, 3) := by decide +kernel
theorem dX8_conflictsWith_162 : decode cX8_conflictsWith 162 = .ok (.iload 11, 2) := by decide +kernel
theorem dX8_conflictsWith_164 : decode cX8_conflictsWith 164 = .ok (.iastore, 1) := by decide +kernel
theorem dX8_conflictsWith_165 : decode cX8_conflictsWith 165 = .ok (.aload_n 0, 1) := by decide +kernel
theorem dX8_conflictsWith_166 : decode cX8_conflictsWith 166 = .ok (.dup, 1) := by decide +kernel
theorem dX8_conflictsWith_167 : decode cX8_conflictsWith 167 = .ok (.getfield 136, 3) := by decide +kernel
theorem dX8_conflictsWith_170 : decode cX8_conflictsWith 170 = .ok (.iconst 1, 1) := by decide +kernel
theorem dX8_conflictsWith_171 : decode cX8_conflictsWith 171 = .ok (.iadd, 1) := by decide +kernel
theorem dX8_conflictsWith_172 : decode cX8_conflictsWith 172 = .ok (.putfield 136, 3) := by decide +kernel
theorem dX8_conflictsWith_175 : decode cX8_conflictsWith 175 = .ok (.lload 7, 2) := by decide +kernel
theorem dX8_conflictsWith_177 : decode cX8_conflictsWith 177 = .ok (.aload_n 0, 1) := by decide +kernel
theorem dX8_conflictsWith_178 : decode cX8_conflictsWith 178 = .ok (.iconst 0, 1) := by decide +kernel
theorem dX8_conflictsWith_179 : decode cX8_conflictsWith 179 = .ok (.iload 11, 2) := by decide +kernel
theorem dX8_conflictsWith_181 : decode cX8_conflictsWith 181 = .ok (.invokevirtual 153, 3) := by decide +kernel
theorem dX8_conflictsWith_184 : decode cX8_conflictsWith 184 = .ok (.ladd, 1) := by decide +kernel
theorem dX8_conflictsWith_185 : decode cX8_conflictsWith 185 = .ok (.lstore 7, 2) := by decide +kernel
theorem dX8_conflictsWith_187 : decode cX8_conflictsWith 187 = .ok (.aload_n 0, 1) := by decide +kernel
theorem dX8_conflictsWith_188 : decode cX8_conflictsWith 188 = .ok (.getfield 7, 3) := by decide +kernel
theorem dX8_conflictsWith_191 : decode cX8_conflictsWith 191 = .ok (.iload 11, 2) := by decide +kernel
theorem dX8_conflictsWith_193 : decode cX8_conflictsWith 193 = .ok (.iaload, 1) := by decide +kernel
theorem dX8_conflictsWith_194 : decode cX8_conflictsWith 194 = .ok (.istore 9, 2) := by decide +kernel
theorem dX8_conflictsWith_196 : decode cX8_conflictsWith 196 = .ok (.iinc 10 (-1), 3) := by decide +kernel
theorem dX8_conflictsWith_199 : decode cX8_conflictsWith 199 = .ok (.goto (-123), 3) := by decide +kernel
theorem dX8_conflictsWith_202 : decode cX8_conflictsWith 202 = .ok (.return_, 1) := by decide +kernel
set_option maxRecDepth 20000 in
theorem ggX8_isAllowed_X8_reckons : GoodIn wsX8_isAllowed wsX8_reckons := goodIn_r _ [7, 1, 2, 8, 9, 10, 11, 6, 12, 13, 14, 15, 16, 17, 18, 19, 20, 21, 22, 23, 24, 25, 26, 27, 28, 29, 30, 31, 32, 33, 34, 35, 36, 37, 38, 39] (by decide +kernel) (by decide +kernel)
set_option maxRecDepth 20000 in
theorem gX8_isAllowed_X8_reckons : GoodIn wsX8_isAllowed (wsV RX8 157 RX8 yX8_reckons wsX8_reckons) := goodIn_app (goodIn_of _ (by decide +kernel)) ggX8_isAllowed_X8_reckons
theorem dX8_isAllowed_0 : decode cX8_isAllowed 0 = .ok (.aload_n 0, 1) := by decide +kernel
theorem dX8_isAllowed_1 : decode cX8_isAllowed 1 = .ok (.iconst 0, 1) := by decide +kernel
theorem dX8_isAllowed_2 : decode cX8_isAllowed 2 = .ok (.iload 5, 2) := by decide +kernel
theorem dX8_isAllowed_4 : decode cX8_isAllowed 4 = .ok (.invokevirtual 157, 3) := by decide +kernel
theorem dX8_isAllowed_7 : decode cX8_isAllowed 7 = .ok (.aload_n 0, 1) := by decide +kernel
theorem dX8_isAllowed_8 : decode cX8_isAllowed 8 = .ok (.getfield 22, 3) := by decide +kernel
theorem dX8_isAllowed_11 : decode cX8_isAllowed 11 = .ok (.bipush 10, 2) := by decide +kernel
theorem dX8_isAllowed_13 : decode cX8_isAllowed 13 = .ok (.iload_n 1, 1) := by decide +kernel
theorem dX8_isAllowed_14 : decode cX8_isAllowed 14 = .ok (.imul, 1) := by decide +kernel
theorem dX8_isAllowed_15 : decode cX8_isAllowed 15 = .ok (.iload_n 2, 1) := by decide +kernel
theorem dX8_isAllowed_16 : decode cX8_isAllowed 16 = .ok (.iadd, 1) := by decide +kernel
theorem dX8_isAllowed_17 : decode cX8_isAllowed 17 = .ok (.laload, 1) := by decide +kernel
theorem dX8_isAllowed_18 : decode cX8_isAllowed 18 = .ok (.ldc2_w 151, 3) := by decide +kernel
theorem dX8_isAllowed_21 : decode cX8_isAllowed 21 = .ok (.lcmp, 1) := by decide +kernel
theorem dX8_isAllowed_22 : decode cX8_isAllowed 22 = .ok (.ifCond .ge 21, 3) := by decide +kernel
theorem dX8_isAllowed_25 : decode cX8_isAllowed 25 = .ok (.aload_n 0, 1) := by decide +kernel
theorem dX8_isAllowed_26 : decode cX8_isAllowed 26 = .ok (.getfield 22, 3) := by decide +kernel
theorem dX8_isAllowed_29 : decode cX8_isAllowed 29 = .ok (.bipush 10, 2) := by decide +kernel
theorem dX8_isAllowed_31 : decode cX8_isAllowed 31 = .ok (.iload_n 1, 1) := by decide +kernel
theorem dX8_isAllowed_32 : decode cX8_isAllowed 32 = .ok (.imul, 1) := by decide +kernel
theorem dX8_isAllowed_33 : decode cX8_isAllowed 33 = .ok (.iload_n 2, 1) := by decide +kernel
theorem dX8_isAllowed_34 : decode cX8_isAllowed 34 = .ok (.iadd, 1) := by decide +kernel
theorem dX8_isAllowed_35 : decode cX8_isAllowed 35 = .ok (.laload, 1) := by decide +kernel
theorem dX8_isAllowed_36 : decode cX8_isAllowed 36 = .ok (.lload_n 3, 1) := by decide +kernel
theorem dX8_isAllowed_37 : decode cX8_isAllowed 37 = .ok (.ladd, 1) := by decide +kernel
theorem dX8_isAllowed_38 : decode cX8_isAllowed 38 = .ok (.lconst 0, 1) := by decide +kernel
theorem dX8_isAllowed_39 : decode cX8_isAllowed 39 = .ok (.lcmp, 1) := by decide +kernel
theorem dX8_isAllowed_40 : decode cX8_isAllowed 40 = .ok (.ifCond .lt 7, 3) := by decide +kernel
theorem dX8_isAllowed_43 : decode cX8_isAllowed 43 = .ok (.iconst 1, 1) := by decide +kernel
theorem dX8_isAllowed_44 : decode cX8_isAllowed 44 = .ok (.goto 4, 3) := by decide +kernel
theorem dX8_isAllowed_47 : decode cX8_isAllowed 47 = .ok (.iconst 0, 1) := by decide +kernel
theorem dX8_isAllowed_48 : decode cX8_isAllowed 48 = .ok (.ireturn, 1) := by decide +kernel
set_option maxRecDepth 20000 in
theorem ggX8_isFlag_X8_in : GoodIn wsX8_isFlag wsX8_in := goodIn_r _ [4] (by decide +kernel) (by decide +kernel)
set_option maxRecDepth 20000 in
theorem gX8_isFlag_X8_in : GoodIn wsX8_isFlag (va_wsS RX8 50 yX8_in wsX8_in) := goodIn_app (goodIn_of _ (by decide +kernel)) ggX8_isFlag_X8_in
theorem dX8_isFlag_0 : decode cX8_isFlag 0 = .ok (.iload_n 0, 1) := by decide +kernel
theorem dX8_isFlag_1 : decode cX8_isFlag 1 = .ok (.i2l, 1) := by decide +kernel
theorem dX8_isFlag_2 : decode cX8_isFlag 2 = .ok (.lconst 0, 1) := by decide +kernel
theorem dX8_isFlag_3 : decode cX8_isFlag 3 = .ok (.lconst 1, 1) := by decide +kernel
theorem dX8_isFlag_4 : decode cX8_isFlag 4 = .ok (.invokestatic 50, 3) := by decide +kernel
theorem dX8_isFlag_7 : decode cX8_isFlag 7 = .ok (.ireturn, 1) := by decide +kernel
set_option maxRecDepth 20000 in
theorem ggX8_adds_X8_isPair : GoodIn wsX8_adds wsX8_isPair := goodIn_r _ [4, 5, 6, 3, 7, 8, 9, 10, 11] (by decide +kernel) (by decide +kernel)
set_option maxRecDepth 20000 in
theorem gX8_adds_X8_isPair : GoodIn wsX8_adds (va_wsS RX8 198 yX8_isPair wsX8_isPair) := goodIn_app (goodIn_of _ (by decide +kernel)) ggX8_adds_X8_isPair
set_option maxRecDepth 20000 in
theorem ggX8_adds_X8_isFlag : GoodIn wsX8_adds wsX8_isFlag := goodIn_r _ [14, 9, 10, 3, 11] (by decide +kernel) (by decide +kernel)
set_option maxRecDepth 20000 in
theorem gX8_adds_X8_isFlag : GoodIn wsX8_adds (va_wsS RX8 207 yX8_isFlag wsX8_isFlag) := goodIn_app (goodIn_of _ (by decide +kernel)) ggX8_adds_X8_isFlag
set_option maxRecDepth 20000 in
theorem ggX8_adds_X8_many : GoodIn wsX8_adds wsX8_many := goodIn_r _ [18, 19, 61, 62, 63, 64, 65, 66, 67, 68, 69, 70, 71, 72, 73, 74, 75, 76, 77, 78, 79, 80, 81, 82, 83] (by decide +kernel) (by decide +kernel)
set_option maxRecDepth 20000 in
theorem gX8_adds_X8_many : GoodIn wsX8_adds (wsV RX8 160 RX8 yX8_many wsX8_many) := goodIn_app (goodIn_of _ (by decide +kernel)) ggX8_adds_X8_many
set_option maxRecDepth 20000 in
theorem ggX8_adds_X8_isReal : GoodIn wsX8_adds wsX8_isReal := goodIn_r _ [23, 19, 61, 62, 63, 64, 65, 66, 67, 68, 69, 70, 71, 72, 73, 74, 75, 76, 77, 78, 79, 80, 81, 82, 83] (by decide +kernel) (by decide +kernel)
set_option maxRecDepth 20000 in
theorem gX8_adds_X8_isReal : GoodIn wsX8_adds (wsV RX8 210 RX8 yX8_isReal wsX8_isReal) := goodIn_app (goodIn_of _ (by decide +kernel)) ggX8_adds_X8_isReal
set_option maxRecDepth 20000 in
theorem ggX8_adds_X8_weighed : GoodIn wsX8_adds wsX8_weighed := goodIn_r _ [26, 27] (by decide +kernel) (by decide +kernel)
set_option maxRecDepth 20000 in
theorem gX8_adds_X8_weighed : GoodIn wsX8_adds (va_wsS RX8 141 yX8_weighed wsX8_weighed) := goodIn_app (goodIn_of _ (by decide +kernel)) ggX8_adds_X8_weighed
set_option maxRecDepth 20000 in
theorem ggX8_adds_X8_isAllowed : GoodIn wsX8_adds wsX8_isAllowed := goodIn_r _ [31, 32, 33, 34, 35, 36, 3, 37, 19, 38, 39, 40, 41, 24, 25, 26, 27, 61, 62, 63, 64, 65, 66, 67, 68, 69, 70, 71, 72, 73, 74, 75, 76, 77, 78, 79, 80, 81, 82, 83] (by decide +kernel) (by decide +kernel)
set_option maxRecDepth 20000 in
theorem gX8_adds_X8_isAllowed : GoodIn wsX8_adds (wsV RX8 214 RX8 yX8_isAllowed wsX8_isAllowed) := goodIn_app (goodIn_of _ (by decide +kernel)) ggX8_adds_X8_isAllowed
set_option maxRecDepth 20000 in
theorem ggX8_adds_X8_conflictsWith : GoodIn wsX8_adds wsX8_conflictsWith := goodIn_r _ [45, 46, 33, 47, 19, 48, 49, 50, 51, 3, 52, 15, 16, 17, 18, 53, 54, 55, 56, 38, 39, 40, 41, 24, 25, 26, 27, 61, 62, 63, 64, 65, 66, 67, 68, 69, 70, 71, 72, 73, 74, 75, 76, 77, 78, 79, 80, 81, 82, 83] (by decide +kernel) (by decide +kernel)
set_option maxRecDepth 20000 in
theorem gX8_adds_X8_conflictsWith : GoodIn wsX8_adds (wsV RX8 218 RX8 yX8_conflictsWith wsX8_conflictsWith) := goodIn_app (goodIn_of _ (by decide +kernel)) ggX8_adds_X8_conflictsWith
set_option maxRecDepth 20000 in
theorem ggX8_adds_X8_puts : GoodIn wsX8_adds wsX8_puts := goodIn_r _ [60, 19, 61, 62, 63, 64, 65, 66, 67, 68, 69, 70, 71, 72, 73, 74, 75, 76, 77, 78, 79, 80, 81, 82, 83] (by decide +kernel) (by decide +kernel)
set_option maxRecDepth 20000 in
theorem gX8_adds_X8_puts : GoodIn wsX8_adds (wsV RX8 104 RX8 yX8_puts wsX8_puts) := goodIn_app (goodIn_of _ (by decide +kernel)) ggX8_adds_X8_puts
theorem dX8_adds_0 : decode cX8_adds 0 = .ok (.iload_n 1, 1) := by decide +kernel
theorem dX8_adds_1 : decode cX8_adds 1 = .ok (.iload_n 2, 1) := by decide +kernel
theorem dX8_adds_2 : decode cX8_adds 2 = .ok (.invokestatic 198, 3) := by decide +kernel
theorem dX8_adds_5 : decode cX8_adds 5 = .ok (.ifCond .eq 11, 3) := by decide +kernel
theorem dX8_adds_8 : decode cX8_adds 8 = .ok (.iload 4, 2) := by decide +kernel
theorem dX8_adds_10 : decode cX8_adds 10 = .ok (.invokestatic 207, 3) := by decide +kernel
theorem dX8_adds_13 : decode cX8_adds 13 = .ok (.ifCond .ne 5, 3) := by decide +kernel
theorem dX8_adds_16 : decode cX8_adds 16 = .ok (.iconst (-1), 1) := by decide +kernel
theorem dX8_adds_17 : decode cX8_adds 17 = .ok (.ireturn, 1) := by decide +kernel
theorem dX8_adds_18 : decode cX8_adds 18 = .ok (.aload_n 0, 1) := by decide +kernel
theorem dX8_adds_19 : decode cX8_adds 19 = .ok (.invokevirtual 160, 3) := by decide +kernel
theorem dX8_adds_22 : decode cX8_adds 22 = .ok (.bipush 24, 2) := by decide +kernel
theorem dX8_adds_24 : decode cX8_adds 24 = .ok (.if_icmp .ne 6, 3) := by decide +kernel
theorem dX8_adds_27 : decode cX8_adds 27 = .ok (.bipush (-3), 2) := by decide +kernel
theorem dX8_adds_29 : decode cX8_adds 29 = .ok (.ireturn, 1) := by decide +kernel
theorem dX8_adds_30 : decode cX8_adds 30 = .ok (.aload_n 0, 1) := by decide +kernel
theorem dX8_adds_31 : decode cX8_adds 31 = .ok (.invokevirtual 210, 3) := by decide +kernel
theorem dX8_adds_34 : decode cX8_adds 34 = .ok (.iload_n 3, 1) := by decide +kernel
theorem dX8_adds_35 : decode cX8_adds 35 = .ok (.iload 4, 2) := by decide +kernel
theorem dX8_adds_37 : decode cX8_adds 37 = .ok (.invokestatic 141, 3) := by decide +kernel
theorem dX8_adds_40 : decode cX8_adds 40 = .ok (.lstore 5, 2) := by decide +kernel
theorem dX8_adds_42 : decode cX8_adds 42 = .ok (.aload_n 0, 1) := by decide +kernel
theorem dX8_adds_43 : decode cX8_adds 43 = .ok (.iload_n 1, 1) := by decide +kernel
theorem dX8_adds_44 : decode cX8_adds 44 = .ok (.iload_n 2, 1) := by decide +kernel
theorem dX8_adds_45 : decode cX8_adds 45 = .ok (.lload 5, 2) := by decide +kernel
theorem dX8_adds_47 : decode cX8_adds 47 = .ok (.bipush (-4), 2) := by decide +kernel
theorem dX8_adds_49 : decode cX8_adds 49 = .ok (.invokevirtual 214, 3) := by decide +kernel
theorem dX8_adds_52 : decode cX8_adds 52 = .ok (.ifCond .ne 16, 3) := by decide +kernel
theorem dX8_adds_55 : decode cX8_adds 55 = .ok (.aload_n 0, 1) := by decide +kernel
theorem dX8_adds_56 : decode cX8_adds 56 = .ok (.iload_n 1, 1) := by decide +kernel
theorem dX8_adds_57 : decode cX8_adds 57 = .ok (.iload_n 2, 1) := by decide +kernel
theorem dX8_adds_58 : decode cX8_adds 58 = .ok (.lload 5, 2) := by decide +kernel
theorem dX8_adds_60 : decode cX8_adds 60 = .ok (.bipush (-4), 2) := by decide +kernel
theorem dX8_adds_62 : decode cX8_adds 62 = .ok (.invokevirtual 218, 3) := by decide +kernel
theorem dX8_adds_65 : decode cX8_adds 65 = .ok (.bipush (-2), 2) := by decide +kernel
theorem dX8_adds_67 : decode cX8_adds 67 = .ok (.ireturn, 1) := by decide +kernel
theorem dX8_adds_68 : decode cX8_adds 68 = .ok (.aload_n 0, 1) := by decide +kernel
theorem dX8_adds_69 : decode cX8_adds 69 = .ok (.iconst 0, 1) := by decide +kernel
theorem dX8_adds_70 : decode cX8_adds 70 = .ok (.iload_n 1, 1) := by decide +kernel
theorem dX8_adds_71 : decode cX8_adds 71 = .ok (.iload_n 2, 1) := by decide +kernel
theorem dX8_adds_72 : decode cX8_adds 72 = .ok (.iload_n 3, 1) := by decide +kernel
theorem dX8_adds_73 : decode cX8_adds 73 = .ok (.iload 4, 2) := by decide +kernel
theorem dX8_adds_75 : decode cX8_adds 75 = .ok (.invokevirtual 104, 3) := by decide +kernel
theorem dX8_adds_78 : decode cX8_adds 78 = .ok (.aload_n 0, 1) := by decide +kernel
theorem dX8_adds_79 : decode cX8_adds 79 = .ok (.invokevirtual 160, 3) := by decide +kernel
theorem dX8_adds_82 : decode cX8_adds 82 = .ok (.ireturn, 1) := by decide +kernel
set_option maxRecDepth 20000 in
theorem ggX8_add_X8_adds : GoodIn wsX8_add wsX8_adds := goodIn_r _ [5, 6, 7, 4, 8, 9, 10, 11, 12, 13, 14, 15, 16, 17, 18, 19, 20, 21, 22, 23, 24, 25, 26, 27, 28, 29, 30, 31, 32, 33, 34, 35, 36, 37, 38, 39, 40, 41, 42, 43, 44, 45, 46, 47, 48, 49, 50, 51, 52, 53, 54, 55, 56, 57, 58, 59, 60, 61, 62, 63, 64, 65, 66, 67, 68, 69, 70, 71, 72, 73, 74, 75, 76, 77, 78, 79, 80, 81, 82, 83, 84, 85, 86, 87] (by decide +kernel) (by decide +kernel)
set_option maxRecDepth 20000 in
theorem gX8_add_X8_adds : GoodIn wsX8_add (wsV RX8 222 RX8 yX8_adds wsX8_adds) := goodIn_app (goodIn_of _ (by decide +kernel)) ggX8_add_X8_adds
theorem dX8_add_0 : decode cX8_add 0 = .ok (.aload_n 0, 1) := by decide +kernel
theorem dX8_add_1 : decode cX8_add 1 = .ok (.iload_n 1, 1) := by decide +kernel
theorem dX8_add_2 : decode cX8_add 2 = .ok (.iload_n 2, 1) := by decide +kernel
theorem dX8_add_3 : decode cX8_add 3 = .ok (.iload_n 3, 1) := by decide +kernel
theorem dX8_add_4 : decode cX8_add 4 = .ok (.iload 4, 2) := by decide +kernel
theorem dX8_add_6 : decode cX8_add 6 = .ok (.invokevirtual 222, 3) := by decide +kernel
theorem dX8_add_9 : decode cX8_add 9 = .ok (.ireturn, 1) := by decide +kernel
set_option maxRecDepth 20000 in
theorem ggX8_may_X8_isPair : GoodIn wsX8_may wsX8_isPair := goodIn_r _ [4, 5, 6, 3, 7, 8, 9, 10, 11] (by decide +kernel) (by decide +kernel)
set_option maxRecDepth 20000 in
theorem gX8_may_X8_isPair : GoodIn wsX8_may (va_wsS RX8 198 yX8_isPair wsX8_isPair) := goodIn_app (goodIn_of _ (by decide +kernel)) ggX8_may_X8_isPair
set_option maxRecDepth 20000 in
theorem ggX8_may_X8_isFlag : GoodIn wsX8_may wsX8_isFlag := goodIn_r _ [14, 9, 10, 3, 11] (by decide +kernel) (by decide +kernel)
set_option maxRecDepth 20000 in
theorem gX8_may_X8_isFlag : GoodIn wsX8_may (va_wsS RX8 207 yX8_isFlag wsX8_isFlag) := goodIn_app (goodIn_of _ (by decide +kernel)) ggX8_may_X8_isFlag
set_option maxRecDepth 20000 in
theorem ggX8_may_X8_isReal : GoodIn wsX8_may wsX8_isReal := goodIn_r _ [18, 19, 38, 39, 40, 41, 42, 43, 44, 45, 46, 47, 48, 49, 50, 51, 52, 53, 54, 55, 56, 57, 58, 59, 60] (by decide +kernel) (by decide +kernel)
set_option maxRecDepth 20000 in
theorem gX8_may_X8_isReal : GoodIn wsX8_may (wsV RX8 210 RX8 yX8_isReal wsX8_isReal) := goodIn_app (goodIn_of _ (by decide +kernel)) ggX8_may_X8_isReal
set_option maxRecDepth 20000 in
theorem ggX8_may_X8_weighed : GoodIn wsX8_may wsX8_weighed := goodIn_r _ [22, 23] (by decide +kernel) (by decide +kernel)
set_option maxRecDepth 20000 in
theorem gX8_may_X8_weighed : GoodIn wsX8_may (va_wsS RX8 141 yX8_weighed wsX8_weighed) := goodIn_app (goodIn_of _ (by decide +kernel)) ggX8_may_X8_weighed
set_option maxRecDepth 20000 in
theorem ggX8_may_X8_isAllowed : GoodIn wsX8_may wsX8_isAllowed := goodIn_r _ [27, 28, 29, 30, 31, 32, 3, 33, 19, 34, 35, 36, 37, 20, 21, 22, 23, 38, 39, 40, 41, 42, 43, 44, 45, 46, 47, 48, 49, 50, 51, 52, 53, 54, 55, 56, 57, 58, 59, 60] (by decide +kernel) (by decide +kernel)
set_option maxRecDepth 20000 in
theorem gX8_may_X8_isAllowed : GoodIn wsX8_may (wsV RX8 214 RX8 yX8_isAllowed wsX8_isAllowed) := goodIn_app (goodIn_of _ (by decide +kernel)) ggX8_may_X8_isAllowed
theorem dX8_may_0 : decode cX8_may 0 = .ok (.iload_n 1, 1) := by decide +kernel
theorem dX8_may_1 : decode cX8_may 1 = .ok (.iload_n 2, 1) := by decide +kernel
theorem dX8_may_2 : decode cX8_may 2 = .ok (.invokestatic 198, 3) := by decide +kernel
theorem dX8_may_5 : decode cX8_may 5 = .ok (.ifCond .eq 11, 3) := by decide +kernel
theorem dX8_may_8 : decode cX8_may 8 = .ok (.iload 4, 2) := by decide +kernel
theorem dX8_may_10 : decode cX8_may 10 = .ok (.invokestatic 207, 3) := by decide +kernel
theorem dX8_may_13 : decode cX8_may 13 = .ok (.ifCond .ne 5, 3) := by decide +kernel
theorem dX8_may_16 : decode cX8_may 16 = .ok (.iconst (-1), 1) := by decide +kernel
theorem dX8_may_17 : decode cX8_may 17 = .ok (.ireturn, 1) := by decide +kernel
theorem dX8_may_18 : decode cX8_may 18 = .ok (.aload_n 0, 1) := by decide +kernel
theorem dX8_may_19 : decode cX8_may 19 = .ok (.iload_n 1, 1) := by decide +kernel
theorem dX8_may_20 : decode cX8_may 20 = .ok (.iload_n 2, 1) := by decide +kernel
theorem dX8_may_21 : decode cX8_may 21 = .ok (.aload_n 0, 1) := by decide +kernel
theorem dX8_may_22 : decode cX8_may 22 = .ok (.invokevirtual 210, 3) := by decide +kernel
theorem dX8_may_25 : decode cX8_may 25 = .ok (.iload_n 3, 1) := by decide +kernel
theorem dX8_may_26 : decode cX8_may 26 = .ok (.iload 4, 2) := by decide +kernel
theorem dX8_may_28 : decode cX8_may 28 = .ok (.invokestatic 141, 3) := by decide +kernel
theorem dX8_may_31 : decode cX8_may 31 = .ok (.bipush (-4), 2) := by decide +kernel
theorem dX8_may_33 : decode cX8_may 33 = .ok (.invokevirtual 214, 3) := by decide +kernel
theorem dX8_may_36 : decode cX8_may 36 = .ok (.ifCond .eq 7, 3) := by decide +kernel
theorem dX8_may_39 : decode cX8_may 39 = .ok (.iconst 1, 1) := by decide +kernel
theorem dX8_may_40 : decode cX8_may 40 = .ok (.goto 4, 3) := by decide +kernel
theorem dX8_may_43 : decode cX8_may 43 = .ok (.iconst 0, 1) := by decide +kernel
theorem dX8_may_44 : decode cX8_may 44 = .ok (.ireturn, 1) := by decide +kernel
theorem dX8_conflict_0 : decode cX8_conflict 0 = .ok (.iload_n 1, 1) := by decide +kernel
theorem dX8_conflict_1 : decode cX8_conflict 1 = .ok (.ifCond .ge 7, 3) := by decide +kernel
theorem dX8_conflict_4 : decode cX8_conflict 4 = .ok (.iconst (-1), 1) := by decide +kernel
theorem dX8_conflict_5 : decode cX8_conflict 5 = .ok (.goto 22, 3) := by decide +kernel
theorem dX8_conflict_8 : decode cX8_conflict 8 = .ok (.iload_n 1, 1) := by decide +kernel
theorem dX8_conflict_9 : decode cX8_conflict 9 = .ok (.aload_n 0, 1) := by decide +kernel
theorem dX8_conflict_10 : decode cX8_conflict 10 = .ok (.getfield 136, 3) := by decide +kernel
theorem dX8_conflict_13 : decode cX8_conflict 13 = .ok (.if_icmp .ge 12, 3) := by decide +kernel
theorem dX8_conflict_16 : decode cX8_conflict 16 = .ok (.aload_n 0, 1) := by decide +kernel
theorem dX8_conflict_17 : decode cX8_conflict 17 = .ok (.getfield 26, 3) := by decide +kernel
theorem dX8_conflict_20 : decode cX8_conflict 20 = .ok (.iload_n 1, 1) := by decide +kernel
theorem dX8_conflict_21 : decode cX8_conflict 21 = .ok (.iaload, 1) := by decide +kernel
theorem dX8_conflict_22 : decode cX8_conflict 22 = .ok (.goto 5, 3) := by decide +kernel
theorem dX8_conflict_25 : decode cX8_conflict 25 = .ok (.bipush (-4), 2) := by decide +kernel
theorem dX8_conflict_27 : decode cX8_conflict 27 = .ok (.ireturn, 1) := by decide +kernel
set_option maxRecDepth 20000 in
theorem ggX8_drop_X8_isBound : GoodIn wsX8_drop wsX8_isBound := goodIn_r _ [6, 7, 8, 9, 5, 10, 1, 11, 12, 13, 14, 15, 16, 17, 18, 19, 20, 21, 22, 23, 24, 25, 26, 27, 28, 29, 30, 31, 32, 33, 34, 35, 36] (by decide +kernel) (by decide +kernel)
set_option maxRecDepth 20000 in
theorem gX8_drop_X8_isBound : GoodIn wsX8_drop (wsV RX8 190 RX8 yX8_isBound wsX8_isBound) := goodIn_app (goodIn_of _ (by decide +kernel)) ggX8_drop_X8_isBound
set_option maxRecDepth 20000 in
theorem ggX8_drop_X8_many : GoodIn wsX8_drop wsX8_many := goodIn_r _ [10, 1, 14, 15, 16, 17, 18, 19, 20, 21, 22, 23, 24, 25, 26, 27, 28, 29, 30, 31, 32, 33, 34, 35, 36] (by decide +kernel) (by decide +kernel)
set_option maxRecDepth 20000 in
theorem gX8_drop_X8_many : GoodIn wsX8_drop (wsV RX8 160 RX8 yX8_many wsX8_many) := goodIn_app (goodIn_of _ (by decide +kernel)) ggX8_drop_X8_many
theorem dX8_drop_0 : decode cX8_drop 0 = .ok (.aload_n 0, 1) := by decide +kernel
theorem dX8_drop_1 : decode cX8_drop 1 = .ok (.iload_n 1, 1) := by decide +kernel
theorem dX8_drop_2 : decode cX8_drop 2 = .ok (.invokevirtual 190, 3) := by decide +kernel
theorem dX8_drop_5 : decode cX8_drop 5 = .ok (.ifCond .ne 5, 3) := by decide +kernel
theorem dX8_drop_8 : decode cX8_drop 8 = .ok (.iconst (-1), 1) := by decide +kernel
theorem dX8_drop_9 : decode cX8_drop 9 = .ok (.ireturn, 1) := by decide +kernel
theorem dX8_drop_10 : decode cX8_drop 10 = .ok (.iload_n 1, 1) := by decide +kernel
theorem dX8_drop_11 : decode cX8_drop 11 = .ok (.istore_n 2, 1) := by decide +kernel
theorem dX8_drop_12 : decode cX8_drop 12 = .ok (.iload_n 2, 1) := by decide +kernel
theorem dX8_drop_13 : decode cX8_drop 13 = .ok (.iconst 1, 1) := by decide +kernel
theorem dX8_drop_14 : decode cX8_drop 14 = .ok (.iadd, 1) := by decide +kernel
theorem dX8_drop_15 : decode cX8_drop 15 = .ok (.aload_n 0, 1) := by decide +kernel
theorem dX8_drop_16 : decode cX8_drop 16 = .ok (.invokevirtual 160, 3) := by decide +kernel
theorem dX8_drop_19 : decode cX8_drop 19 = .ok (.if_icmp .ge 46, 3) := by decide +kernel
theorem dX8_drop_22 : decode cX8_drop 22 = .ok (.iconst 0, 1) := by decide +kernel
theorem dX8_drop_23 : decode cX8_drop 23 = .ok (.istore_n 3, 1) := by decide +kernel
theorem dX8_drop_24 : decode cX8_drop 24 = .ok (.iload_n 3, 1) := by decide +kernel
theorem dX8_drop_25 : decode cX8_drop 25 = .ok (.iconst 4, 1) := by decide +kernel
theorem dX8_drop_26 : decode cX8_drop 26 = .ok (.if_icmp .ge 33, 3) := by decide +kernel
theorem dX8_drop_29 : decode cX8_drop 29 = .ok (.aload_n 0, 1) := by decide +kernel
theorem dX8_drop_30 : decode cX8_drop 30 = .ok (.getfield 7, 3) := by decide +kernel
theorem dX8_drop_33 : decode cX8_drop 33 = .ok (.bipush 24, 2) := by decide +kernel
theorem dX8_drop_35 : decode cX8_drop 35 = .ok (.iload_n 3, 1) := by decide +kernel
theorem dX8_drop_36 : decode cX8_drop 36 = .ok (.imul, 1) := by decide +kernel
theorem dX8_drop_37 : decode cX8_drop 37 = .ok (.iload_n 2, 1) := by decide +kernel
theorem dX8_drop_38 : decode cX8_drop 38 = .ok (.iadd, 1) := by decide +kernel
theorem dX8_drop_39 : decode cX8_drop 39 = .ok (.aload_n 0, 1) := by decide +kernel
theorem dX8_drop_40 : decode cX8_drop 40 = .ok (.getfield 7, 3) := by decide +kernel
theorem dX8_drop_43 : decode cX8_drop 43 = .ok (.bipush 24, 2) := by decide +kernel
theorem dX8_drop_45 : decode cX8_drop 45 = .ok (.iload_n 3, 1) := by decide +kernel
theorem dX8_drop_46 : decode cX8_drop 46 = .ok (.imul, 1) := by decide +kernel
theorem dX8_drop_47 : decode cX8_drop 47 = .ok (.iload_n 2, 1) := by decide +kernel
theorem dX8_drop_48 : decode cX8_drop 48 = .ok (.iadd, 1) := by decide +kernel
theorem dX8_drop_49 : decode cX8_drop 49 = .ok (.iconst 1, 1) := by decide +kernel
theorem dX8_drop_50 : decode cX8_drop 50 = .ok (.iadd, 1) := by decide +kernel
theorem dX8_drop_51 : decode cX8_drop 51 = .ok (.iaload, 1) := by decide +kernel
theorem dX8_drop_52 : decode cX8_drop 52 = .ok (.iastore, 1) := by decide +kernel
theorem dX8_drop_53 : decode cX8_drop 53 = .ok (.iinc 3 1, 3) := by decide +kernel
theorem dX8_drop_56 : decode cX8_drop 56 = .ok (.goto (-32), 3) := by decide +kernel
theorem dX8_drop_59 : decode cX8_drop 59 = .ok (.iinc 2 1, 3) := by decide +kernel
theorem dX8_drop_62 : decode cX8_drop 62 = .ok (.goto (-50), 3) := by decide +kernel
theorem dX8_drop_65 : decode cX8_drop 65 = .ok (.aload_n 0, 1) := by decide +kernel
theorem dX8_drop_66 : decode cX8_drop 66 = .ok (.getfield 7, 3) := by decide +kernel
theorem dX8_drop_69 : decode cX8_drop 69 = .ok (.bipush 104, 2) := by decide +kernel
theorem dX8_drop_71 : decode cX8_drop 71 = .ok (.dup2, 1) := by decide +kernel
theorem dX8_drop_72 : decode cX8_drop 72 = .ok (.iaload, 1) := by decide +kernel
theorem dX8_drop_73 : decode cX8_drop 73 = .ok (.iconst 1, 1) := by decide +kernel
theorem dX8_drop_74 : decode cX8_drop 74 = .ok (.isub, 1) := by decide +kernel
theorem dX8_drop_75 : decode cX8_drop 75 = .ok (.iastore, 1) := by decide +kernel
theorem dX8_drop_76 : decode cX8_drop 76 = .ok (.iconst 0, 1) := by decide +kernel
theorem dX8_drop_77 : decode cX8_drop 77 = .ok (.istore_n 2, 1) := by decide +kernel
theorem dX8_drop_78 : decode cX8_drop 78 = .ok (.iload_n 2, 1) := by decide +kernel
theorem dX8_drop_79 : decode cX8_drop 79 = .ok (.aload_n 0, 1) := by decide +kernel
theorem dX8_drop_80 : decode cX8_drop 80 = .ok (.getfield 7, 3) := by decide +kernel
theorem dX8_drop_83 : decode cX8_drop 83 = .ok (.bipush 106, 2) := by decide +kernel
theorem dX8_drop_85 : decode cX8_drop 85 = .ok (.iaload, 1) := by decide +kernel
theorem dX8_drop_86 : decode cX8_drop 86 = .ok (.if_icmp .ge 39, 3) := by decide +kernel
theorem dX8_drop_89 : decode cX8_drop 89 = .ok (.aload_n 0, 1) := by decide +kernel
theorem dX8_drop_90 : decode cX8_drop 90 = .ok (.getfield 7, 3) := by decide +kernel
theorem dX8_drop_93 : decode cX8_drop 93 = .ok (.bipush 96, 2) := by decide +kernel
theorem dX8_drop_95 : decode cX8_drop 95 = .ok (.iload_n 2, 1) := by decide +kernel
theorem dX8_drop_96 : decode cX8_drop 96 = .ok (.iadd, 1) := by decide +kernel
theorem dX8_drop_97 : decode cX8_drop 97 = .ok (.dup2, 1) := by decide +kernel
theorem dX8_drop_98 : decode cX8_drop 98 = .ok (.iaload, 1) := by decide +kernel
theorem dX8_drop_99 : decode cX8_drop 99 = .ok (.aload_n 0, 1) := by decide +kernel
theorem dX8_drop_100 : decode cX8_drop 100 = .ok (.getfield 7, 3) := by decide +kernel
theorem dX8_drop_103 : decode cX8_drop 103 = .ok (.bipush 96, 2) := by decide +kernel
theorem dX8_drop_105 : decode cX8_drop 105 = .ok (.iload_n 2, 1) := by decide +kernel
theorem dX8_drop_106 : decode cX8_drop 106 = .ok (.iadd, 1) := by decide +kernel
theorem dX8_drop_107 : decode cX8_drop 107 = .ok (.iaload, 1) := by decide +kernel
theorem dX8_drop_108 : decode cX8_drop 108 = .ok (.iload_n 1, 1) := by decide +kernel
theorem dX8_drop_109 : decode cX8_drop 109 = .ok (.if_icmp .le 7, 3) := by decide +kernel
theorem dX8_drop_112 : decode cX8_drop 112 = .ok (.iconst 1, 1) := by decide +kernel
theorem dX8_drop_113 : decode cX8_drop 113 = .ok (.goto 4, 3) := by decide +kernel
theorem dX8_drop_116 : decode cX8_drop 116 = .ok (.iconst 0, 1) := by decide +kernel
theorem dX8_drop_117 : decode cX8_drop 117 = .ok (.isub, 1) := by decide +kernel
theorem dX8_drop_118 : decode cX8_drop 118 = .ok (.iastore, 1) := by decide +kernel
theorem dX8_drop_119 : decode cX8_drop 119 = .ok (.iinc 2 1, 3) := by decide +kernel
theorem dX8_drop_122 : decode cX8_drop 122 = .ok (.goto (-44), 3) := by decide +kernel
theorem dX8_drop_125 : decode cX8_drop 125 = .ok (.aload_n 0, 1) := by decide +kernel
theorem dX8_drop_126 : decode cX8_drop 126 = .ok (.invokevirtual 160, 3) := by decide +kernel
theorem dX8_drop_129 : decode cX8_drop 129 = .ok (.ireturn, 1) := by decide +kernel
set_option maxRecDepth 20000 in
theorem ggX8_change_X8_isBound : GoodIn wsX8_change wsX8_isBound := goodIn_r _ [6, 7, 8, 9, 5, 10, 1, 11, 12, 13, 51, 52, 53, 54, 55, 56, 57, 58, 59, 60, 61, 62, 63, 64, 65, 66, 67, 68, 69, 70, 71, 72, 73] (by decide +kernel) (by decide +kernel)
set_option maxRecDepth 20000 in
theorem gX8_change_X8_isBound : GoodIn wsX8_change (wsV RX8 190 RX8 yX8_isBound wsX8_isBound) := goodIn_app (goodIn_of _ (by decide +kernel)) ggX8_change_X8_isBound
set_option maxRecDepth 20000 in
theorem ggX8_change_X8_isReal : GoodIn wsX8_change wsX8_isReal := goodIn_r _ [17, 1, 51, 52, 53, 54, 55, 56, 57, 58, 59, 60, 61, 62, 63, 64, 65, 66, 67, 68, 69, 70, 71, 72, 73] (by decide +kernel) (by decide +kernel)
set_option maxRecDepth 20000 in
theorem gX8_change_X8_isReal : GoodIn wsX8_change (wsV RX8 210 RX8 yX8_isReal wsX8_isReal) := goodIn_app (goodIn_of _ (by decide +kernel)) ggX8_change_X8_isReal
set_option maxRecDepth 20000 in
theorem ggX8_change_X8_weighed : GoodIn wsX8_change wsX8_weighed := goodIn_r _ [20, 21] (by decide +kernel) (by decide +kernel)
set_option maxRecDepth 20000 in
theorem gX8_change_X8_weighed : GoodIn wsX8_change (va_wsS RX8 141 yX8_weighed wsX8_weighed) := goodIn_app (goodIn_of _ (by decide +kernel)) ggX8_change_X8_weighed
set_option maxRecDepth 20000 in
theorem ggX8_change_X8_isAllowed : GoodIn wsX8_change wsX8_isAllowed := goodIn_r _ [25, 26, 27, 28, 29, 30, 5, 31, 1, 32, 33, 34, 35, 18, 19, 20, 21, 51, 52, 53, 54, 55, 56, 57, 58, 59, 60, 61, 62, 63, 64, 65, 66, 67, 68, 69, 70, 71, 72, 73] (by decide +kernel) (by decide +kernel)
set_option maxRecDepth 20000 in
theorem gX8_change_X8_isAllowed : GoodIn wsX8_change (wsV RX8 214 RX8 yX8_isAllowed wsX8_isAllowed) := goodIn_app (goodIn_of _ (by decide +kernel)) ggX8_change_X8_isAllowed
set_option maxRecDepth 20000 in
theorem ggX8_change_X8_conflictsWith : GoodIn wsX8_change wsX8_conflictsWith := goodIn_r _ [39, 40, 27, 41, 1, 42, 43, 44, 45, 5, 46, 7, 8, 9, 10, 47, 48, 49, 50, 32, 33, 34, 35, 18, 19, 20, 21, 51, 52, 53, 54, 55, 56, 57, 58, 59, 60, 61, 62, 63, 64, 65, 66, 67, 68, 69, 70, 71, 72, 73] (by decide +kernel) (by decide +kernel)
set_option maxRecDepth 20000 in
theorem gX8_change_X8_conflictsWith : GoodIn wsX8_change (wsV RX8 218 RX8 yX8_conflictsWith wsX8_conflictsWith) := goodIn_app (goodIn_of _ (by decide +kernel)) ggX8_change_X8_conflictsWith
theorem dX8_change_0 : decode cX8_change 0 = .ok (.aload_n 0, 1) := by decide +kernel
theorem dX8_change_1 : decode cX8_change 1 = .ok (.iload_n 1, 1) := by decide +kernel
theorem dX8_change_2 : decode cX8_change 2 = .ok (.invokevirtual 190, 3) := by decide +kernel
theorem dX8_change_5 : decode cX8_change 5 = .ok (.ifCond .ne 5, 3) := by decide +kernel
theorem dX8_change_8 : decode cX8_change 8 = .ok (.iconst (-1), 1) := by decide +kernel
theorem dX8_change_9 : decode cX8_change 9 = .ok (.ireturn, 1) := by decide +kernel
theorem dX8_change_10 : decode cX8_change 10 = .ok (.aload_n 0, 1) := by decide +kernel
theorem dX8_change_11 : decode cX8_change 11 = .ok (.invokevirtual 210, 3) := by decide +kernel
theorem dX8_change_14 : decode cX8_change 14 = .ok (.iload_n 2, 1) := by decide +kernel
theorem dX8_change_15 : decode cX8_change 15 = .ok (.aload_n 0, 1) := by decide +kernel
theorem dX8_change_16 : decode cX8_change 16 = .ok (.getfield 7, 3) := by decide +kernel
theorem dX8_change_19 : decode cX8_change 19 = .ok (.bipush 72, 2) := by decide +kernel
theorem dX8_change_21 : decode cX8_change 21 = .ok (.iload_n 1, 1) := by decide +kernel
theorem dX8_change_22 : decode cX8_change 22 = .ok (.iadd, 1) := by decide +kernel
theorem dX8_change_23 : decode cX8_change 23 = .ok (.iaload, 1) := by decide +kernel
theorem dX8_change_24 : decode cX8_change 24 = .ok (.invokestatic 141, 3) := by decide +kernel
theorem dX8_change_27 : decode cX8_change 27 = .ok (.lstore_n 3, 1) := by decide +kernel
theorem dX8_change_28 : decode cX8_change 28 = .ok (.aload_n 0, 1) := by decide +kernel
theorem dX8_change_29 : decode cX8_change 29 = .ok (.aload_n 0, 1) := by decide +kernel
theorem dX8_change_30 : decode cX8_change 30 = .ok (.getfield 7, 3) := by decide +kernel
theorem dX8_change_33 : decode cX8_change 33 = .ok (.iload_n 1, 1) := by decide +kernel
theorem dX8_change_34 : decode cX8_change 34 = .ok (.iaload, 1) := by decide +kernel
theorem dX8_change_35 : decode cX8_change 35 = .ok (.aload_n 0, 1) := by decide +kernel
theorem dX8_change_36 : decode cX8_change 36 = .ok (.getfield 7, 3) := by decide +kernel
theorem dX8_change_39 : decode cX8_change 39 = .ok (.bipush 24, 2) := by decide +kernel
theorem dX8_change_41 : decode cX8_change 41 = .ok (.iload_n 1, 1) := by decide +kernel
theorem dX8_change_42 : decode cX8_change 42 = .ok (.iadd, 1) := by decide +kernel
theorem dX8_change_43 : decode cX8_change 43 = .ok (.iaload, 1) := by decide +kernel
theorem dX8_change_44 : decode cX8_change 44 = .ok (.lload_n 3, 1) := by decide +kernel
theorem dX8_change_45 : decode cX8_change 45 = .ok (.iload_n 1, 1) := by decide +kernel
theorem dX8_change_46 : decode cX8_change 46 = .ok (.invokevirtual 214, 3) := by decide +kernel
theorem dX8_change_49 : decode cX8_change 49 = .ok (.ifCond .ne 27, 3) := by decide +kernel
theorem dX8_change_52 : decode cX8_change 52 = .ok (.aload_n 0, 1) := by decide +kernel
theorem dX8_change_53 : decode cX8_change 53 = .ok (.aload_n 0, 1) := by decide +kernel
theorem dX8_change_54 : decode cX8_change 54 = .ok (.getfield 7, 3) := by decide +kernel
theorem dX8_change_57 : decode cX8_change 57 = .ok (.iload_n 1, 1) := by decide +kernel
theorem dX8_change_58 : decode cX8_change 58 = .ok (.iaload, 1) := by decide +kernel
theorem dX8_change_59 : decode cX8_change 59 = .ok (.aload_n 0, 1) := by decide +kernel
theorem dX8_change_60 : decode cX8_change 60 = .ok (.getfield 7, 3) := by decide +kernel
theorem dX8_change_63 : decode cX8_change 63 = .ok (.bipush 24, 2) := by decide +kernel
theorem dX8_change_65 : decode cX8_change 65 = .ok (.iload_n 1, 1) := by decide +kernel
theorem dX8_change_66 : decode cX8_change 66 = .ok (.iadd, 1) := by decide +kernel
theorem dX8_change_67 : decode cX8_change 67 = .ok (.iaload, 1) := by decide +kernel
theorem dX8_change_68 : decode cX8_change 68 = .ok (.lload_n 3, 1) := by decide +kernel
theorem dX8_change_69 : decode cX8_change 69 = .ok (.iload_n 1, 1) := by decide +kernel
theorem dX8_change_70 : decode cX8_change 70 = .ok (.invokevirtual 218, 3) := by decide +kernel
theorem dX8_change_73 : decode cX8_change 73 = .ok (.bipush (-2), 2) := by decide +kernel
theorem dX8_change_75 : decode cX8_change 75 = .ok (.ireturn, 1) := by decide +kernel
theorem dX8_change_76 : decode cX8_change 76 = .ok (.aload_n 0, 1) := by decide +kernel
theorem dX8_change_77 : decode cX8_change 77 = .ok (.getfield 7, 3) := by decide +kernel
theorem dX8_change_80 : decode cX8_change 80 = .ok (.bipush 48, 2) := by decide +kernel
theorem dX8_change_82 : decode cX8_change 82 = .ok (.iload_n 1, 1) := by decide +kernel
theorem dX8_change_83 : decode cX8_change 83 = .ok (.iadd, 1) := by decide +kernel
theorem dX8_change_84 : decode cX8_change 84 = .ok (.iload_n 2, 1) := by decide +kernel
theorem dX8_change_85 : decode cX8_change 85 = .ok (.iastore, 1) := by decide +kernel
theorem dX8_change_86 : decode cX8_change 86 = .ok (.iconst 1, 1) := by decide +kernel
theorem dX8_change_87 : decode cX8_change 87 = .ok (.ireturn, 1) := by decide +kernel
set_option maxRecDepth 20000 in
theorem ggX8_shift_X8_isThing : GoodIn wsX8_shift wsX8_isThing := goodIn_r _ [7, 8, 9, 10, 6, 11] (by decide +kernel) (by decide +kernel)
set_option maxRecDepth 20000 in
theorem gX8_shift_X8_isThing : GoodIn wsX8_shift (va_wsS RX8 165 yX8_isThing wsX8_isThing) := goodIn_app (goodIn_of _ (by decide +kernel)) ggX8_shift_X8_isThing
set_option maxRecDepth 20000 in
theorem ggX8_shift_X8_many : GoodIn wsX8_shift wsX8_many := goodIn_r _ [15, 1, 16, 17, 18, 19, 20, 21, 22, 23, 24, 25, 26, 27, 28, 29, 30, 31, 32, 33, 34, 35, 36, 37, 38] (by decide +kernel) (by decide +kernel)
set_option maxRecDepth 20000 in
theorem gX8_shift_X8_many : GoodIn wsX8_shift (wsV RX8 160 RX8 yX8_many wsX8_many) := goodIn_app (goodIn_of _ (by decide +kernel)) ggX8_shift_X8_many
set_option maxRecDepth 20000 in
theorem ggX8_shift_X8_in : GoodIn wsX8_shift wsX8_in := goodIn_r _ [11] (by decide +kernel) (by decide +kernel)
set_option maxRecDepth 20000 in
theorem gX8_shift_X8_in : GoodIn wsX8_shift (va_wsS RX8 50 yX8_in wsX8_in) := goodIn_app (goodIn_of _ (by decide +kernel)) ggX8_shift_X8_in
theorem dX8_shift_0 : decode cX8_shift 0 = .ok (.iload_n 1, 1) := by decide +kernel
theorem dX8_shift_1 : decode cX8_shift 1 = .ok (.invokestatic 165, 3) := by decide +kernel
theorem dX8_shift_4 : decode cX8_shift 4 = .ok (.ifCond .ne 5, 3) := by decide +kernel
theorem dX8_shift_7 : decode cX8_shift 7 = .ok (.iconst (-1), 1) := by decide +kernel
theorem dX8_shift_8 : decode cX8_shift 8 = .ok (.ireturn, 1) := by decide +kernel
theorem dX8_shift_9 : decode cX8_shift 9 = .ok (.iconst 0, 1) := by decide +kernel
theorem dX8_shift_10 : decode cX8_shift 10 = .ok (.istore_n 3, 1) := by decide +kernel
theorem dX8_shift_11 : decode cX8_shift 11 = .ok (.iconst 0, 1) := by decide +kernel
theorem dX8_shift_12 : decode cX8_shift 12 = .ok (.istore 4, 2) := by decide +kernel
theorem dX8_shift_14 : decode cX8_shift 14 = .ok (.iconst 0, 1) := by decide +kernel
theorem dX8_shift_15 : decode cX8_shift 15 = .ok (.istore 5, 2) := by decide +kernel
theorem dX8_shift_17 : decode cX8_shift 17 = .ok (.iload 5, 2) := by decide +kernel
theorem dX8_shift_19 : decode cX8_shift 19 = .ok (.aload_n 0, 1) := by decide +kernel
theorem dX8_shift_20 : decode cX8_shift 20 = .ok (.invokevirtual 160, 3) := by decide +kernel
theorem dX8_shift_23 : decode cX8_shift 23 = .ok (.if_icmp .ge 86, 3) := by decide +kernel
theorem dX8_shift_26 : decode cX8_shift 26 = .ok (.aload_n 0, 1) := by decide +kernel
theorem dX8_shift_27 : decode cX8_shift 27 = .ok (.getfield 7, 3) := by decide +kernel
theorem dX8_shift_30 : decode cX8_shift 30 = .ok (.iload 5, 2) := by decide +kernel
theorem dX8_shift_32 : decode cX8_shift 32 = .ok (.iaload, 1) := by decide +kernel
theorem dX8_shift_33 : decode cX8_shift 33 = .ok (.iload_n 1, 1) := by decide +kernel
theorem dX8_shift_34 : decode cX8_shift 34 = .ok (.if_icmp .ne 8, 3) := by decide +kernel
theorem dX8_shift_37 : decode cX8_shift 37 = .ok (.iload_n 2, 1) := by decide +kernel
theorem dX8_shift_38 : decode cX8_shift 38 = .ok (.i2l, 1) := by decide +kernel
theorem dX8_shift_39 : decode cX8_shift 39 = .ok (.goto 24, 3) := by decide +kernel
theorem dX8_shift_42 : decode cX8_shift 42 = .ok (.aload_n 0, 1) := by decide +kernel
theorem dX8_shift_43 : decode cX8_shift 43 = .ok (.getfield 7, 3) := by decide +kernel
theorem dX8_shift_46 : decode cX8_shift 46 = .ok (.bipush 24, 2) := by decide +kernel
theorem dX8_shift_48 : decode cX8_shift 48 = .ok (.iload 5, 2) := by decide +kernel
theorem dX8_shift_50 : decode cX8_shift 50 = .ok (.iadd, 1) := by decide +kernel
theorem dX8_shift_51 : decode cX8_shift 51 = .ok (.iaload, 1) := by decide +kernel
theorem dX8_shift_52 : decode cX8_shift 52 = .ok (.iload_n 1, 1) := by decide +kernel
theorem dX8_shift_53 : decode cX8_shift 53 = .ok (.if_icmp .ne 9, 3) := by decide +kernel
theorem dX8_shift_56 : decode cX8_shift 56 = .ok (.iload_n 2, 1) := by decide +kernel
theorem dX8_shift_57 : decode cX8_shift 57 = .ok (.i2l, 1) := by decide +kernel
theorem dX8_shift_58 : decode cX8_shift 58 = .ok (.lneg, 1) := by decide +kernel
theorem dX8_shift_59 : decode cX8_shift 59 = .ok (.goto 4, 3) := by decide +kernel
theorem dX8_shift_62 : decode cX8_shift 62 = .ok (.lconst 0, 1) := by decide +kernel
theorem dX8_shift_63 : decode cX8_shift 63 = .ok (.lstore 6, 2) := by decide +kernel
theorem dX8_shift_65 : decode cX8_shift 65 = .ok (.iload 4, 2) := by decide +kernel
theorem dX8_shift_67 : decode cX8_shift 67 = .ok (.ifCond .ne 29, 3) := by decide +kernel
theorem dX8_shift_70 : decode cX8_shift 70 = .ok (.aload_n 0, 1) := by decide +kernel
theorem dX8_shift_71 : decode cX8_shift 71 = .ok (.getfield 7, 3) := by decide +kernel
theorem dX8_shift_74 : decode cX8_shift 74 = .ok (.bipush 48, 2) := by decide +kernel
theorem dX8_shift_76 : decode cX8_shift 76 = .ok (.iload 5, 2) := by decide +kernel
theorem dX8_shift_78 : decode cX8_shift 78 = .ok (.iadd, 1) := by decide +kernel
theorem dX8_shift_79 : decode cX8_shift 79 = .ok (.iaload, 1) := by decide +kernel
theorem dX8_shift_80 : decode cX8_shift 80 = .ok (.i2l, 1) := by decide +kernel
theorem dX8_shift_81 : decode cX8_shift 81 = .ok (.lload 6, 2) := by decide +kernel
theorem dX8_shift_83 : decode cX8_shift 83 = .ok (.ladd, 1) := by decide +kernel
theorem dX8_shift_84 : decode cX8_shift 84 = .ok (.ldc2_w 226, 3) := by decide +kernel
theorem dX8_shift_87 : decode cX8_shift 87 = .ok (.ldc2_w 228, 3) := by decide +kernel
theorem dX8_shift_90 : decode cX8_shift 90 = .ok (.invokestatic 50, 3) := by decide +kernel
theorem dX8_shift_93 : decode cX8_shift 93 = .ok (.ifCond .ne 7, 3) := by decide +kernel
theorem dX8_shift_96 : decode cX8_shift 96 = .ok (.iconst 1, 1) := by decide +kernel
theorem dX8_shift_97 : decode cX8_shift 97 = .ok (.goto 4, 3) := by decide +kernel
theorem dX8_shift_100 : decode cX8_shift 100 = .ok (.iconst 0, 1) := by decide +kernel
theorem dX8_shift_101 : decode cX8_shift 101 = .ok (.istore 4, 2) := by decide +kernel
theorem dX8_shift_103 : decode cX8_shift 103 = .ok (.iinc 5 1, 3) := by decide +kernel
theorem dX8_shift_106 : decode cX8_shift 106 = .ok (.goto (-89), 3) := by decide +kernel
theorem dX8_shift_109 : decode cX8_shift 109 = .ok (.iconst 0, 1) := by decide +kernel
theorem dX8_shift_110 : decode cX8_shift 110 = .ok (.istore 5, 2) := by decide +kernel
theorem dX8_shift_112 : decode cX8_shift 112 = .ok (.iload 5, 2) := by decide +kernel
theorem dX8_shift_114 : decode cX8_shift 114 = .ok (.aload_n 0, 1) := by decide +kernel
theorem dX8_shift_115 : decode cX8_shift 115 = .ok (.invokevirtual 160, 3) := by decide +kernel
theorem dX8_shift_118 : decode cX8_shift 118 = .ok (.if_icmp .ge 107, 3) := by decide +kernel
theorem dX8_shift_121 : decode cX8_shift 121 = .ok (.iload 4, 2) := by decide +kernel
theorem dX8_shift_123 : decode cX8_shift 123 = .ok (.ifCond .ne 102, 3) := by decide +kernel
theorem dX8_shift_126 : decode cX8_shift 126 = .ok (.aload_n 0, 1) := by decide +kernel
theorem dX8_shift_127 : decode cX8_shift 127 = .ok (.getfield 7, 3) := by decide +kernel
theorem dX8_shift_130 : decode cX8_shift 130 = .ok (.iload 5, 2) := by decide +kernel
theorem dX8_shift_132 : decode cX8_shift 132 = .ok (.iaload, 1) := by decide +kernel
theorem dX8_shift_133 : decode cX8_shift 133 = .ok (.iload_n 1, 1) := by decide +kernel
theorem dX8_shift_134 : decode cX8_shift 134 = .ok (.if_icmp .eq 17, 3) := by decide +kernel
theorem dX8_shift_137 : decode cX8_shift 137 = .ok (.aload_n 0, 1) := by decide +kernel
theorem dX8_shift_138 : decode cX8_shift 138 = .ok (.getfield 7, 3) := by decide +kernel
theorem dX8_shift_141 : decode cX8_shift 141 = .ok (.bipush 24, 2) := by decide +kernel
theorem dX8_shift_143 : decode cX8_shift 143 = .ok (.iload 5, 2) := by decide +kernel
theorem dX8_shift_145 : decode cX8_shift 145 = .ok (.iadd, 1) := by decide +kernel
theorem dX8_shift_146 : decode cX8_shift 146 = .ok (.iaload, 1) := by decide +kernel
theorem dX8_shift_147 : decode cX8_shift 147 = .ok (.iload_n 1, 1) := by decide +kernel
theorem dX8_shift_148 : decode cX8_shift 148 = .ok (.if_icmp .ne 7, 3) := by decide +kernel
theorem dX8_shift_151 : decode cX8_shift 151 = .ok (.iconst 1, 1) := by decide +kernel
theorem dX8_shift_152 : decode cX8_shift 152 = .ok (.goto 4, 3) := by decide +kernel
theorem dX8_shift_155 : decode cX8_shift 155 = .ok (.iconst 0, 1) := by decide +kernel
theorem dX8_shift_156 : decode cX8_shift 156 = .ok (.istore 6, 2) := by decide +kernel
theorem dX8_shift_158 : decode cX8_shift 158 = .ok (.aload_n 0, 1) := by decide +kernel
theorem dX8_shift_159 : decode cX8_shift 159 = .ok (.getfield 7, 3) := by decide +kernel
theorem dX8_shift_162 : decode cX8_shift 162 = .ok (.bipush 48, 2) := by decide +kernel
theorem dX8_shift_164 : decode cX8_shift 164 = .ok (.iload 5, 2) := by decide +kernel
theorem dX8_shift_166 : decode cX8_shift 166 = .ok (.iadd, 1) := by decide +kernel
theorem dX8_shift_167 : decode cX8_shift 167 = .ok (.dup2, 1) := by decide +kernel
theorem dX8_shift_168 : decode cX8_shift 168 = .ok (.iaload, 1) := by decide +kernel
theorem dX8_shift_169 : decode cX8_shift 169 = .ok (.aload_n 0, 1) := by decide +kernel
theorem dX8_shift_170 : decode cX8_shift 170 = .ok (.getfield 7, 3) := by decide +kernel
theorem dX8_shift_173 : decode cX8_shift 173 = .ok (.iload 5, 2) := by decide +kernel
theorem dX8_shift_175 : decode cX8_shift 175 = .ok (.iaload, 1) := by decide +kernel
theorem dX8_shift_176 : decode cX8_shift 176 = .ok (.iload_n 1, 1) := by decide +kernel
theorem dX8_shift_177 : decode cX8_shift 177 = .ok (.if_icmp .ne 7, 3) := by decide +kernel
theorem dX8_shift_180 : decode cX8_shift 180 = .ok (.iload_n 2, 1) := by decide +kernel
theorem dX8_shift_181 : decode cX8_shift 181 = .ok (.goto 23, 3) := by decide +kernel
theorem dX8_shift_184 : decode cX8_shift 184 = .ok (.aload_n 0, 1) := by decide +kernel
theorem dX8_shift_185 : decode cX8_shift 185 = .ok (.getfield 7, 3) := by decide +kernel
theorem dX8_shift_188 : decode cX8_shift 188 = .ok (.bipush 24, 2) := by decide +kernel
theorem dX8_shift_190 : decode cX8_shift 190 = .ok (.iload 5, 2) := by decide +kernel
theorem dX8_shift_192 : decode cX8_shift 192 = .ok (.iadd, 1) := by decide +kernel
theorem dX8_shift_193 : decode cX8_shift 193 = .ok (.iaload, 1) := by decide +kernel
theorem dX8_shift_194 : decode cX8_shift 194 = .ok (.iload_n 1, 1) := by decide +kernel
theorem dX8_shift_195 : decode cX8_shift 195 = .ok (.if_icmp .ne 8, 3) := by decide +kernel
theorem dX8_shift_198 : decode cX8_shift 198 = .ok (.iload_n 2, 1) := by decide +kernel
theorem dX8_shift_199 : decode cX8_shift 199 = .ok (.ineg, 1) := by decide +kernel
theorem dX8_shift_200 : decode cX8_shift 200 = .ok (.goto 4, 3) := by decide +kernel
theorem dX8_shift_203 : decode cX8_shift 203 = .ok (.iconst 0, 1) := by decide +kernel
theorem dX8_shift_204 : decode cX8_shift 204 = .ok (.iadd, 1) := by decide +kernel
theorem dX8_shift_205 : decode cX8_shift 205 = .ok (.iastore, 1) := by decide +kernel
theorem dX8_shift_206 : decode cX8_shift 206 = .ok (.iload_n 3, 1) := by decide +kernel
theorem dX8_shift_207 : decode cX8_shift 207 = .ok (.iload 6, 2) := by decide +kernel
theorem dX8_shift_209 : decode cX8_shift 209 = .ok (.ifCond .eq 7, 3) := by decide +kernel
theorem dX8_shift_212 : decode cX8_shift 212 = .ok (.iconst 1, 1) := by decide +kernel
theorem dX8_shift_213 : decode cX8_shift 213 = .ok (.goto 4, 3) := by decide +kernel
theorem dX8_shift_216 : decode cX8_shift 216 = .ok (.iconst 0, 1) := by decide +kernel
theorem dX8_shift_217 : decode cX8_shift 217 = .ok (.iadd, 1) := by decide +kernel
theorem dX8_shift_218 : decode cX8_shift 218 = .ok (.istore_n 3, 1) := by decide +kernel
theorem dX8_shift_219 : decode cX8_shift 219 = .ok (.iinc 5 1, 3) := by decide +kernel
theorem dX8_shift_222 : decode cX8_shift 222 = .ok (.goto (-110), 3) := by decide +kernel
theorem dX8_shift_225 : decode cX8_shift 225 = .ok (.iload 4, 2) := by decide +kernel
theorem dX8_shift_227 : decode cX8_shift 227 = .ok (.ifCond .eq 8, 3) := by decide +kernel
theorem dX8_shift_230 : decode cX8_shift 230 = .ok (.bipush (-5), 2) := by decide +kernel
theorem dX8_shift_232 : decode cX8_shift 232 = .ok (.goto 4, 3) := by decide +kernel
theorem dX8_shift_235 : decode cX8_shift 235 = .ok (.iload_n 3, 1) := by decide +kernel
theorem dX8_shift_236 : decode cX8_shift 236 = .ok (.ireturn, 1) := by decide +kernel
set_option maxRecDepth 20000 in
theorem ggX8_whole_X8_isFlag : GoodIn wsX8_whole wsX8_isFlag := goodIn_r _ [5, 6, 7, 4, 8] (by decide +kernel) (by decide +kernel)
set_option maxRecDepth 20000 in
theorem gX8_whole_X8_isFlag : GoodIn wsX8_whole (va_wsS RX8 207 yX8_isFlag wsX8_isFlag) := goodIn_app (goodIn_of _ (by decide +kernel)) ggX8_whole_X8_isFlag
set_option maxRecDepth 20000 in
theorem ggX8_whole_X8_isHolding : GoodIn wsX8_whole wsX8_isHolding := goodIn_r _ [12, 13, 14, 15, 16, 4, 17, 18, 1, 19, 20, 21, 22, 23, 24, 25, 26, 27, 28, 29, 30, 31, 32, 33, 34, 35, 36, 37, 38, 39, 40, 41, 42, 43, 44, 45, 46, 47, 48, 49] (by decide +kernel) (by decide +kernel)
set_option maxRecDepth 20000 in
theorem gX8_whole_X8_isHolding : GoodIn wsX8_whole (wsV RX8 125 RX8 yX8_isHolding wsX8_isHolding) := goodIn_app (goodIn_of _ (by decide +kernel)) ggX8_whole_X8_isHolding
theorem dX8_whole_0 : decode cX8_whole 0 = .ok (.iload_n 1, 1) := by decide +kernel
theorem dX8_whole_1 : decode cX8_whole 1 = .ok (.invokestatic 207, 3) := by decide +kernel
theorem dX8_whole_4 : decode cX8_whole 4 = .ok (.ifCond .ne 5, 3) := by decide +kernel
theorem dX8_whole_7 : decode cX8_whole 7 = .ok (.iconst (-1), 1) := by decide +kernel
theorem dX8_whole_8 : decode cX8_whole 8 = .ok (.ireturn, 1) := by decide +kernel
theorem dX8_whole_9 : decode cX8_whole 9 = .ok (.iconst 1, 1) := by decide +kernel
theorem dX8_whole_10 : decode cX8_whole 10 = .ok (.aload_n 0, 1) := by decide +kernel
theorem dX8_whole_11 : decode cX8_whole 11 = .ok (.getfield 7, 3) := by decide +kernel
theorem dX8_whole_14 : decode cX8_whole 14 = .ok (.bipush 105, 2) := by decide +kernel
theorem dX8_whole_16 : decode cX8_whole 16 = .ok (.iaload, 1) := by decide +kernel
theorem dX8_whole_17 : decode cX8_whole 17 = .ok (.isub, 1) := by decide +kernel
theorem dX8_whole_18 : decode cX8_whole 18 = .ok (.istore_n 2, 1) := by decide +kernel
theorem dX8_whole_19 : decode cX8_whole 19 = .ok (.aload_n 0, 1) := by decide +kernel
theorem dX8_whole_20 : decode cX8_whole 20 = .ok (.getfield 7, 3) := by decide +kernel
theorem dX8_whole_23 : decode cX8_whole 23 = .ok (.bipush 105, 2) := by decide +kernel
theorem dX8_whole_25 : decode cX8_whole 25 = .ok (.iconst 1, 1) := by decide +kernel
theorem dX8_whole_26 : decode cX8_whole 26 = .ok (.iload_n 1, 1) := by decide +kernel
theorem dX8_whole_27 : decode cX8_whole 27 = .ok (.isub, 1) := by decide +kernel
theorem dX8_whole_28 : decode cX8_whole 28 = .ok (.iastore, 1) := by decide +kernel
theorem dX8_whole_29 : decode cX8_whole 29 = .ok (.aload_n 0, 1) := by decide +kernel
theorem dX8_whole_30 : decode cX8_whole 30 = .ok (.iconst 0, 1) := by decide +kernel
theorem dX8_whole_31 : decode cX8_whole 31 = .ok (.invokevirtual 125, 3) := by decide +kernel
theorem dX8_whole_34 : decode cX8_whole 34 = .ok (.ifCond .ne 16, 3) := by decide +kernel
theorem dX8_whole_37 : decode cX8_whole 37 = .ok (.aload_n 0, 1) := by decide +kernel
theorem dX8_whole_38 : decode cX8_whole 38 = .ok (.getfield 7, 3) := by decide +kernel
theorem dX8_whole_41 : decode cX8_whole 41 = .ok (.bipush 105, 2) := by decide +kernel
theorem dX8_whole_43 : decode cX8_whole 43 = .ok (.iconst 1, 1) := by decide +kernel
theorem dX8_whole_44 : decode cX8_whole 44 = .ok (.iload_n 2, 1) := by decide +kernel
theorem dX8_whole_45 : decode cX8_whole 45 = .ok (.isub, 1) := by decide +kernel
theorem dX8_whole_46 : decode cX8_whole 46 = .ok (.iastore, 1) := by decide +kernel
theorem dX8_whole_47 : decode cX8_whole 47 = .ok (.bipush (-2), 2) := by decide +kernel
theorem dX8_whole_49 : decode cX8_whole 49 = .ok (.ireturn, 1) := by decide +kernel
theorem dX8_whole_50 : decode cX8_whole 50 = .ok (.iload_n 2, 1) := by decide +kernel
theorem dX8_whole_51 : decode cX8_whole 51 = .ok (.ireturn, 1) := by decide +kernel
set_option maxRecDepth 20000 in
theorem ggX8_push_X8_many : GoodIn wsX8_push wsX8_many := goodIn_r _ [6, 1, 7, 8, 9, 10, 11, 12, 13, 14, 15, 16, 17, 18, 19, 20, 21, 22, 23, 24, 25, 26, 27, 28, 29] (by decide +kernel) (by decide +kernel)
set_option maxRecDepth 20000 in
theorem gX8_push_X8_many : GoodIn wsX8_push (wsV RX8 160 RX8 yX8_many wsX8_many) := goodIn_app (goodIn_of _ (by decide +kernel)) ggX8_push_X8_many
theorem dX8_push_0 : decode cX8_push 0 = .ok (.aload_n 0, 1) := by decide +kernel
theorem dX8_push_1 : decode cX8_push 1 = .ok (.getfield 7, 3) := by decide +kernel
theorem dX8_push_4 : decode cX8_push 4 = .ok (.bipush 106, 2) := by decide +kernel
theorem dX8_push_6 : decode cX8_push 6 = .ok (.iaload, 1) := by decide +kernel
theorem dX8_push_7 : decode cX8_push 7 = .ok (.bipush 8, 2) := by decide +kernel
theorem dX8_push_9 : decode cX8_push 9 = .ok (.if_icmp .ne 6, 3) := by decide +kernel
theorem dX8_push_12 : decode cX8_push 12 = .ok (.bipush (-3), 2) := by decide +kernel
theorem dX8_push_14 : decode cX8_push 14 = .ok (.ireturn, 1) := by decide +kernel
theorem dX8_push_15 : decode cX8_push 15 = .ok (.aload_n 0, 1) := by decide +kernel
theorem dX8_push_16 : decode cX8_push 16 = .ok (.getfield 7, 3) := by decide +kernel
theorem dX8_push_19 : decode cX8_push 19 = .ok (.bipush 96, 2) := by decide +kernel
theorem dX8_push_21 : decode cX8_push 21 = .ok (.aload_n 0, 1) := by decide +kernel
theorem dX8_push_22 : decode cX8_push 22 = .ok (.getfield 7, 3) := by decide +kernel
theorem dX8_push_25 : decode cX8_push 25 = .ok (.bipush 106, 2) := by decide +kernel
theorem dX8_push_27 : decode cX8_push 27 = .ok (.iaload, 1) := by decide +kernel
theorem dX8_push_28 : decode cX8_push 28 = .ok (.iadd, 1) := by decide +kernel
theorem dX8_push_29 : decode cX8_push 29 = .ok (.aload_n 0, 1) := by decide +kernel
theorem dX8_push_30 : decode cX8_push 30 = .ok (.invokevirtual 160, 3) := by decide +kernel
theorem dX8_push_33 : decode cX8_push 33 = .ok (.iastore, 1) := by decide +kernel
theorem dX8_push_34 : decode cX8_push 34 = .ok (.aload_n 0, 1) := by decide +kernel
theorem dX8_push_35 : decode cX8_push 35 = .ok (.getfield 7, 3) := by decide +kernel
theorem dX8_push_38 : decode cX8_push 38 = .ok (.bipush 106, 2) := by decide +kernel
theorem dX8_push_40 : decode cX8_push 40 = .ok (.dup2, 1) := by decide +kernel
theorem dX8_push_41 : decode cX8_push 41 = .ok (.iaload, 1) := by decide +kernel
theorem dX8_push_42 : decode cX8_push 42 = .ok (.iconst 1, 1) := by decide +kernel
theorem dX8_push_43 : decode cX8_push 43 = .ok (.iadd, 1) := by decide +kernel
theorem dX8_push_44 : decode cX8_push 44 = .ok (.iastore, 1) := by decide +kernel
theorem dX8_push_45 : decode cX8_push 45 = .ok (.aload_n 0, 1) := by decide +kernel
theorem dX8_push_46 : decode cX8_push 46 = .ok (.getfield 7, 3) := by decide +kernel
theorem dX8_push_49 : decode cX8_push 49 = .ok (.bipush 106, 2) := by decide +kernel
theorem dX8_push_51 : decode cX8_push 51 = .ok (.iaload, 1) := by decide +kernel
theorem dX8_push_52 : decode cX8_push 52 = .ok (.ireturn, 1) := by decide +kernel
set_option maxRecDepth 20000 in
theorem ggX8_pop_X8_in : GoodIn wsX8_pop wsX8_in := goodIn_r _ [5] (by decide +kernel) (by decide +kernel)
set_option maxRecDepth 20000 in
theorem gX8_pop_X8_in : GoodIn wsX8_pop (va_wsS RX8 50 yX8_in wsX8_in) := goodIn_app (goodIn_of _ (by decide +kernel)) ggX8_pop_X8_in
set_option maxRecDepth 20000 in
theorem ggX8_pop_X8_many : GoodIn wsX8_pop wsX8_many := goodIn_r _ [9, 1, 10, 11, 12, 13, 14, 15, 16, 17, 18, 19, 20, 21, 22, 23, 24, 25, 26, 27, 28, 29, 30, 31, 32] (by decide +kernel) (by decide +kernel)
set_option maxRecDepth 20000 in
theorem gX8_pop_X8_many : GoodIn wsX8_pop (wsV RX8 160 RX8 yX8_many wsX8_many) := goodIn_app (goodIn_of _ (by decide +kernel)) ggX8_pop_X8_many
theorem dX8_pop_0 : decode cX8_pop 0 = .ok (.iload_n 1, 1) := by decide +kernel
theorem dX8_pop_1 : decode cX8_pop 1 = .ok (.i2l, 1) := by decide +kernel
theorem dX8_pop_2 : decode cX8_pop 2 = .ok (.lconst 0, 1) := by decide +kernel
theorem dX8_pop_3 : decode cX8_pop 3 = .ok (.aload_n 0, 1) := by decide +kernel
theorem dX8_pop_4 : decode cX8_pop 4 = .ok (.getfield 7, 3) := by decide +kernel
theorem dX8_pop_7 : decode cX8_pop 7 = .ok (.bipush 106, 2) := by decide +kernel
theorem dX8_pop_9 : decode cX8_pop 9 = .ok (.iaload, 1) := by decide +kernel
theorem dX8_pop_10 : decode cX8_pop 10 = .ok (.iconst 1, 1) := by decide +kernel
theorem dX8_pop_11 : decode cX8_pop 11 = .ok (.isub, 1) := by decide +kernel
theorem dX8_pop_12 : decode cX8_pop 12 = .ok (.i2l, 1) := by decide +kernel
theorem dX8_pop_13 : decode cX8_pop 13 = .ok (.invokestatic 50, 3) := by decide +kernel
theorem dX8_pop_16 : decode cX8_pop 16 = .ok (.ifCond .ne 5, 3) := by decide +kernel
theorem dX8_pop_19 : decode cX8_pop 19 = .ok (.iconst (-1), 1) := by decide +kernel
theorem dX8_pop_20 : decode cX8_pop 20 = .ok (.ireturn, 1) := by decide +kernel
theorem dX8_pop_21 : decode cX8_pop 21 = .ok (.aload_n 0, 1) := by decide +kernel
theorem dX8_pop_22 : decode cX8_pop 22 = .ok (.invokevirtual 160, 3) := by decide +kernel
theorem dX8_pop_25 : decode cX8_pop 25 = .ok (.istore_n 2, 1) := by decide +kernel
theorem dX8_pop_26 : decode cX8_pop 26 = .ok (.aload_n 0, 1) := by decide +kernel
theorem dX8_pop_27 : decode cX8_pop 27 = .ok (.getfield 7, 3) := by decide +kernel
theorem dX8_pop_30 : decode cX8_pop 30 = .ok (.bipush 104, 2) := by decide +kernel
theorem dX8_pop_32 : decode cX8_pop 32 = .ok (.aload_n 0, 1) := by decide +kernel
theorem dX8_pop_33 : decode cX8_pop 33 = .ok (.getfield 7, 3) := by decide +kernel
theorem dX8_pop_36 : decode cX8_pop 36 = .ok (.bipush 96, 2) := by decide +kernel
theorem dX8_pop_38 : decode cX8_pop 38 = .ok (.iload_n 1, 1) := by decide +kernel
theorem dX8_pop_39 : decode cX8_pop 39 = .ok (.iadd, 1) := by decide +kernel
theorem dX8_pop_40 : decode cX8_pop 40 = .ok (.iaload, 1) := by decide +kernel
theorem dX8_pop_41 : decode cX8_pop 41 = .ok (.iastore, 1) := by decide +kernel
theorem dX8_pop_42 : decode cX8_pop 42 = .ok (.aload_n 0, 1) := by decide +kernel
theorem dX8_pop_43 : decode cX8_pop 43 = .ok (.getfield 7, 3) := by decide +kernel
theorem dX8_pop_46 : decode cX8_pop 46 = .ok (.bipush 106, 2) := by decide +kernel
theorem dX8_pop_48 : decode cX8_pop 48 = .ok (.iload_n 1, 1) := by decide +kernel
theorem dX8_pop_49 : decode cX8_pop 49 = .ok (.iastore, 1) := by decide +kernel
theorem dX8_pop_50 : decode cX8_pop 50 = .ok (.iload_n 2, 1) := by decide +kernel
theorem dX8_pop_51 : decode cX8_pop 51 = .ok (.aload_n 0, 1) := by decide +kernel
theorem dX8_pop_52 : decode cX8_pop 52 = .ok (.invokevirtual 160, 3) := by decide +kernel
theorem dX8_pop_55 : decode cX8_pop 55 = .ok (.isub, 1) := by decide +kernel
theorem dX8_pop_56 : decode cX8_pop 56 = .ok (.ireturn, 1) := by decide +kernel
set_option maxRecDepth 20000 in
theorem ggX8_level_X8_in : GoodIn wsX8_level wsX8_in := goodIn_r _ [5] (by decide +kernel) (by decide +kernel)
set_option maxRecDepth 20000 in
theorem gX8_level_X8_in : GoodIn wsX8_level (va_wsS RX8 50 yX8_in wsX8_in) := goodIn_app (goodIn_of _ (by decide +kernel)) ggX8_level_X8_in
theorem dX8_level_0 : decode cX8_level 0 = .ok (.iload_n 1, 1) := by decide +kernel
theorem dX8_level_1 : decode cX8_level 1 = .ok (.i2l, 1) := by decide +kernel
theorem dX8_level_2 : decode cX8_level 2 = .ok (.lconst 0, 1) := by decide +kernel
theorem dX8_level_3 : decode cX8_level 3 = .ok (.aload_n 0, 1) := by decide +kernel
theorem dX8_level_4 : decode cX8_level 4 = .ok (.getfield 7, 3) := by decide +kernel
theorem dX8_level_7 : decode cX8_level 7 = .ok (.bipush 106, 2) := by decide +kernel
theorem dX8_level_9 : decode cX8_level 9 = .ok (.iaload, 1) := by decide +kernel
theorem dX8_level_10 : decode cX8_level 10 = .ok (.iconst 1, 1) := by decide +kernel
theorem dX8_level_11 : decode cX8_level 11 = .ok (.isub, 1) := by decide +kernel
theorem dX8_level_12 : decode cX8_level 12 = .ok (.i2l, 1) := by decide +kernel
theorem dX8_level_13 : decode cX8_level 13 = .ok (.invokestatic 50, 3) := by decide +kernel
theorem dX8_level_16 : decode cX8_level 16 = .ok (.ifCond .eq 15, 3) := by decide +kernel
theorem dX8_level_19 : decode cX8_level 19 = .ok (.aload_n 0, 1) := by decide +kernel
theorem dX8_level_20 : decode cX8_level 20 = .ok (.getfield 7, 3) := by decide +kernel
theorem dX8_level_23 : decode cX8_level 23 = .ok (.bipush 96, 2) := by decide +kernel
theorem dX8_level_25 : decode cX8_level 25 = .ok (.iload_n 1, 1) := by decide +kernel
theorem dX8_level_26 : decode cX8_level 26 = .ok (.iadd, 1) := by decide +kernel
theorem dX8_level_27 : decode cX8_level 27 = .ok (.iaload, 1) := by decide +kernel
theorem dX8_level_28 : decode cX8_level 28 = .ok (.goto 4, 3) := by decide +kernel
theorem dX8_level_31 : decode cX8_level 31 = .ok (.iconst (-1), 1) := by decide +kernel
theorem dX8_level_32 : decode cX8_level 32 = .ok (.ireturn, 1) := by decide +kernel
set_option maxRecDepth 20000 in
theorem ggX8_told_X8_limitOf : GoodIn wsX8_told wsX8_limitOf := goodIn_r _ [6, 7, 8] (by decide +kernel) (by decide +kernel)
set_option maxRecDepth 20000 in
theorem gX8_told_X8_limitOf : GoodIn wsX8_told (va_wsS RX8 147 yX8_limitOf wsX8_limitOf) := goodIn_app (goodIn_of _ (by decide +kernel)) ggX8_told_X8_limitOf
set_option maxRecDepth 20000 in
theorem ggX8_told_X8_edgesOf : GoodIn wsX8_told wsX8_edgesOf := goodIn_r _ [11, 7, 3, 4, 5, 6, 8] (by decide +kernel) (by decide +kernel)
set_option maxRecDepth 20000 in
theorem gX8_told_X8_edgesOf : GoodIn wsX8_told (va_wsS RX8 230 yX8_edgesOf wsX8_edgesOf) := goodIn_app (goodIn_of _ (by decide +kernel)) ggX8_told_X8_edgesOf
theorem dX8_told_0 : decode cX8_told 0 = .ok (.lload_n 0, 1) := by decide +kernel
theorem dX8_told_1 : decode cX8_told 1 = .ok (.ldc2_w 151, 3) := by decide +kernel
theorem dX8_told_4 : decode cX8_told 4 = .ok (.lcmp, 1) := by decide +kernel
theorem dX8_told_5 : decode cX8_told 5 = .ok (.ifCond .lt 9, 3) := by decide +kernel
theorem dX8_told_8 : decode cX8_told 8 = .ok (.ldc2_w 196, 3) := by decide +kernel
theorem dX8_told_11 : decode cX8_told 11 = .ok (.goto 18, 3) := by decide +kernel
theorem dX8_told_14 : decode cX8_told 14 = .ok (.iload_n 2, 1) := by decide +kernel
theorem dX8_told_15 : decode cX8_told 15 = .ok (.ifCond .ne 10, 3) := by decide +kernel
theorem dX8_told_18 : decode cX8_told 18 = .ok (.lload_n 0, 1) := by decide +kernel
theorem dX8_told_19 : decode cX8_told 19 = .ok (.invokestatic 147, 3) := by decide +kernel
theorem dX8_told_22 : decode cX8_told 22 = .ok (.goto 7, 3) := by decide +kernel
theorem dX8_told_25 : decode cX8_told 25 = .ok (.lload_n 0, 1) := by decide +kernel
theorem dX8_told_26 : decode cX8_told 26 = .ok (.invokestatic 230, 3) := by decide +kernel
theorem dX8_told_29 : decode cX8_told 29 = .ok (.lreturn, 1) := by decide +kernel
set_option maxRecDepth 20000 in
theorem ggX8_implied_X8_isThing : GoodIn wsX8_implied wsX8_isThing := goodIn_r _ [6, 7, 8, 9, 5, 10] (by decide +kernel) (by decide +kernel)
set_option maxRecDepth 20000 in
theorem gX8_implied_X8_isThing : GoodIn wsX8_implied (va_wsS RX8 165 yX8_isThing wsX8_isThing) := goodIn_app (goodIn_of _ (by decide +kernel)) ggX8_implied_X8_isThing
set_option maxRecDepth 20000 in
theorem ggX8_implied_X8_isFlag : GoodIn wsX8_implied wsX8_isFlag := goodIn_r _ [13, 8, 9, 5, 10] (by decide +kernel) (by decide +kernel)
set_option maxRecDepth 20000 in
theorem gX8_implied_X8_isFlag : GoodIn wsX8_implied (va_wsS RX8 207 yX8_isFlag wsX8_isFlag) := goodIn_app (goodIn_of _ (by decide +kernel)) ggX8_implied_X8_isFlag
set_option maxRecDepth 20000 in
theorem ggX8_implied_X8_reckons : GoodIn wsX8_implied wsX8_reckons := goodIn_r _ [17, 2, 18, 19, 20, 21, 22, 5, 23, 24, 25, 26, 27, 39, 40, 41, 42, 43, 44, 45, 46, 47, 48, 49, 50, 51, 52, 53, 54, 55, 56, 57, 58, 59, 60, 61] (by decide +kernel) (by decide +kernel)
set_option maxRecDepth 20000 in
theorem gX8_implied_X8_reckons : GoodIn wsX8_implied (wsV RX8 157 RX8 yX8_reckons wsX8_reckons) := goodIn_app (goodIn_of _ (by decide +kernel)) ggX8_implied_X8_reckons
set_option maxRecDepth 20000 in
theorem ggX8_implied_X8_told : GoodIn wsX8_implied wsX8_told := goodIn_r _ [30, 18, 31, 32, 33, 5, 34, 27, 35, 36, 37, 38] (by decide +kernel) (by decide +kernel)
set_option maxRecDepth 20000 in
theorem gX8_implied_X8_told : GoodIn wsX8_implied (va_wsS RX8 235 yX8_told wsX8_told) := goodIn_app (goodIn_of _ (by decide +kernel)) ggX8_implied_X8_told
theorem dX8_implied_0 : decode cX8_implied 0 = .ok (.iload_n 1, 1) := by decide +kernel
theorem dX8_implied_1 : decode cX8_implied 1 = .ok (.invokestatic 165, 3) := by decide +kernel
theorem dX8_implied_4 : decode cX8_implied 4 = .ok (.ifCond .eq 17, 3) := by decide +kernel
theorem dX8_implied_7 : decode cX8_implied 7 = .ok (.iload_n 2, 1) := by decide +kernel
theorem dX8_implied_8 : decode cX8_implied 8 = .ok (.invokestatic 165, 3) := by decide +kernel
theorem dX8_implied_11 : decode cX8_implied 11 = .ok (.ifCond .eq 10, 3) := by decide +kernel
theorem dX8_implied_14 : decode cX8_implied 14 = .ok (.iload_n 3, 1) := by decide +kernel
theorem dX8_implied_15 : decode cX8_implied 15 = .ok (.invokestatic 207, 3) := by decide +kernel
theorem dX8_implied_18 : decode cX8_implied 18 = .ok (.ifCond .ne 7, 3) := by decide +kernel
theorem dX8_implied_21 : decode cX8_implied 21 = .ok (.ldc2_w 233, 3) := by decide +kernel
theorem dX8_implied_24 : decode cX8_implied 24 = .ok (.lreturn, 1) := by decide +kernel
theorem dX8_implied_25 : decode cX8_implied 25 = .ok (.aload_n 0, 1) := by decide +kernel
theorem dX8_implied_26 : decode cX8_implied 26 = .ok (.iconst 0, 1) := by decide +kernel
theorem dX8_implied_27 : decode cX8_implied 27 = .ok (.bipush (-4), 2) := by decide +kernel
theorem dX8_implied_29 : decode cX8_implied 29 = .ok (.invokevirtual 157, 3) := by decide +kernel
theorem dX8_implied_32 : decode cX8_implied 32 = .ok (.aload_n 0, 1) := by decide +kernel
theorem dX8_implied_33 : decode cX8_implied 33 = .ok (.getfield 22, 3) := by decide +kernel
theorem dX8_implied_36 : decode cX8_implied 36 = .ok (.bipush 10, 2) := by decide +kernel
theorem dX8_implied_38 : decode cX8_implied 38 = .ok (.iload_n 2, 1) := by decide +kernel
theorem dX8_implied_39 : decode cX8_implied 39 = .ok (.imul, 1) := by decide +kernel
theorem dX8_implied_40 : decode cX8_implied 40 = .ok (.iload_n 1, 1) := by decide +kernel
theorem dX8_implied_41 : decode cX8_implied 41 = .ok (.iadd, 1) := by decide +kernel
theorem dX8_implied_42 : decode cX8_implied 42 = .ok (.laload, 1) := by decide +kernel
theorem dX8_implied_43 : decode cX8_implied 43 = .ok (.iload_n 3, 1) := by decide +kernel
theorem dX8_implied_44 : decode cX8_implied 44 = .ok (.invokestatic 235, 3) := by decide +kernel
theorem dX8_implied_47 : decode cX8_implied 47 = .ok (.lreturn, 1) := by decide +kernel
set_option maxRecDepth 20000 in
theorem ggX8_fixed_X8_isThing : GoodIn wsX8_fixed wsX8_isThing := goodIn_r _ [4, 5, 6, 7, 3, 8] (by decide +kernel) (by decide +kernel)
set_option maxRecDepth 20000 in
theorem gX8_fixed_X8_isThing : GoodIn wsX8_fixed (va_wsS RX8 165 yX8_isThing wsX8_isThing) := goodIn_app (goodIn_of _ (by decide +kernel)) ggX8_fixed_X8_isThing
set_option maxRecDepth 20000 in
theorem ggX8_fixed_X8_reckons : GoodIn wsX8_fixed wsX8_reckons := goodIn_r _ [12, 13, 14, 15, 16, 17, 18, 3, 19, 20, 21, 22, 23, 28, 29, 30, 31, 32, 33, 34, 35, 36, 37, 38, 39, 40, 41, 42, 43, 44, 45, 46, 47, 48, 49, 50] (by decide +kernel) (by decide +kernel)
set_option maxRecDepth 20000 in
theorem gX8_fixed_X8_reckons : GoodIn wsX8_fixed (wsV RX8 157 RX8 yX8_reckons wsX8_reckons) := goodIn_app (goodIn_of _ (by decide +kernel)) ggX8_fixed_X8_reckons
set_option maxRecDepth 20000 in
theorem ggX8_fixed_X8_isFixed : GoodIn wsX8_fixed wsX8_isFixed := goodIn_r _ [27, 13, 14, 28, 29, 30, 31, 32, 33, 34, 35, 36, 37, 38, 39, 40, 41, 42, 43, 44, 45, 46, 47, 48, 49, 50] (by decide +kernel) (by decide +kernel)
set_option maxRecDepth 20000 in
theorem gX8_fixed_X8_isFixed : GoodIn wsX8_fixed (wsV RX8 180 RX8 yX8_isFixed wsX8_isFixed) := goodIn_app (goodIn_of _ (by decide +kernel)) ggX8_fixed_X8_isFixed
theorem dX8_fixed_0 : decode cX8_fixed 0 = .ok (.iload_n 1, 1) := by decide +kernel
theorem dX8_fixed_1 : decode cX8_fixed 1 = .ok (.invokestatic 165, 3) := by decide +kernel
theorem dX8_fixed_4 : decode cX8_fixed 4 = .ok (.ifCond .eq 10, 3) := by decide +kernel
theorem dX8_fixed_7 : decode cX8_fixed 7 = .ok (.iload_n 2, 1) := by decide +kernel
theorem dX8_fixed_8 : decode cX8_fixed 8 = .ok (.invokestatic 165, 3) := by decide +kernel
theorem dX8_fixed_11 : decode cX8_fixed 11 = .ok (.ifCond .ne 5, 3) := by decide +kernel
theorem dX8_fixed_14 : decode cX8_fixed 14 = .ok (.iconst (-1), 1) := by decide +kernel
theorem dX8_fixed_15 : decode cX8_fixed 15 = .ok (.ireturn, 1) := by decide +kernel
theorem dX8_fixed_16 : decode cX8_fixed 16 = .ok (.aload_n 0, 1) := by decide +kernel
theorem dX8_fixed_17 : decode cX8_fixed 17 = .ok (.iconst 0, 1) := by decide +kernel
theorem dX8_fixed_18 : decode cX8_fixed 18 = .ok (.bipush (-4), 2) := by decide +kernel
theorem dX8_fixed_20 : decode cX8_fixed 20 = .ok (.invokevirtual 157, 3) := by decide +kernel
theorem dX8_fixed_23 : decode cX8_fixed 23 = .ok (.aload_n 0, 1) := by decide +kernel
theorem dX8_fixed_24 : decode cX8_fixed 24 = .ok (.iload_n 1, 1) := by decide +kernel
theorem dX8_fixed_25 : decode cX8_fixed 25 = .ok (.iload_n 2, 1) := by decide +kernel
theorem dX8_fixed_26 : decode cX8_fixed 26 = .ok (.invokevirtual 180, 3) := by decide +kernel
theorem dX8_fixed_29 : decode cX8_fixed 29 = .ok (.ifCond .eq 7, 3) := by decide +kernel
theorem dX8_fixed_32 : decode cX8_fixed 32 = .ok (.iconst 1, 1) := by decide +kernel
theorem dX8_fixed_33 : decode cX8_fixed 33 = .ok (.goto 4, 3) := by decide +kernel
theorem dX8_fixed_36 : decode cX8_fixed 36 = .ok (.iconst 0, 1) := by decide +kernel
theorem dX8_fixed_37 : decode cX8_fixed 37 = .ok (.ireturn, 1) := by decide +kernel
set_option maxRecDepth 20000 in
theorem ggX8_high_X8_isThing : GoodIn wsX8_high wsX8_isThing := goodIn_r _ [6, 7, 8, 9, 5, 10] (by decide +kernel) (by decide +kernel)
set_option maxRecDepth 20000 in
theorem gX8_high_X8_isThing : GoodIn wsX8_high (va_wsS RX8 165 yX8_isThing wsX8_isThing) := goodIn_app (goodIn_of _ (by decide +kernel)) ggX8_high_X8_isThing
set_option maxRecDepth 20000 in
theorem ggX8_high_X8_isFlag : GoodIn wsX8_high wsX8_isFlag := goodIn_r _ [13, 8, 9, 5, 10] (by decide +kernel) (by decide +kernel)
set_option maxRecDepth 20000 in
theorem gX8_high_X8_isFlag : GoodIn wsX8_high (va_wsS RX8 207 yX8_isFlag wsX8_isFlag) := goodIn_app (goodIn_of _ (by decide +kernel)) ggX8_high_X8_isFlag
set_option maxRecDepth 20000 in
theorem ggX8_high_X8_reckons : GoodIn wsX8_high wsX8_reckons := goodIn_r _ [17, 2, 18, 19, 20, 21, 22, 5, 23, 24, 25, 26, 27, 39, 40, 41, 42, 43, 44, 45, 46, 47, 48, 49, 50, 51, 52, 53, 54, 55, 56, 57, 58, 59, 60, 61] (by decide +kernel) (by decide +kernel)
set_option maxRecDepth 20000 in
theorem gX8_high_X8_reckons : GoodIn wsX8_high (wsV RX8 157 RX8 yX8_reckons wsX8_reckons) := goodIn_app (goodIn_of _ (by decide +kernel)) ggX8_high_X8_reckons
set_option maxRecDepth 20000 in
theorem ggX8_high_X8_told : GoodIn wsX8_high wsX8_told := goodIn_r _ [30, 18, 31, 32, 33, 5, 34, 27, 35, 36, 37, 38] (by decide +kernel) (by decide +kernel)
set_option maxRecDepth 20000 in
theorem gX8_high_X8_told : GoodIn wsX8_high (va_wsS RX8 235 yX8_told wsX8_told) := goodIn_app (goodIn_of _ (by decide +kernel)) ggX8_high_X8_told
theorem dX8_high_0 : decode cX8_high 0 = .ok (.iload_n 1, 1) := by decide +kernel
theorem dX8_high_1 : decode cX8_high 1 = .ok (.invokestatic 165, 3) := by decide +kernel
theorem dX8_high_4 : decode cX8_high 4 = .ok (.ifCond .eq 10, 3) := by decide +kernel
theorem dX8_high_7 : decode cX8_high 7 = .ok (.iload_n 2, 1) := by decide +kernel
theorem dX8_high_8 : decode cX8_high 8 = .ok (.invokestatic 207, 3) := by decide +kernel
theorem dX8_high_11 : decode cX8_high 11 = .ok (.ifCond .ne 7, 3) := by decide +kernel
theorem dX8_high_14 : decode cX8_high 14 = .ok (.ldc2_w 233, 3) := by decide +kernel
theorem dX8_high_17 : decode cX8_high 17 = .ok (.lreturn, 1) := by decide +kernel
theorem dX8_high_18 : decode cX8_high 18 = .ok (.aload_n 0, 1) := by decide +kernel
theorem dX8_high_19 : decode cX8_high 19 = .ok (.iconst 0, 1) := by decide +kernel
theorem dX8_high_20 : decode cX8_high 20 = .ok (.bipush (-4), 2) := by decide +kernel
theorem dX8_high_22 : decode cX8_high 22 = .ok (.invokevirtual 157, 3) := by decide +kernel
theorem dX8_high_25 : decode cX8_high 25 = .ok (.lconst 0, 1) := by decide +kernel
theorem dX8_high_26 : decode cX8_high 26 = .ok (.lstore_n 3, 1) := by decide +kernel
theorem dX8_high_27 : decode cX8_high 27 = .ok (.iconst 0, 1) := by decide +kernel
theorem dX8_high_28 : decode cX8_high 28 = .ok (.istore 5, 2) := by decide +kernel
theorem dX8_high_30 : decode cX8_high 30 = .ok (.iload 5, 2) := by decide +kernel
theorem dX8_high_32 : decode cX8_high 32 = .ok (.bipush 10, 2) := by decide +kernel
theorem dX8_high_34 : decode cX8_high 34 = .ok (.if_icmp .ge 43, 3) := by decide +kernel
theorem dX8_high_37 : decode cX8_high 37 = .ok (.aload_n 0, 1) := by decide +kernel
theorem dX8_high_38 : decode cX8_high 38 = .ok (.getfield 22, 3) := by decide +kernel
theorem dX8_high_41 : decode cX8_high 41 = .ok (.bipush 10, 2) := by decide +kernel
theorem dX8_high_43 : decode cX8_high 43 = .ok (.iload 5, 2) := by decide +kernel
theorem dX8_high_45 : decode cX8_high 45 = .ok (.imul, 1) := by decide +kernel
theorem dX8_high_46 : decode cX8_high 46 = .ok (.iload_n 1, 1) := by decide +kernel
theorem dX8_high_47 : decode cX8_high 47 = .ok (.iadd, 1) := by decide +kernel
theorem dX8_high_48 : decode cX8_high 48 = .ok (.laload, 1) := by decide +kernel
theorem dX8_high_49 : decode cX8_high 49 = .ok (.lload_n 3, 1) := by decide +kernel
theorem dX8_high_50 : decode cX8_high 50 = .ok (.lcmp, 1) := by decide +kernel
theorem dX8_high_51 : decode cX8_high 51 = .ok (.ifCond .ge 18, 3) := by decide +kernel
theorem dX8_high_54 : decode cX8_high 54 = .ok (.aload_n 0, 1) := by decide +kernel
theorem dX8_high_55 : decode cX8_high 55 = .ok (.getfield 22, 3) := by decide +kernel
theorem dX8_high_58 : decode cX8_high 58 = .ok (.bipush 10, 2) := by decide +kernel
theorem dX8_high_60 : decode cX8_high 60 = .ok (.iload 5, 2) := by decide +kernel
theorem dX8_high_62 : decode cX8_high 62 = .ok (.imul, 1) := by decide +kernel
theorem dX8_high_63 : decode cX8_high 63 = .ok (.iload_n 1, 1) := by decide +kernel
theorem dX8_high_64 : decode cX8_high 64 = .ok (.iadd, 1) := by decide +kernel
theorem dX8_high_65 : decode cX8_high 65 = .ok (.laload, 1) := by decide +kernel
theorem dX8_high_66 : decode cX8_high 66 = .ok (.goto 4, 3) := by decide +kernel
theorem dX8_high_69 : decode cX8_high 69 = .ok (.lload_n 3, 1) := by decide +kernel
theorem dX8_high_70 : decode cX8_high 70 = .ok (.lstore_n 3, 1) := by decide +kernel
theorem dX8_high_71 : decode cX8_high 71 = .ok (.iinc 5 1, 3) := by decide +kernel
theorem dX8_high_74 : decode cX8_high 74 = .ok (.goto (-44), 3) := by decide +kernel
theorem dX8_high_77 : decode cX8_high 77 = .ok (.lload_n 3, 1) := by decide +kernel
theorem dX8_high_78 : decode cX8_high 78 = .ok (.iload_n 2, 1) := by decide +kernel
theorem dX8_high_79 : decode cX8_high 79 = .ok (.invokestatic 235, 3) := by decide +kernel
theorem dX8_high_82 : decode cX8_high 82 = .ok (.lreturn, 1) := by decide +kernel
set_option maxRecDepth 20000 in
theorem ggX8_reach_X8_isThing : GoodIn wsX8_reach wsX8_isThing := goodIn_r _ [8, 9, 10, 11, 7, 12] (by decide +kernel) (by decide +kernel)
set_option maxRecDepth 20000 in
theorem gX8_reach_X8_isThing : GoodIn wsX8_reach (va_wsS RX8 165 yX8_isThing wsX8_isThing) := goodIn_app (goodIn_of _ (by decide +kernel)) ggX8_reach_X8_isThing
set_option maxRecDepth 20000 in
theorem ggX8_reach_X8_in : GoodIn wsX8_reach wsX8_in := goodIn_r _ [12] (by decide +kernel) (by decide +kernel)
set_option maxRecDepth 20000 in
theorem gX8_reach_X8_in : GoodIn wsX8_reach (va_wsS RX8 50 yX8_in wsX8_in) := goodIn_app (goodIn_of _ (by decide +kernel)) ggX8_reach_X8_in
set_option maxRecDepth 20000 in
theorem ggX8_reach_X8_reckons : GoodIn wsX8_reach wsX8_reckons := goodIn_r _ [16, 3, 4, 17, 18, 19, 20, 7, 21, 22, 23, 24, 25, 37, 38, 39, 40, 41, 42, 43, 44, 45, 46, 47, 48, 49, 50, 51, 52, 53, 54, 55, 56, 57, 58, 59] (by decide +kernel) (by decide +kernel)
set_option maxRecDepth 20000 in
theorem gX8_reach_X8_reckons : GoodIn wsX8_reach (wsV RX8 157 RX8 yX8_reckons wsX8_reckons) := goodIn_app (goodIn_of _ (by decide +kernel)) ggX8_reach_X8_reckons
set_option maxRecDepth 20000 in
theorem ggX8_reach_X8_told : GoodIn wsX8_reach wsX8_told := goodIn_r _ [28, 4, 29, 30, 31, 7, 32, 25, 33, 34, 35, 36] (by decide +kernel) (by decide +kernel)
set_option maxRecDepth 20000 in
theorem gX8_reach_X8_told : GoodIn wsX8_reach (va_wsS RX8 235 yX8_told wsX8_told) := goodIn_app (goodIn_of _ (by decide +kernel)) ggX8_reach_X8_told
set_option maxRecDepth 20000 in
theorem ggX8_reach_X8_limitOf : GoodIn wsX8_reach wsX8_limitOf := goodIn_r _ [32, 25, 33] (by decide +kernel) (by decide +kernel)
set_option maxRecDepth 20000 in
theorem gX8_reach_X8_limitOf : GoodIn wsX8_reach (va_wsS RX8 147 yX8_limitOf wsX8_limitOf) := goodIn_app (goodIn_of _ (by decide +kernel)) ggX8_reach_X8_limitOf
theorem dX8_reach_0 : decode cX8_reach 0 = .ok (.iload_n 1, 1) := by decide +kernel
theorem dX8_reach_1 : decode cX8_reach 1 = .ok (.invokestatic 165, 3) := by decide +kernel
theorem dX8_reach_4 : decode cX8_reach 4 = .ok (.ifCond .eq 23, 3) := by decide +kernel
theorem dX8_reach_7 : decode cX8_reach 7 = .ok (.iload_n 2, 1) := by decide +kernel
theorem dX8_reach_8 : decode cX8_reach 8 = .ok (.invokestatic 165, 3) := by decide +kernel
theorem dX8_reach_11 : decode cX8_reach 11 = .ok (.ifCond .eq 16, 3) := by decide +kernel
theorem dX8_reach_14 : decode cX8_reach 14 = .ok (.iload 4, 2) := by decide +kernel
theorem dX8_reach_16 : decode cX8_reach 16 = .ok (.i2l, 1) := by decide +kernel
theorem dX8_reach_17 : decode cX8_reach 17 = .ok (.lconst 0, 1) := by decide +kernel
theorem dX8_reach_18 : decode cX8_reach 18 = .ok (.ldc2_w 108, 3) := by decide +kernel
theorem dX8_reach_21 : decode cX8_reach 21 = .ok (.invokestatic 50, 3) := by decide +kernel
theorem dX8_reach_24 : decode cX8_reach 24 = .ok (.ifCond .ne 7, 3) := by decide +kernel
theorem dX8_reach_27 : decode cX8_reach 27 = .ok (.ldc2_w 233, 3) := by decide +kernel
theorem dX8_reach_30 : decode cX8_reach 30 = .ok (.lreturn, 1) := by decide +kernel
theorem dX8_reach_31 : decode cX8_reach 31 = .ok (.aload_n 0, 1) := by decide +kernel
theorem dX8_reach_32 : decode cX8_reach 32 = .ok (.iconst 0, 1) := by decide +kernel
theorem dX8_reach_33 : decode cX8_reach 33 = .ok (.bipush (-4), 2) := by decide +kernel
theorem dX8_reach_35 : decode cX8_reach 35 = .ok (.invokevirtual 157, 3) := by decide +kernel
theorem dX8_reach_38 : decode cX8_reach 38 = .ok (.iload 4, 2) := by decide +kernel
theorem dX8_reach_40 : decode cX8_reach 40 = .ok (.iconst 2, 1) := by decide +kernel
theorem dX8_reach_41 : decode cX8_reach 41 = .ok (.irem, 1) := by decide +kernel
theorem dX8_reach_42 : decode cX8_reach 42 = .ok (.ifCond .ne 17, 3) := by decide +kernel
theorem dX8_reach_45 : decode cX8_reach 45 = .ok (.aload_n 0, 1) := by decide +kernel
theorem dX8_reach_46 : decode cX8_reach 46 = .ok (.getfield 22, 3) := by decide +kernel
theorem dX8_reach_49 : decode cX8_reach 49 = .ok (.bipush 10, 2) := by decide +kernel
theorem dX8_reach_51 : decode cX8_reach 51 = .ok (.iload_n 2, 1) := by decide +kernel
theorem dX8_reach_52 : decode cX8_reach 52 = .ok (.imul, 1) := by decide +kernel
theorem dX8_reach_53 : decode cX8_reach 53 = .ok (.iload_n 1, 1) := by decide +kernel
theorem dX8_reach_54 : decode cX8_reach 54 = .ok (.iadd, 1) := by decide +kernel
theorem dX8_reach_55 : decode cX8_reach 55 = .ok (.laload, 1) := by decide +kernel
theorem dX8_reach_56 : decode cX8_reach 56 = .ok (.goto 14, 3) := by decide +kernel
theorem dX8_reach_59 : decode cX8_reach 59 = .ok (.aload_n 0, 1) := by decide +kernel
theorem dX8_reach_60 : decode cX8_reach 60 = .ok (.getfield 22, 3) := by decide +kernel
theorem dX8_reach_63 : decode cX8_reach 63 = .ok (.bipush 10, 2) := by decide +kernel
theorem dX8_reach_65 : decode cX8_reach 65 = .ok (.iload_n 1, 1) := by decide +kernel
theorem dX8_reach_66 : decode cX8_reach 66 = .ok (.imul, 1) := by decide +kernel
theorem dX8_reach_67 : decode cX8_reach 67 = .ok (.iload_n 2, 1) := by decide +kernel
theorem dX8_reach_68 : decode cX8_reach 68 = .ok (.iadd, 1) := by decide +kernel
theorem dX8_reach_69 : decode cX8_reach 69 = .ok (.laload, 1) := by decide +kernel
theorem dX8_reach_70 : decode cX8_reach 70 = .ok (.lstore 5, 2) := by decide +kernel
theorem dX8_reach_72 : decode cX8_reach 72 = .ok (.lload 5, 2) := by decide +kernel
theorem dX8_reach_74 : decode cX8_reach 74 = .ok (.ldc2_w 151, 3) := by decide +kernel
theorem dX8_reach_77 : decode cX8_reach 77 = .ok (.lcmp, 1) := by decide +kernel
theorem dX8_reach_78 : decode cX8_reach 78 = .ok (.ifCond .ge 9, 3) := by decide +kernel
theorem dX8_reach_81 : decode cX8_reach 81 = .ok (.iload 4, 2) := by decide +kernel
theorem dX8_reach_83 : decode cX8_reach 83 = .ok (.iconst 1, 1) := by decide +kernel
theorem dX8_reach_84 : decode cX8_reach 84 = .ok (.if_icmp .le 10, 3) := by decide +kernel
theorem dX8_reach_87 : decode cX8_reach 87 = .ok (.lload 5, 2) := by decide +kernel
theorem dX8_reach_89 : decode cX8_reach 89 = .ok (.iconst 1, 1) := by decide +kernel
theorem dX8_reach_90 : decode cX8_reach 90 = .ok (.invokestatic 235, 3) := by decide +kernel
theorem dX8_reach_93 : decode cX8_reach 93 = .ok (.lreturn, 1) := by decide +kernel
theorem dX8_reach_94 : decode cX8_reach 94 = .ok (.iload 4, 2) := by decide +kernel
theorem dX8_reach_96 : decode cX8_reach 96 = .ok (.ifCond .ne 14, 3) := by decide +kernel
theorem dX8_reach_99 : decode cX8_reach 99 = .ok (.iload_n 3, 1) := by decide +kernel
theorem dX8_reach_100 : decode cX8_reach 100 = .ok (.i2l, 1) := by decide +kernel
theorem dX8_reach_101 : decode cX8_reach 101 = .ok (.lload 5, 2) := by decide +kernel
theorem dX8_reach_103 : decode cX8_reach 103 = .ok (.invokestatic 147, 3) := by decide +kernel
theorem dX8_reach_106 : decode cX8_reach 106 = .ok (.ladd, 1) := by decide +kernel
theorem dX8_reach_107 : decode cX8_reach 107 = .ok (.goto 11, 3) := by decide +kernel
theorem dX8_reach_110 : decode cX8_reach 110 = .ok (.iload_n 3, 1) := by decide +kernel
theorem dX8_reach_111 : decode cX8_reach 111 = .ok (.i2l, 1) := by decide +kernel
theorem dX8_reach_112 : decode cX8_reach 112 = .ok (.lload 5, 2) := by decide +kernel
theorem dX8_reach_114 : decode cX8_reach 114 = .ok (.invokestatic 147, 3) := by decide +kernel
theorem dX8_reach_117 : decode cX8_reach 117 = .ok (.lsub, 1) := by decide +kernel
theorem dX8_reach_118 : decode cX8_reach 118 = .ok (.lreturn, 1) := by decide +kernel
set_option maxRecDepth 20000 in
theorem ggX8_room_X8_isPair : GoodIn wsX8_room wsX8_isPair := goodIn_r _ [8, 9, 10, 7, 11, 12, 13, 14, 15] (by decide +kernel) (by decide +kernel)
set_option maxRecDepth 20000 in
theorem gX8_room_X8_isPair : GoodIn wsX8_room (va_wsS RX8 198 yX8_isPair wsX8_isPair) := goodIn_app (goodIn_of _ (by decide +kernel)) ggX8_room_X8_isPair
set_option maxRecDepth 20000 in
theorem ggX8_room_X8_isFlag : GoodIn wsX8_room wsX8_isFlag := goodIn_r _ [18, 13, 14, 7, 15] (by decide +kernel) (by decide +kernel)
set_option maxRecDepth 20000 in
theorem gX8_room_X8_isFlag : GoodIn wsX8_room (va_wsS RX8 207 yX8_isFlag wsX8_isFlag) := goodIn_app (goodIn_of _ (by decide +kernel)) ggX8_room_X8_isFlag
set_option maxRecDepth 20000 in
theorem ggX8_room_X8_reckons : GoodIn wsX8_room wsX8_reckons := goodIn_r _ [22, 2, 3, 23, 24, 25, 26, 7, 27, 28, 29, 30, 31, 39, 40, 41, 42, 43, 44, 45, 46, 47, 48, 49, 50, 51, 52, 53, 54, 55, 56, 57, 58, 59, 60, 61] (by decide +kernel) (by decide +kernel)
set_option maxRecDepth 20000 in
theorem gX8_room_X8_reckons : GoodIn wsX8_room (wsV RX8 157 RX8 yX8_reckons wsX8_reckons) := goodIn_app (goodIn_of _ (by decide +kernel)) ggX8_room_X8_reckons
set_option maxRecDepth 20000 in
theorem ggX8_room_X8_limitOf : GoodIn wsX8_room wsX8_limitOf := goodIn_r _ [34, 31, 35] (by decide +kernel) (by decide +kernel)
set_option maxRecDepth 20000 in
theorem gX8_room_X8_limitOf : GoodIn wsX8_room (va_wsS RX8 147 yX8_limitOf wsX8_limitOf) := goodIn_app (goodIn_of _ (by decide +kernel)) ggX8_room_X8_limitOf
set_option maxRecDepth 20000 in
theorem ggX8_room_X8_edgesOf : GoodIn wsX8_room wsX8_edgesOf := goodIn_r _ [38, 31, 32, 33, 7, 34, 35] (by decide +kernel) (by decide +kernel)
set_option maxRecDepth 20000 in
theorem gX8_room_X8_edgesOf : GoodIn wsX8_room (va_wsS RX8 230 yX8_edgesOf wsX8_edgesOf) := goodIn_app (goodIn_of _ (by decide +kernel)) ggX8_room_X8_edgesOf
theorem dX8_room_0 : decode cX8_room 0 = .ok (.iload_n 1, 1) := by decide +kernel
theorem dX8_room_1 : decode cX8_room 1 = .ok (.iload_n 2, 1) := by decide +kernel
theorem dX8_room_2 : decode cX8_room 2 = .ok (.invokestatic 198, 3) := by decide +kernel
theorem dX8_room_5 : decode cX8_room 5 = .ok (.ifCond .eq 10, 3) := by decide +kernel
theorem dX8_room_8 : decode cX8_room 8 = .ok (.iload_n 3, 1) := by decide +kernel
theorem dX8_room_9 : decode cX8_room 9 = .ok (.invokestatic 207, 3) := by decide +kernel
theorem dX8_room_12 : decode cX8_room 12 = .ok (.ifCond .ne 7, 3) := by decide +kernel
theorem dX8_room_15 : decode cX8_room 15 = .ok (.ldc2_w 233, 3) := by decide +kernel
theorem dX8_room_18 : decode cX8_room 18 = .ok (.lreturn, 1) := by decide +kernel
theorem dX8_room_19 : decode cX8_room 19 = .ok (.aload_n 0, 1) := by decide +kernel
theorem dX8_room_20 : decode cX8_room 20 = .ok (.iconst 0, 1) := by decide +kernel
theorem dX8_room_21 : decode cX8_room 21 = .ok (.bipush (-4), 2) := by decide +kernel
theorem dX8_room_23 : decode cX8_room 23 = .ok (.invokevirtual 157, 3) := by decide +kernel
theorem dX8_room_26 : decode cX8_room 26 = .ok (.aload_n 0, 1) := by decide +kernel
theorem dX8_room_27 : decode cX8_room 27 = .ok (.getfield 22, 3) := by decide +kernel
theorem dX8_room_30 : decode cX8_room 30 = .ok (.bipush 10, 2) := by decide +kernel
theorem dX8_room_32 : decode cX8_room 32 = .ok (.iload_n 1, 1) := by decide +kernel
theorem dX8_room_33 : decode cX8_room 33 = .ok (.imul, 1) := by decide +kernel
theorem dX8_room_34 : decode cX8_room 34 = .ok (.iload_n 2, 1) := by decide +kernel
theorem dX8_room_35 : decode cX8_room 35 = .ok (.iadd, 1) := by decide +kernel
theorem dX8_room_36 : decode cX8_room 36 = .ok (.laload, 1) := by decide +kernel
theorem dX8_room_37 : decode cX8_room 37 = .ok (.lstore 4, 2) := by decide +kernel
theorem dX8_room_39 : decode cX8_room 39 = .ok (.lload 4, 2) := by decide +kernel
theorem dX8_room_41 : decode cX8_room 41 = .ok (.ldc2_w 151, 3) := by decide +kernel
theorem dX8_room_44 : decode cX8_room 44 = .ok (.lcmp, 1) := by decide +kernel
theorem dX8_room_45 : decode cX8_room 45 = .ok (.ifCond .lt 7, 3) := by decide +kernel
theorem dX8_room_48 : decode cX8_room 48 = .ok (.ldc2_w 196, 3) := by decide +kernel
theorem dX8_room_51 : decode cX8_room 51 = .ok (.lreturn, 1) := by decide +kernel
theorem dX8_room_52 : decode cX8_room 52 = .ok (.iload_n 3, 1) := by decide +kernel
theorem dX8_room_53 : decode cX8_room 53 = .ok (.ifCond .ne 12, 3) := by decide +kernel
theorem dX8_room_56 : decode cX8_room 56 = .ok (.lload 4, 2) := by decide +kernel
theorem dX8_room_58 : decode cX8_room 58 = .ok (.invokestatic 147, 3) := by decide +kernel
theorem dX8_room_61 : decode cX8_room 61 = .ok (.lneg, 1) := by decide +kernel
theorem dX8_room_62 : decode cX8_room 62 = .ok (.goto 18, 3) := by decide +kernel
theorem dX8_room_65 : decode cX8_room 65 = .ok (.lload 4, 2) := by decide +kernel
theorem dX8_room_67 : decode cX8_room 67 = .ok (.invokestatic 230, 3) := by decide +kernel
theorem dX8_room_70 : decode cX8_room 70 = .ok (.lconst 0, 1) := by decide +kernel
theorem dX8_room_71 : decode cX8_room 71 = .ok (.lcmp, 1) := by decide +kernel
theorem dX8_room_72 : decode cX8_room 72 = .ok (.ifCond .le 7, 3) := by decide +kernel
