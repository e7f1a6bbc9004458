theorem dX7_read_112 : decode cX7_read 112 = .ok (.lload 9, 2) := by decide +kernel
theorem dX7_read_114 : decode cX7_read 114 = .ok (.ldc2_w 268, 3) := by decide +kernel
theorem dX7_read_117 : decode cX7_read 117 = .ok (.ladd, 1) := by decide +kernel
theorem dX7_read_118 : decode cX7_read 118 = .ok (.invokevirtual 264, 3) := by decide +kernel
theorem dX7_read_121 : decode cX7_read 121 = .ok (.aload 5, 2) := by decide +kernel
theorem dX7_read_123 : decode cX7_read 123 = .ok (.lload 9, 2) := by decide +kernel
theorem dX7_read_125 : decode cX7_read 125 = .ok (.ldc2_w 270, 3) := by decide +kernel
theorem dX7_read_128 : decode cX7_read 128 = .ok (.ladd, 1) := by decide +kernel
theorem dX7_read_129 : decode cX7_read 129 = .ok (.invokevirtual 264, 3) := by decide +kernel
theorem dX7_read_132 : decode cX7_read 132 = .ok (.invokevirtual 169, 3) := by decide +kernel
theorem dX7_read_135 : decode cX7_read 135 = .ok (.ifCond .ge 18, 3) := by decide +kernel
theorem dX7_read_138 : decode cX7_read 138 = .ok (.aload_n 0, 1) := by decide +kernel
theorem dX7_read_139 : decode cX7_read 139 = .ok (.getfield 10, 3) := by decide +kernel
theorem dX7_read_142 : decode cX7_read 142 = .ok (.iload 6, 2) := by decide +kernel
theorem dX7_read_144 : decode cX7_read 144 = .ok (.putfield 108, 3) := by decide +kernel
theorem dX7_read_147 : decode cX7_read 147 = .ok (.bipush (-20), 2) := by decide +kernel
theorem dX7_read_149 : decode cX7_read 149 = .ok (.iload 8, 2) := by decide +kernel
theorem dX7_read_151 : decode cX7_read 151 = .ok (.isub, 1) := by decide +kernel
theorem dX7_read_152 : decode cX7_read 152 = .ok (.ireturn, 1) := by decide +kernel
theorem dX7_read_153 : decode cX7_read 153 = .ok (.iinc 8 1, 3) := by decide +kernel
theorem dX7_read_156 : decode cX7_read 156 = .ok (.goto (-101), 3) := by decide +kernel
theorem dX7_read_159 : decode cX7_read 159 = .ok (.aload_n 0, 1) := by decide +kernel
theorem dX7_read_160 : decode cX7_read 160 = .ok (.iload 7, 2) := by decide +kernel
theorem dX7_read_162 : decode cX7_read 162 = .ok (.putfield 64, 3) := by decide +kernel
theorem dX7_read_165 : decode cX7_read 165 = .ok (.aload_n 0, 1) := by decide +kernel
theorem dX7_read_166 : decode cX7_read 166 = .ok (.getfield 10, 3) := by decide +kernel
theorem dX7_read_169 : decode cX7_read 169 = .ok (.getfield 108, 3) := by decide +kernel
theorem dX7_read_172 : decode cX7_read 172 = .ok (.iload 6, 2) := by decide +kernel
theorem dX7_read_174 : decode cX7_read 174 = .ok (.isub, 1) := by decide +kernel
theorem dX7_read_175 : decode cX7_read 175 = .ok (.ireturn, 1) := by decide +kernel
theorem dX7_torn_0 : decode cX7_torn 0 = .ok (.aload_n 0, 1) := by decide +kernel
theorem dX7_torn_1 : decode cX7_torn 1 = .ok (.getfield 64, 3) := by decide +kernel
theorem dX7_torn_4 : decode cX7_torn 4 = .ok (.ireturn, 1) := by decide +kernel
set_option maxRecDepth 20000 in
theorem ggX7_count_X7_imagesMade : GoodIn wsX7_count wsX7_imagesMade := goodIn_r _ [11, 12, 20, 21, 22, 23, 24, 25, 26, 27, 28, 29] (by decide +kernel) (by decide +kernel)
set_option maxRecDepth 20000 in
theorem gX7_count_X7_imagesMade : GoodIn wsX7_count (wsV RX7 272 RX7 yX7_imagesMade wsX7_imagesMade) := goodIn_app (goodIn_of _ (by decide +kernel)) ggX7_count_X7_imagesMade
set_option maxRecDepth 20000 in
theorem ggX7_count_X5_strictBounds : GoodIn wsX7_count wsX5_strictBounds := goodIn_r _ [17, 18, 19, 35, 36, 37, 38, 39, 40, 41, 42] (by decide +kernel) (by decide +kernel)
set_option maxRecDepth 20000 in
theorem gX7_count_X5_strictBounds : GoodIn wsX7_count (wsV RX7 276 RX5 yX5_strictBounds wsX5_strictBounds) := goodIn_app (goodIn_of _ (by decide +kernel)) ggX7_count_X5_strictBounds
theorem dX7_count_0 : decode cX7_count 0 = .ok (.iload_n 1, 1) := by decide +kernel
theorem dX7_count_1 : decode cX7_count 1 = .ok (.tableswitch 80 0 3 #[31, 36, 44, 72], 31) := by decide +kernel
theorem dX7_count_32 : decode cX7_count 32 = .ok (.aload_n 0, 1) := by decide +kernel
theorem dX7_count_33 : decode cX7_count 33 = .ok (.invokevirtual 272, 3) := by decide +kernel
theorem dX7_count_36 : decode cX7_count 36 = .ok (.ireturn, 1) := by decide +kernel
theorem dX7_count_37 : decode cX7_count 37 = .ok (.aload_n 0, 1) := by decide +kernel
theorem dX7_count_38 : decode cX7_count 38 = .ok (.getfield 63, 3) := by decide +kernel
theorem dX7_count_41 : decode cX7_count 41 = .ok (.getfield 68, 3) := by decide +kernel
theorem dX7_count_44 : decode cX7_count 44 = .ok (.ireturn, 1) := by decide +kernel
theorem dX7_count_45 : decode cX7_count 45 = .ok (.aload_n 0, 1) := by decide +kernel
theorem dX7_count_46 : decode cX7_count 46 = .ok (.getfield 26, 3) := by decide +kernel
theorem dX7_count_49 : decode cX7_count 49 = .ok (.iconst 0, 1) := by decide +kernel
theorem dX7_count_50 : decode cX7_count 50 = .ok (.aaload, 1) := by decide +kernel
theorem dX7_count_51 : decode cX7_count 51 = .ok (.getfield 254, 3) := by decide +kernel
theorem dX7_count_54 : decode cX7_count 54 = .ok (.iconst (-1), 1) := by decide +kernel
theorem dX7_count_55 : decode cX7_count 55 = .ok (.if_icmp .ne 8, 3) := by decide +kernel
theorem dX7_count_58 : decode cX7_count 58 = .ok (.bipush (-4), 2) := by decide +kernel
theorem dX7_count_60 : decode cX7_count 60 = .ok (.goto 12, 3) := by decide +kernel
theorem dX7_count_63 : decode cX7_count 63 = .ok (.aload_n 0, 1) := by decide +kernel
theorem dX7_count_64 : decode cX7_count 64 = .ok (.getfield 26, 3) := by decide +kernel
theorem dX7_count_67 : decode cX7_count 67 = .ok (.iconst 0, 1) := by decide +kernel
theorem dX7_count_68 : decode cX7_count 68 = .ok (.aaload, 1) := by decide +kernel
theorem dX7_count_69 : decode cX7_count 69 = .ok (.getfield 275, 3) := by decide +kernel
theorem dX7_count_72 : decode cX7_count 72 = .ok (.ireturn, 1) := by decide +kernel
theorem dX7_count_73 : decode cX7_count 73 = .ok (.aload_n 0, 1) := by decide +kernel
theorem dX7_count_74 : decode cX7_count 74 = .ok (.getfield 10, 3) := by decide +kernel
theorem dX7_count_77 : decode cX7_count 77 = .ok (.invokevirtual 276, 3) := by decide +kernel
theorem dX7_count_80 : decode cX7_count 80 = .ok (.ireturn, 1) := by decide +kernel
theorem dX7_count_81 : decode cX7_count 81 = .ok (.iconst (-1), 1) := by decide +kernel
theorem dX7_count_82 : decode cX7_count 82 = .ok (.ireturn, 1) := by decide +kernel
theorem dX7_isThing_0 : decode cX7_isThing 0 = .ok (.iload_n 0, 1) := by decide +kernel
theorem dX7_isThing_1 : decode cX7_isThing 1 = .ok (.ifCond .lt 13, 3) := by decide +kernel
theorem dX7_isThing_4 : decode cX7_isThing 4 = .ok (.iload_n 0, 1) := by decide +kernel
theorem dX7_isThing_5 : decode cX7_isThing 5 = .ok (.bipush 10, 2) := by decide +kernel
theorem dX7_isThing_7 : decode cX7_isThing 7 = .ok (.if_icmp .ge 7, 3) := by decide +kernel
theorem dX7_isThing_10 : decode cX7_isThing 10 = .ok (.iconst 1, 1) := by decide +kernel
theorem dX7_isThing_11 : decode cX7_isThing 11 = .ok (.goto 4, 3) := by decide +kernel
theorem dX7_isThing_14 : decode cX7_isThing 14 = .ok (.iconst 0, 1) := by decide +kernel
theorem dX7_isThing_15 : decode cX7_isThing 15 = .ok (.ireturn, 1) := by decide +kernel
set_option maxRecDepth 20000 in
theorem ggX7_arePair_X7_isThing : GoodIn wsX7_arePair wsX7_isThing := goodIn_r _ [4] (by decide +kernel) (by decide +kernel)
set_option maxRecDepth 20000 in
theorem gX7_arePair_X7_isThing : GoodIn wsX7_arePair (va_wsS RX7 195 yX7_isThing wsX7_isThing) := goodIn_app (goodIn_of _ (by decide +kernel)) ggX7_arePair_X7_isThing
theorem dX7_arePair_0 : decode cX7_arePair 0 = .ok (.iload_n 0, 1) := by decide +kernel
theorem dX7_arePair_1 : decode cX7_arePair 1 = .ok (.invokestatic 195, 3) := by decide +kernel
theorem dX7_arePair_4 : decode cX7_arePair 4 = .ok (.ifCond .eq 19, 3) := by decide +kernel
theorem dX7_arePair_7 : decode cX7_arePair 7 = .ok (.iload_n 1, 1) := by decide +kernel
theorem dX7_arePair_8 : decode cX7_arePair 8 = .ok (.invokestatic 195, 3) := by decide +kernel
theorem dX7_arePair_11 : decode cX7_arePair 11 = .ok (.ifCond .eq 12, 3) := by decide +kernel
theorem dX7_arePair_14 : decode cX7_arePair 14 = .ok (.iload_n 0, 1) := by decide +kernel
theorem dX7_arePair_15 : decode cX7_arePair 15 = .ok (.iload_n 1, 1) := by decide +kernel
theorem dX7_arePair_16 : decode cX7_arePair 16 = .ok (.if_icmp .eq 7, 3) := by decide +kernel
theorem dX7_arePair_19 : decode cX7_arePair 19 = .ok (.iconst 1, 1) := by decide +kernel
theorem dX7_arePair_20 : decode cX7_arePair 20 = .ok (.goto 4, 3) := by decide +kernel
theorem dX7_arePair_23 : decode cX7_arePair 23 = .ok (.iconst 0, 1) := by decide +kernel
theorem dX7_arePair_24 : decode cX7_arePair 24 = .ok (.ireturn, 1) := by decide +kernel
theorem dX7_isBit_0 : decode cX7_isBit 0 = .ok (.iload_n 0, 1) := by decide +kernel
theorem dX7_isBit_1 : decode cX7_isBit 1 = .ok (.ifCond .eq 8, 3) := by decide +kernel
theorem dX7_isBit_4 : decode cX7_isBit 4 = .ok (.iload_n 0, 1) := by decide +kernel
theorem dX7_isBit_5 : decode cX7_isBit 5 = .ok (.iconst 1, 1) := by decide +kernel
theorem dX7_isBit_6 : decode cX7_isBit 6 = .ok (.if_icmp .ne 7, 3) := by decide +kernel
theorem dX7_isBit_9 : decode cX7_isBit 9 = .ok (.iconst 1, 1) := by decide +kernel
theorem dX7_isBit_10 : decode cX7_isBit 10 = .ok (.goto 4, 3) := by decide +kernel
theorem dX7_isBit_13 : decode cX7_isBit 13 = .ok (.iconst 0, 1) := by decide +kernel
theorem dX7_isBit_14 : decode cX7_isBit 14 = .ok (.ireturn, 1) := by decide +kernel
theorem dX7_is32Bits_0 : decode cX7_is32Bits 0 = .ok (.lload_n 0, 1) := by decide +kernel
theorem dX7_is32Bits_1 : decode cX7_is32Bits 1 = .ok (.lload_n 0, 1) := by decide +kernel
theorem dX7_is32Bits_2 : decode cX7_is32Bits 2 = .ok (.l2i, 1) := by decide +kernel
theorem dX7_is32Bits_3 : decode cX7_is32Bits 3 = .ok (.i2l, 1) := by decide +kernel
theorem dX7_is32Bits_4 : decode cX7_is32Bits 4 = .ok (.lcmp, 1) := by decide +kernel
theorem dX7_is32Bits_5 : decode cX7_is32Bits 5 = .ok (.ifCond .ne 7, 3) := by decide +kernel
theorem dX7_is32Bits_8 : decode cX7_is32Bits 8 = .ok (.iconst 1, 1) := by decide +kernel
theorem dX7_is32Bits_9 : decode cX7_is32Bits 9 = .ok (.goto 4, 3) := by decide +kernel
theorem dX7_is32Bits_12 : decode cX7_is32Bits 12 = .ok (.iconst 0, 1) := by decide +kernel
theorem dX7_is32Bits_13 : decode cX7_is32Bits 13 = .ok (.ireturn, 1) := by decide +kernel
theorem dX7_weigh_0 : decode cX7_weigh 0 = .ok (.iload_n 2, 1) := by decide +kernel
theorem dX7_weigh_1 : decode cX7_weigh 1 = .ok (.iconst 1, 1) := by decide +kernel
theorem dX7_weigh_2 : decode cX7_weigh 2 = .ok (.if_icmp .ne 13, 3) := by decide +kernel
theorem dX7_weigh_5 : decode cX7_weigh 5 = .ok (.iload_n 0, 1) := by decide +kernel
theorem dX7_weigh_6 : decode cX7_weigh 6 = .ok (.i2l, 1) := by decide +kernel
theorem dX7_weigh_7 : decode cX7_weigh 7 = .ok (.iload_n 1, 1) := by decide +kernel
theorem dX7_weigh_8 : decode cX7_weigh 8 = .ok (.i2l, 1) := by decide +kernel
theorem dX7_weigh_9 : decode cX7_weigh 9 = .ok (.lsub, 1) := by decide +kernel
theorem dX7_weigh_10 : decode cX7_weigh 10 = .ok (.ldc2_w 279, 3) := by decide +kernel
theorem dX7_weigh_13 : decode cX7_weigh 13 = .ok (.lmul, 1) := by decide +kernel
theorem dX7_weigh_14 : decode cX7_weigh 14 = .ok (.lreturn, 1) := by decide +kernel
theorem dX7_weigh_15 : decode cX7_weigh 15 = .ok (.iload_n 0, 1) := by decide +kernel
theorem dX7_weigh_16 : decode cX7_weigh 16 = .ok (.i2l, 1) := by decide +kernel
theorem dX7_weigh_17 : decode cX7_weigh 17 = .ok (.ldc2_w 279, 3) := by decide +kernel
theorem dX7_weigh_20 : decode cX7_weigh 20 = .ok (.lmul, 1) := by decide +kernel
theorem dX7_weigh_21 : decode cX7_weigh 21 = .ok (.iload_n 1, 1) := by decide +kernel
theorem dX7_weigh_22 : decode cX7_weigh 22 = .ok (.i2l, 1) := by decide +kernel
theorem dX7_weigh_23 : decode cX7_weigh 23 = .ok (.lsub, 1) := by decide +kernel
theorem dX7_weigh_24 : decode cX7_weigh 24 = .ok (.lreturn, 1) := by decide +kernel
set_option maxRecDepth 20000 in
theorem ggX7_amountOf_J9_floorDiv_f86c9 : GoodIn wsX7_amountOf wsJ9_floorDiv_f86c9 := goodIn_r _ [5] (by decide +kernel) (by decide +kernel)
set_option maxRecDepth 20000 in
theorem gX7_amountOf_J9_floorDiv_f86c9 : GoodIn wsX7_amountOf (va_wsS RX7 281 yJ9_floorDiv_f86c9 wsJ9_floorDiv_f86c9) := goodIn_app (goodIn_of _ (by decide +kernel)) ggX7_amountOf_J9_floorDiv_f86c9
theorem dX7_amountOf_0 : decode cX7_amountOf 0 = .ok (.lload_n 0, 1) := by decide +kernel
theorem dX7_amountOf_1 : decode cX7_amountOf 1 = .ok (.lneg, 1) := by decide +kernel
theorem dX7_amountOf_2 : decode cX7_amountOf 2 = .ok (.ldc2_w 279, 3) := by decide +kernel
theorem dX7_amountOf_5 : decode cX7_amountOf 5 = .ok (.invokestatic 281, 3) := by decide +kernel
theorem dX7_amountOf_8 : decode cX7_amountOf 8 = .ok (.lneg, 1) := by decide +kernel
theorem dX7_amountOf_9 : decode cX7_amountOf 9 = .ok (.lreturn, 1) := by decide +kernel
set_option maxRecDepth 20000 in
theorem ggX7_edgesOf_X7_amountOf : GoodIn wsX7_edgesOf wsX7_amountOf := goodIn_r _ [5, 1, 6, 7, 8, 9] (by decide +kernel) (by decide +kernel)
set_option maxRecDepth 20000 in
theorem gX7_edgesOf_X7_amountOf : GoodIn wsX7_edgesOf (va_wsS RX7 217 yX7_amountOf wsX7_amountOf) := goodIn_app (goodIn_of _ (by decide +kernel)) ggX7_edgesOf_X7_amountOf
theorem dX7_edgesOf_0 : decode cX7_edgesOf 0 = .ok (.lload_n 0, 1) := by decide +kernel
theorem dX7_edgesOf_1 : decode cX7_edgesOf 1 = .ok (.invokestatic 217, 3) := by decide +kernel
theorem dX7_edgesOf_4 : decode cX7_edgesOf 4 = .ok (.ldc2_w 279, 3) := by decide +kernel
theorem dX7_edgesOf_7 : decode cX7_edgesOf 7 = .ok (.lmul, 1) := by decide +kernel
theorem dX7_edgesOf_8 : decode cX7_edgesOf 8 = .ok (.lload_n 0, 1) := by decide +kernel
theorem dX7_edgesOf_9 : decode cX7_edgesOf 9 = .ok (.lsub, 1) := by decide +kernel
theorem dX7_edgesOf_10 : decode cX7_edgesOf 10 = .ok (.lreturn, 1) := by decide +kernel
theorem dX7_sumToNothing_0 : decode cX7_sumToNothing 0 = .ok (.lload_n 0, 1) := by decide +kernel
theorem dX7_sumToNothing_1 : decode cX7_sumToNothing 1 = .ok (.ldc2_w 156, 3) := by decide +kernel
theorem dX7_sumToNothing_4 : decode cX7_sumToNothing 4 = .ok (.lcmp, 1) := by decide +kernel
theorem dX7_sumToNothing_5 : decode cX7_sumToNothing 5 = .ok (.ifCond .eq 23, 3) := by decide +kernel
theorem dX7_sumToNothing_8 : decode cX7_sumToNothing 8 = .ok (.lload_n 2, 1) := by decide +kernel
theorem dX7_sumToNothing_9 : decode cX7_sumToNothing 9 = .ok (.ldc2_w 156, 3) := by decide +kernel
theorem dX7_sumToNothing_12 : decode cX7_sumToNothing 12 = .ok (.lcmp, 1) := by decide +kernel
theorem dX7_sumToNothing_13 : decode cX7_sumToNothing 13 = .ok (.ifCond .eq 15, 3) := by decide +kernel
theorem dX7_sumToNothing_16 : decode cX7_sumToNothing 16 = .ok (.lload_n 0, 1) := by decide +kernel
theorem dX7_sumToNothing_17 : decode cX7_sumToNothing 17 = .ok (.lload_n 2, 1) := by decide +kernel
theorem dX7_sumToNothing_18 : decode cX7_sumToNothing 18 = .ok (.ladd, 1) := by decide +kernel
theorem dX7_sumToNothing_19 : decode cX7_sumToNothing 19 = .ok (.lconst 0, 1) := by decide +kernel
theorem dX7_sumToNothing_20 : decode cX7_sumToNothing 20 = .ok (.lcmp, 1) := by decide +kernel
theorem dX7_sumToNothing_21 : decode cX7_sumToNothing 21 = .ok (.ifCond .ne 7, 3) := by decide +kernel
theorem dX7_sumToNothing_24 : decode cX7_sumToNothing 24 = .ok (.iconst 1, 1) := by decide +kernel
theorem dX7_sumToNothing_25 : decode cX7_sumToNothing 25 = .ok (.goto 4, 3) := by decide +kernel
theorem dX7_sumToNothing_28 : decode cX7_sumToNothing 28 = .ok (.iconst 0, 1) := by decide +kernel
theorem dX7_sumToNothing_29 : decode cX7_sumToNothing 29 = .ok (.ireturn, 1) := by decide +kernel
theorem dX7_nextSeed_0 : decode cX7_nextSeed 0 = .ok (.iload_n 0, 1) := by decide +kernel
theorem dX7_nextSeed_1 : decode cX7_nextSeed 1 = .ok (.ldc_w 287, 3) := by decide +kernel
theorem dX7_nextSeed_4 : decode cX7_nextSeed 4 = .ok (.imul, 1) := by decide +kernel
theorem dX7_nextSeed_5 : decode cX7_nextSeed 5 = .ok (.sipush 12345, 3) := by decide +kernel
theorem dX7_nextSeed_8 : decode cX7_nextSeed 8 = .ok (.iadd, 1) := by decide +kernel
theorem dX7_nextSeed_9 : decode cX7_nextSeed 9 = .ok (.ireturn, 1) := by decide +kernel
theorem dX7_seedBits_0 : decode cX7_seedBits 0 = .ok (.iload_n 0, 1) := by decide +kernel
theorem dX7_seedBits_1 : decode cX7_seedBits 1 = .ok (.bipush 16, 2) := by decide +kernel
theorem dX7_seedBits_3 : decode cX7_seedBits 3 = .ok (.iushr, 1) := by decide +kernel
theorem dX7_seedBits_4 : decode cX7_seedBits 4 = .ok (.sipush 32767, 3) := by decide +kernel
theorem dX7_seedBits_7 : decode cX7_seedBits 7 = .ok (.iand, 1) := by decide +kernel
theorem dX7_seedBits_8 : decode cX7_seedBits 8 = .ok (.ireturn, 1) := by decide +kernel
set_option maxRecDepth 20000 in
theorem ggX7_fits_X2_between : GoodIn wsX7_fits wsX2_between := goodIn_r _ [8, 9, 10, 11, 12, 13, 14, 15, 16, 17, 18, 7, 19, 20, 21, 22, 23, 24, 25, 26, 27, 28, 39, 40, 41, 42, 43, 44, 45, 46, 47, 48] (by decide +kernel) (by decide +kernel)
set_option maxRecDepth 20000 in
theorem gX7_fits_X2_between : GoodIn wsX7_fits (wsV RX7 213 RX2 yX2_between wsX2_between) := goodIn_app (goodIn_of _ (by decide +kernel)) ggX7_fits_X2_between
theorem dX7_fits_0 : decode cX7_fits 0 = .ok (.aload_n 0, 1) := by decide +kernel
theorem dX7_fits_1 : decode cX7_fits 1 = .ok (.getfield 34, 3) := by decide +kernel
theorem dX7_fits_4 : decode cX7_fits 4 = .ok (.aload_n 0, 1) := by decide +kernel
theorem dX7_fits_5 : decode cX7_fits 5 = .ok (.getfield 10, 3) := by decide +kernel
theorem dX7_fits_8 : decode cX7_fits 8 = .ok (.iload_n 1, 1) := by decide +kernel
theorem dX7_fits_9 : decode cX7_fits 9 = .ok (.iload_n 2, 1) := by decide +kernel
theorem dX7_fits_10 : decode cX7_fits 10 = .ok (.iload 5, 2) := by decide +kernel
theorem dX7_fits_12 : decode cX7_fits 12 = .ok (.invokevirtual 213, 3) := by decide +kernel
theorem dX7_fits_15 : decode cX7_fits 15 = .ok (.lstore 6, 2) := by decide +kernel
theorem dX7_fits_17 : decode cX7_fits 17 = .ok (.lload 6, 2) := by decide +kernel
theorem dX7_fits_19 : decode cX7_fits 19 = .ok (.ldc2_w 156, 3) := by decide +kernel
theorem dX7_fits_22 : decode cX7_fits 22 = .ok (.lcmp, 1) := by decide +kernel
theorem dX7_fits_23 : decode cX7_fits 23 = .ok (.ifCond .eq 12, 3) := by decide +kernel
theorem dX7_fits_26 : decode cX7_fits 26 = .ok (.lload 6, 2) := by decide +kernel
theorem dX7_fits_28 : decode cX7_fits 28 = .ok (.lload_n 3, 1) := by decide +kernel
theorem dX7_fits_29 : decode cX7_fits 29 = .ok (.ladd, 1) := by decide +kernel
theorem dX7_fits_30 : decode cX7_fits 30 = .ok (.lconst 0, 1) := by decide +kernel
theorem dX7_fits_31 : decode cX7_fits 31 = .ok (.lcmp, 1) := by decide +kernel
theorem dX7_fits_32 : decode cX7_fits 32 = .ok (.ifCond .lt 7, 3) := by decide +kernel
theorem dX7_fits_35 : decode cX7_fits 35 = .ok (.iconst 1, 1) := by decide +kernel
theorem dX7_fits_36 : decode cX7_fits 36 = .ok (.goto 4, 3) := by decide +kernel
theorem dX7_fits_39 : decode cX7_fits 39 = .ok (.iconst 0, 1) := by decide +kernel
theorem dX7_fits_40 : decode cX7_fits 40 = .ok (.ireturn, 1) := by decide +kernel
set_option maxRecDepth 20000 in
theorem ggX7_join_X7_arePair : GoodIn wsX7_join wsX7_arePair := goodIn_r _ [8, 9, 10, 7, 11] (by decide +kernel) (by decide +kernel)
set_option maxRecDepth 20000 in
theorem gX7_join_X7_arePair : GoodIn wsX7_join (va_wsS RX7 152 yX7_arePair wsX7_arePair) := goodIn_app (goodIn_of _ (by decide +kernel)) ggX7_join_X7_arePair
set_option maxRecDepth 20000 in
theorem ggX7_join_X7_isBit : GoodIn wsX7_join wsX7_isBit := goodIn_r _ [14] (by decide +kernel) (by decide +kernel)
set_option maxRecDepth 20000 in
theorem gX7_join_X7_isBit : GoodIn wsX7_join (va_wsS RX7 173 yX7_isBit wsX7_isBit) := goodIn_app (goodIn_of _ (by decide +kernel)) ggX7_join_X7_isBit
set_option maxRecDepth 20000 in
theorem ggX7_join_X7_weigh : GoodIn wsX7_join wsX7_weigh := goodIn_r _ [17, 18] (by decide +kernel) (by decide +kernel)
set_option maxRecDepth 20000 in
theorem gX7_join_X7_weigh : GoodIn wsX7_join (va_wsS RX7 176 yX7_weigh wsX7_weigh) := goodIn_app (goodIn_of _ (by decide +kernel)) ggX7_join_X7_weigh
set_option maxRecDepth 20000 in
theorem ggX7_join_X7_fits : GoodIn wsX7_join wsX7_fits := goodIn_r _ [22, 23, 1, 24, 25, 26, 27, 28, 29, 30, 31, 32, 33, 34, 35, 36, 37, 38, 39, 40, 41, 42, 43, 44, 45, 16, 7, 17, 18, 90, 91, 92, 93, 94, 95, 96, 97, 98, 99, 108, 109, 100, 101, 102, 103, 104, 105, 106, 107] (by decide +kernel) (by decide +kernel)
set_option maxRecDepth 20000 in
theorem gX7_join_X7_fits : GoodIn wsX7_join (wsV RX7 180 RX7 yX7_fits wsX7_fits) := goodIn_app (goodIn_of _ (by decide +kernel)) ggX7_join_X7_fits
set_option maxRecDepth 20000 in
theorem ggX7_join_X0_find : GoodIn wsX7_join wsX0_find := goodIn_r _ [50, 51, 52, 53, 54, 34, 35, 36, 55, 56, 57, 49, 58, 59, 60, 61, 62, 63, 64, 65, 66, 67, 68, 69, 70, 71, 72, 73, 16, 7, 17, 18, 74, 75, 76, 77, 78, 79, 80, 81, 82, 110, 111, 112, 100, 101, 102, 103, 104, 105, 106, 107] (by decide +kernel) (by decide +kernel)
set_option maxRecDepth 20000 in
theorem gX7_join_X0_find : GoodIn wsX7_join (wsV RX7 191 RX0 yX0_find wsX0_find) := goodIn_app (goodIn_of _ (by decide +kernel)) ggX7_join_X0_find
set_option maxRecDepth 20000 in
theorem ggX7_join_X5_append : GoodIn wsX7_join wsX5_append := goodIn_r _ [86, 87, 88, 89, 71, 72, 100, 101, 102, 103, 104, 105, 106, 107] (by decide +kernel) (by decide +kernel)
set_option maxRecDepth 20000 in
theorem gX7_join_X5_append : GoodIn wsX7_join (wsV RX7 247 RX5 yX5_append wsX5_append) := goodIn_app (goodIn_of _ (by decide +kernel)) ggX7_join_X5_append
theorem dX7_join_0 : decode cX7_join 0 = .ok (.iload_n 1, 1) := by decide +kernel
theorem dX7_join_1 : decode cX7_join 1 = .ok (.iload_n 2, 1) := by decide +kernel
theorem dX7_join_2 : decode cX7_join 2 = .ok (.invokestatic 152, 3) := by decide +kernel
theorem dX7_join_5 : decode cX7_join 5 = .ok (.ifCond .eq 11, 3) := by decide +kernel
theorem dX7_join_8 : decode cX7_join 8 = .ok (.iload 4, 2) := by decide +kernel
theorem dX7_join_10 : decode cX7_join 10 = .ok (.invokestatic 173, 3) := by decide +kernel
theorem dX7_join_13 : decode cX7_join 13 = .ok (.ifCond .ne 5, 3) := by decide +kernel
theorem dX7_join_16 : decode cX7_join 16 = .ok (.iconst (-1), 1) := by decide +kernel
theorem dX7_join_17 : decode cX7_join 17 = .ok (.ireturn, 1) := by decide +kernel
theorem dX7_join_18 : decode cX7_join 18 = .ok (.aload_n 0, 1) := by decide +kernel
theorem dX7_join_19 : decode cX7_join 19 = .ok (.getfield 10, 3) := by decide +kernel
theorem dX7_join_22 : decode cX7_join 22 = .ok (.getfield 108, 3) := by decide +kernel
theorem dX7_join_25 : decode cX7_join 25 = .ok (.bipush 24, 2) := by decide +kernel
theorem dX7_join_27 : decode cX7_join 27 = .ok (.if_icmp .lt 6, 3) := by decide +kernel
theorem dX7_join_30 : decode cX7_join 30 = .ok (.bipush (-3), 2) := by decide +kernel
theorem dX7_join_32 : decode cX7_join 32 = .ok (.ireturn, 1) := by decide +kernel
theorem dX7_join_33 : decode cX7_join 33 = .ok (.iload_n 3, 1) := by decide +kernel
theorem dX7_join_34 : decode cX7_join 34 = .ok (.iload 4, 2) := by decide +kernel
theorem dX7_join_36 : decode cX7_join 36 = .ok (.aload_n 0, 1) := by decide +kernel
theorem dX7_join_37 : decode cX7_join 37 = .ok (.getfield 10, 3) := by decide +kernel
theorem dX7_join_40 : decode cX7_join 40 = .ok (.getfield 86, 3) := by decide +kernel
theorem dX7_join_43 : decode cX7_join 43 = .ok (.invokestatic 176, 3) := by decide +kernel
theorem dX7_join_46 : decode cX7_join 46 = .ok (.lstore 5, 2) := by decide +kernel
theorem dX7_join_48 : decode cX7_join 48 = .ok (.aload_n 0, 1) := by decide +kernel
theorem dX7_join_49 : decode cX7_join 49 = .ok (.iload_n 1, 1) := by decide +kernel
theorem dX7_join_50 : decode cX7_join 50 = .ok (.iload_n 2, 1) := by decide +kernel
theorem dX7_join_51 : decode cX7_join 51 = .ok (.lload 5, 2) := by decide +kernel
theorem dX7_join_53 : decode cX7_join 53 = .ok (.iconst (-1), 1) := by decide +kernel
theorem dX7_join_54 : decode cX7_join 54 = .ok (.invokevirtual 180, 3) := by decide +kernel
theorem dX7_join_57 : decode cX7_join 57 = .ok (.ifCond .ne 22, 3) := by decide +kernel
theorem dX7_join_60 : decode cX7_join 60 = .ok (.aload_n 0, 1) := by decide +kernel
theorem dX7_join_61 : decode cX7_join 61 = .ok (.getfield 41, 3) := by decide +kernel
theorem dX7_join_64 : decode cX7_join 64 = .ok (.aload_n 0, 1) := by decide +kernel
theorem dX7_join_65 : decode cX7_join 65 = .ok (.getfield 10, 3) := by decide +kernel
theorem dX7_join_68 : decode cX7_join 68 = .ok (.iload_n 1, 1) := by decide +kernel
theorem dX7_join_69 : decode cX7_join 69 = .ok (.iload_n 2, 1) := by decide +kernel
theorem dX7_join_70 : decode cX7_join 70 = .ok (.lload 5, 2) := by decide +kernel
theorem dX7_join_72 : decode cX7_join 72 = .ok (.iconst (-1), 1) := by decide +kernel
theorem dX7_join_73 : decode cX7_join 73 = .ok (.invokevirtual 191, 3) := by decide +kernel
theorem dX7_join_76 : decode cX7_join 76 = .ok (.bipush (-2), 2) := by decide +kernel
theorem dX7_join_78 : decode cX7_join 78 = .ok (.ireturn, 1) := by decide +kernel
theorem dX7_join_79 : decode cX7_join 79 = .ok (.aload_n 0, 1) := by decide +kernel
theorem dX7_join_80 : decode cX7_join 80 = .ok (.getfield 10, 3) := by decide +kernel
theorem dX7_join_83 : decode cX7_join 83 = .ok (.iload_n 1, 1) := by decide +kernel
theorem dX7_join_84 : decode cX7_join 84 = .ok (.iload_n 2, 1) := by decide +kernel
theorem dX7_join_85 : decode cX7_join 85 = .ok (.iload_n 3, 1) := by decide +kernel
theorem dX7_join_86 : decode cX7_join 86 = .ok (.iload 4, 2) := by decide +kernel
theorem dX7_join_88 : decode cX7_join 88 = .ok (.invokevirtual 247, 3) := by decide +kernel
theorem dX7_join_91 : decode cX7_join 91 = .ok (.aload_n 0, 1) := by decide +kernel
theorem dX7_join_92 : decode cX7_join 92 = .ok (.getfield 10, 3) := by decide +kernel
theorem dX7_join_95 : decode cX7_join 95 = .ok (.getfield 108, 3) := by decide +kernel
theorem dX7_join_98 : decode cX7_join 98 = .ok (.ireturn, 1) := by decide +kernel
set_option maxRecDepth 20000 in
theorem ggX7_isNeedless_X2_between : GoodIn wsX7_isNeedless wsX2_between := goodIn_r _ [9, 10, 11, 12, 13, 14, 15, 16, 17, 18, 19, 8, 20, 21, 22, 23, 24, 25, 26, 27, 28, 29, 56, 57, 48, 49, 50, 51, 52, 53, 54, 55] (by decide +kernel) (by decide +kernel)
set_option maxRecDepth 20000 in
theorem gX7_isNeedless_X2_between : GoodIn wsX7_isNeedless (wsV RX7 213 RX2 yX2_between wsX2_between) := goodIn_app (goodIn_of _ (by decide +kernel)) ggX7_isNeedless_X2_between
set_option maxRecDepth 20000 in
theorem ggX7_isNeedless_X5_weightOf : GoodIn wsX7_isNeedless wsX5_weightOf := goodIn_r _ [34, 35, 36, 37, 26, 27, 28, 29, 48, 49, 50, 51, 52, 53, 54, 55] (by decide +kernel) (by decide +kernel)
set_option maxRecDepth 20000 in
theorem gX7_isNeedless_X5_weightOf : GoodIn wsX7_isNeedless (wsV RX7 162 RX5 yX5_weightOf wsX5_weightOf) := goodIn_app (goodIn_of _ (by decide +kernel)) ggX7_isNeedless_X5_weightOf
theorem dX7_isNeedless_0 : decode cX7_isNeedless 0 = .ok (.aload_n 0, 1) := by decide +kernel
theorem dX7_isNeedless_1 : decode cX7_isNeedless 1 = .ok (.getfield 34, 3) := by decide +kernel
theorem dX7_isNeedless_4 : decode cX7_isNeedless 4 = .ok (.aload_n 0, 1) := by decide +kernel
theorem dX7_isNeedless_5 : decode cX7_isNeedless 5 = .ok (.getfield 10, 3) := by decide +kernel
theorem dX7_isNeedless_8 : decode cX7_isNeedless 8 = .ok (.aload_n 0, 1) := by decide +kernel
theorem dX7_isNeedless_9 : decode cX7_isNeedless 9 = .ok (.getfield 10, 3) := by decide +kernel
theorem dX7_isNeedless_12 : decode cX7_isNeedless 12 = .ok (.getfield 134, 3) := by decide +kernel
theorem dX7_isNeedless_15 : decode cX7_isNeedless 15 = .ok (.iload_n 1, 1) := by decide +kernel
theorem dX7_isNeedless_16 : decode cX7_isNeedless 16 = .ok (.iaload, 1) := by decide +kernel
theorem dX7_isNeedless_17 : decode cX7_isNeedless 17 = .ok (.aload_n 0, 1) := by decide +kernel
theorem dX7_isNeedless_18 : decode cX7_isNeedless 18 = .ok (.getfield 10, 3) := by decide +kernel
theorem dX7_isNeedless_21 : decode cX7_isNeedless 21 = .ok (.getfield 130, 3) := by decide +kernel
theorem dX7_isNeedless_24 : decode cX7_isNeedless 24 = .ok (.iload_n 1, 1) := by decide +kernel
theorem dX7_isNeedless_25 : decode cX7_isNeedless 25 = .ok (.iaload, 1) := by decide +kernel
theorem dX7_isNeedless_26 : decode cX7_isNeedless 26 = .ok (.iload_n 1, 1) := by decide +kernel
theorem dX7_isNeedless_27 : decode cX7_isNeedless 27 = .ok (.invokevirtual 213, 3) := by decide +kernel
theorem dX7_isNeedless_30 : decode cX7_isNeedless 30 = .ok (.aload_n 0, 1) := by decide +kernel
theorem dX7_isNeedless_31 : decode cX7_isNeedless 31 = .ok (.getfield 10, 3) := by decide +kernel
theorem dX7_isNeedless_34 : decode cX7_isNeedless 34 = .ok (.iload_n 1, 1) := by decide +kernel
theorem dX7_isNeedless_35 : decode cX7_isNeedless 35 = .ok (.invokevirtual 162, 3) := by decide +kernel
theorem dX7_isNeedless_38 : decode cX7_isNeedless 38 = .ok (.lcmp, 1) := by decide +kernel
theorem dX7_isNeedless_39 : decode cX7_isNeedless 39 = .ok (.ifCond .gt 7, 3) := by decide +kernel
theorem dX7_isNeedless_42 : decode cX7_isNeedless 42 = .ok (.iconst 1, 1) := by decide +kernel
theorem dX7_isNeedless_43 : decode cX7_isNeedless 43 = .ok (.goto 4, 3) := by decide +kernel
theorem dX7_isNeedless_46 : decode cX7_isNeedless 46 = .ok (.iconst 0, 1) := by decide +kernel
theorem dX7_isNeedless_47 : decode cX7_isNeedless 47 = .ok (.ireturn, 1) := by decide +kernel
set_option maxRecDepth 20000 in
theorem ggX7_needlessBounds_X7_isNeedless : GoodIn wsX7_needlessBounds wsX7_isNeedless := goodIn_r _ [7, 8, 1, 9, 10, 11, 12, 13, 14, 15, 16, 17, 18, 19, 20, 21, 22, 23, 24, 25, 26, 27, 28, 29, 30, 31, 32, 6, 33, 34, 35, 36, 37, 38, 39, 40, 41, 42, 43, 44, 45, 46, 47, 48, 49, 50, 51, 52, 53, 54, 55, 56, 57, 58, 59, 60, 61, 62] (by decide +kernel) (by decide +kernel)
set_option maxRecDepth 20000 in
theorem gX7_needlessBounds_X7_isNeedless : GoodIn wsX7_needlessBounds (wsV RX7 140 RX7 yX7_isNeedless wsX7_isNeedless) := goodIn_app (goodIn_of _ (by decide +kernel)) ggX7_needlessBounds_X7_isNeedless
theorem dX7_needlessBounds_0 : decode cX7_needlessBounds 0 = .ok (.iconst 0, 1) := by decide +kernel
theorem dX7_needlessBounds_1 : decode cX7_needlessBounds 1 = .ok (.istore_n 1, 1) := by decide +kernel
theorem dX7_needlessBounds_2 : decode cX7_needlessBounds 2 = .ok (.iconst 0, 1) := by decide +kernel
theorem dX7_needlessBounds_3 : decode cX7_needlessBounds 3 = .ok (.istore_n 2, 1) := by decide +kernel
theorem dX7_needlessBounds_4 : decode cX7_needlessBounds 4 = .ok (.iload_n 2, 1) := by decide +kernel
theorem dX7_needlessBounds_5 : decode cX7_needlessBounds 5 = .ok (.aload_n 0, 1) := by decide +kernel
theorem dX7_needlessBounds_6 : decode cX7_needlessBounds 6 = .ok (.getfield 10, 3) := by decide +kernel
theorem dX7_needlessBounds_9 : decode cX7_needlessBounds 9 = .ok (.getfield 108, 3) := by decide +kernel
theorem dX7_needlessBounds_12 : decode cX7_needlessBounds 12 = .ok (.if_icmp .ge 20, 3) := by decide +kernel
theorem dX7_needlessBounds_15 : decode cX7_needlessBounds 15 = .ok (.aload_n 0, 1) := by decide +kernel
theorem dX7_needlessBounds_16 : decode cX7_needlessBounds 16 = .ok (.iload_n 2, 1) := by decide +kernel
theorem dX7_needlessBounds_17 : decode cX7_needlessBounds 17 = .ok (.invokevirtual 140, 3) := by decide +kernel
theorem dX7_needlessBounds_20 : decode cX7_needlessBounds 20 = .ok (.ifCond .eq 6, 3) := by decide +kernel
theorem dX7_needlessBounds_23 : decode cX7_needlessBounds 23 = .ok (.iinc 1 1, 3) := by decide +kernel
theorem dX7_needlessBounds_26 : decode cX7_needlessBounds 26 = .ok (.iinc 2 1, 3) := by decide +kernel
theorem dX7_needlessBounds_29 : decode cX7_needlessBounds 29 = .ok (.goto (-25), 3) := by decide +kernel
theorem dX7_needlessBounds_32 : decode cX7_needlessBounds 32 = .ok (.iload_n 1, 1) := by decide +kernel
theorem dX7_needlessBounds_33 : decode cX7_needlessBounds 33 = .ok (.ireturn, 1) := by decide +kernel
theorem dX7_imagesMade_0 : decode cX7_imagesMade 0 = .ok (.iconst 0, 1) := by decide +kernel
theorem dX7_imagesMade_1 : decode cX7_imagesMade 1 = .ok (.istore_n 1, 1) := by decide +kernel
theorem dX7_imagesMade_2 : decode cX7_imagesMade 2 = .ok (.iconst 0, 1) := by decide +kernel
theorem dX7_imagesMade_3 : decode cX7_imagesMade 3 = .ok (.istore_n 2, 1) := by decide +kernel
theorem dX7_imagesMade_4 : decode cX7_imagesMade 4 = .ok (.iload_n 2, 1) := by decide +kernel
theorem dX7_imagesMade_5 : decode cX7_imagesMade 5 = .ok (.iconst 2, 1) := by decide +kernel
theorem dX7_imagesMade_6 : decode cX7_imagesMade 6 = .ok (.if_icmp .ge 21, 3) := by decide +kernel
theorem dX7_imagesMade_9 : decode cX7_imagesMade 9 = .ok (.aload_n 0, 1) := by decide +kernel
theorem dX7_imagesMade_10 : decode cX7_imagesMade 10 = .ok (.getfield 20, 3) := by decide +kernel
theorem dX7_imagesMade_13 : decode cX7_imagesMade 13 = .ok (.iload_n 2, 1) := by decide +kernel
theorem dX7_imagesMade_14 : decode cX7_imagesMade 14 = .ok (.baload, 1) := by decide +kernel
theorem dX7_imagesMade_15 : decode cX7_imagesMade 15 = .ok (.ifCond .eq 6, 3) := by decide +kernel
theorem dX7_imagesMade_18 : decode cX7_imagesMade 18 = .ok (.iinc 1 1, 3) := by decide +kernel
theorem dX7_imagesMade_21 : decode cX7_imagesMade 21 = .ok (.iinc 2 1, 3) := by decide +kernel
theorem dX7_imagesMade_24 : decode cX7_imagesMade 24 = .ok (.goto (-20), 3) := by decide +kernel
theorem dX7_imagesMade_27 : decode cX7_imagesMade 27 = .ok (.iload_n 1, 1) := by decide +kernel
theorem dX7_imagesMade_28 : decode cX7_imagesMade 28 = .ok (.ireturn, 1) := by decide +kernel
theorem dX8_init_0 : decode cX8_init 0 = .ok (.aload_n 0, 1) := by decide +kernel
theorem dX8_init_1 : decode cX8_init 1 = .ok (.invokespecial 1, 3) := by decide +kernel
theorem dX8_init_4 : decode cX8_init 4 = .ok (.aload_n 0, 1) := by decide +kernel
theorem dX8_init_5 : decode cX8_init 5 = .ok (.sipush 535, 3) := by decide +kernel
theorem dX8_init_8 : decode cX8_init 8 = .ok (.newarray .int, 2) := by decide +kernel
theorem dX8_init_10 : decode cX8_init 10 = .ok (.putfield 7, 3) := by decide +kernel
theorem dX8_init_13 : decode cX8_init 13 = .ok (.aload_n 0, 1) := by decide +kernel
theorem dX8_init_14 : decode cX8_init 14 = .ok (.sipush 320, 3) := by decide +kernel
theorem dX8_init_17 : decode cX8_init 17 = .ok (.newarray .int, 2) := by decide +kernel
theorem dX8_init_19 : decode cX8_init 19 = .ok (.putfield 13, 3) := by decide +kernel
theorem dX8_init_22 : decode cX8_init 22 = .ok (.aload_n 0, 1) := by decide +kernel
theorem dX8_init_23 : decode cX8_init 23 = .ok (.bipush 7, 2) := by decide +kernel
theorem dX8_init_25 : decode cX8_init 25 = .ok (.newarray .int, 2) := by decide +kernel
theorem dX8_init_27 : decode cX8_init 27 = .ok (.dup, 1) := by decide +kernel
theorem dX8_init_28 : decode cX8_init 28 = .ok (.iconst 0, 1) := by decide +kernel
theorem dX8_init_29 : decode cX8_init 29 = .ok (.iconst 0, 1) := by decide +kernel
theorem dX8_init_30 : decode cX8_init 30 = .ok (.iastore, 1) := by decide +kernel
theorem dX8_init_31 : decode cX8_init 31 = .ok (.dup, 1) := by decide +kernel
theorem dX8_init_32 : decode cX8_init 32 = .ok (.iconst 1, 1) := by decide +kernel
theorem dX8_init_33 : decode cX8_init 33 = .ok (.iconst 4, 1) := by decide +kernel
theorem dX8_init_34 : decode cX8_init 34 = .ok (.iastore, 1) := by decide +kernel
theorem dX8_init_35 : decode cX8_init 35 = .ok (.dup, 1) := by decide +kernel
theorem dX8_init_36 : decode cX8_init 36 = .ok (.iconst 2, 1) := by decide +kernel
theorem dX8_init_37 : decode cX8_init 37 = .ok (.bipush 8, 2) := by decide +kernel
theorem dX8_init_39 : decode cX8_init 39 = .ok (.iastore, 1) := by decide +kernel
theorem dX8_init_40 : decode cX8_init 40 = .ok (.dup, 1) := by decide +kernel
theorem dX8_init_41 : decode cX8_init 41 = .ok (.iconst 3, 1) := by decide +kernel
theorem dX8_init_42 : decode cX8_init 42 = .ok (.bipush 12, 2) := by decide +kernel
theorem dX8_init_44 : decode cX8_init 44 = .ok (.iastore, 1) := by decide +kernel
theorem dX8_init_45 : decode cX8_init 45 = .ok (.dup, 1) := by decide +kernel
theorem dX8_init_46 : decode cX8_init 46 = .ok (.iconst 4, 1) := by decide +kernel
theorem dX8_init_47 : decode cX8_init 47 = .ok (.bipush 17, 2) := by decide +kernel
theorem dX8_init_49 : decode cX8_init 49 = .ok (.iastore, 1) := by decide +kernel
theorem dX8_init_50 : decode cX8_init 50 = .ok (.dup, 1) := by decide +kernel
theorem dX8_init_51 : decode cX8_init 51 = .ok (.iconst 5, 1) := by decide +kernel
theorem dX8_init_52 : decode cX8_init 52 = .ok (.bipush 21, 2) := by decide +kernel
theorem dX8_init_54 : decode cX8_init 54 = .ok (.iastore, 1) := by decide +kernel
theorem dX8_init_55 : decode cX8_init 55 = .ok (.dup, 1) := by decide +kernel
theorem dX8_init_56 : decode cX8_init 56 = .ok (.bipush 6, 2) := by decide +kernel
theorem dX8_init_58 : decode cX8_init 58 = .ok (.bipush 25, 2) := by decide +kernel
theorem dX8_init_60 : decode cX8_init 60 = .ok (.iastore, 1) := by decide +kernel
theorem dX8_init_61 : decode cX8_init 61 = .ok (.putfield 16, 3) := by decide +kernel
theorem dX8_init_64 : decode cX8_init 64 = .ok (.aload_n 0, 1) := by decide +kernel
theorem dX8_init_65 : decode cX8_init 65 = .ok (.bipush 25, 2) := by decide +kernel
theorem dX8_init_67 : decode cX8_init 67 = .ok (.newarray .int, 2) := by decide +kernel
theorem dX8_init_69 : decode cX8_init 69 = .ok (.dup, 1) := by decide +kernel
theorem dX8_init_70 : decode cX8_init 70 = .ok (.iconst 0, 1) := by decide +kernel
theorem dX8_init_71 : decode cX8_init 71 = .ok (.bipush 114, 2) := by decide +kernel
theorem dX8_init_73 : decode cX8_init 73 = .ok (.iastore, 1) := by decide +kernel
theorem dX8_init_74 : decode cX8_init 74 = .ok (.dup, 1) := by decide +kernel
theorem dX8_init_75 : decode cX8_init 75 = .ok (.iconst 1, 1) := by decide +kernel
theorem dX8_init_76 : decode cX8_init 76 = .ok (.bipush 101, 2) := by decide +kernel
theorem dX8_init_78 : decode cX8_init 78 = .ok (.iastore, 1) := by decide +kernel
theorem dX8_init_79 : decode cX8_init 79 = .ok (.dup, 1) := by decide +kernel
theorem dX8_init_80 : decode cX8_init 80 = .ok (.iconst 2, 1) := by decide +kernel
theorem dX8_init_81 : decode cX8_init 81 = .ok (.bipush 97, 2) := by decide +kernel
theorem dX8_init_83 : decode cX8_init 83 = .ok (.iastore, 1) := by decide +kernel
theorem dX8_init_84 : decode cX8_init 84 = .ok (.dup, 1) := by decide +kernel
theorem dX8_init_85 : decode cX8_init 85 = .ok (.iconst 3, 1) := by decide +kernel
theorem dX8_init_86 : decode cX8_init 86 = .ok (.bipush 108, 2) := by decide +kernel
theorem dX8_init_88 : decode cX8_init 88 = .ok (.iastore, 1) := by decide +kernel
theorem dX8_init_89 : decode cX8_init 89 = .ok (.dup, 1) := by decide +kernel
theorem dX8_init_90 : decode cX8_init 90 = .ok (.iconst 4, 1) := by decide +kernel
theorem dX8_init_91 : decode cX8_init 91 = .ok (.bipush 109, 2) := by decide +kernel
theorem dX8_init_93 : decode cX8_init 93 = .ok (.iastore, 1) := by decide +kernel
theorem dX8_init_94 : decode cX8_init 94 = .ok (.dup, 1) := by decide +kernel
theorem dX8_init_95 : decode cX8_init 95 = .ok (.iconst 5, 1) := by decide +kernel
theorem dX8_init_96 : decode cX8_init 96 = .ok (.bipush 111, 2) := by decide +kernel
theorem dX8_init_98 : decode cX8_init 98 = .ok (.iastore, 1) := by decide +kernel
theorem dX8_init_99 : decode cX8_init 99 = .ok (.dup, 1) := by decide +kernel
theorem dX8_init_100 : decode cX8_init 100 = .ok (.bipush 6, 2) := by decide +kernel
theorem dX8_init_102 : decode cX8_init 102 = .ok (.bipush 115, 2) := by decide +kernel
theorem dX8_init_104 : decode cX8_init 104 = .ok (.iastore, 1) := by decide +kernel
theorem dX8_init_105 : decode cX8_init 105 = .ok (.dup, 1) := by decide +kernel
theorem dX8_init_106 : decode cX8_init 106 = .ok (.bipush 7, 2) := by decide +kernel
theorem dX8_init_108 : decode cX8_init 108 = .ok (.bipush 116, 2) := by decide +kernel
theorem dX8_init_110 : decode cX8_init 110 = .ok (.iastore, 1) := by decide +kernel
theorem dX8_init_111 : decode cX8_init 111 = .ok (.dup, 1) := by decide +kernel
theorem dX8_init_112 : decode cX8_init 112 = .ok (.bipush 8, 2) := by decide +kernel
theorem dX8_init_114 : decode cX8_init 114 = .ok (.bipush 108, 2) := by decide +kernel
theorem dX8_init_116 : decode cX8_init 116 = .ok (.iastore, 1) := by decide +kernel
theorem dX8_init_117 : decode cX8_init 117 = .ok (.dup, 1) := by decide +kernel
theorem dX8_init_118 : decode cX8_init 118 = .ok (.bipush 9, 2) := by decide +kernel
theorem dX8_init_120 : decode cX8_init 120 = .ok (.bipush 101, 2) := by decide +kernel
theorem dX8_init_122 : decode cX8_init 122 = .ok (.iastore, 1) := by decide +kernel
theorem dX8_init_123 : decode cX8_init 123 = .ok (.dup, 1) := by decide +kernel
theorem dX8_init_124 : decode cX8_init 124 = .ok (.bipush 10, 2) := by decide +kernel
theorem dX8_init_126 : decode cX8_init 126 = .ok (.bipush 115, 2) := by decide +kernel
theorem dX8_init_128 : decode cX8_init 128 = .ok (.iastore, 1) := by decide +kernel
theorem dX8_init_129 : decode cX8_init 129 = .ok (.dup, 1) := by decide +kernel
theorem dX8_init_130 : decode cX8_init 130 = .ok (.bipush 11, 2) := by decide +kernel
theorem dX8_init_132 : decode cX8_init 132 = .ok (.bipush 115, 2) := by decide +kernel
theorem dX8_init_134 : decode cX8_init 134 = .ok (.iastore, 1) := by decide +kernel
theorem dX8_init_135 : decode cX8_init 135 = .ok (.dup, 1) := by decide +kernel
theorem dX8_init_136 : decode cX8_init 136 = .ok (.bipush 12, 2) := by decide +kernel
theorem dX8_init_138 : decode cX8_init 138 = .ok (.bipush 108, 2) := by decide +kernel
theorem dX8_init_140 : decode cX8_init 140 = .ok (.iastore, 1) := by decide +kernel
theorem dX8_init_141 : decode cX8_init 141 = .ok (.dup, 1) := by decide +kernel
theorem dX8_init_142 : decode cX8_init 142 = .ok (.bipush 13, 2) := by decide +kernel
theorem dX8_init_144 : decode cX8_init 144 = .ok (.bipush 101, 2) := by decide +kernel
theorem dX8_init_146 : decode cX8_init 146 = .ok (.iastore, 1) := by decide +kernel
theorem dX8_init_147 : decode cX8_init 147 = .ok (.dup, 1) := by decide +kernel
theorem dX8_init_148 : decode cX8_init 148 = .ok (.bipush 14, 2) := by decide +kernel
theorem dX8_init_150 : decode cX8_init 150 = .ok (.bipush 97, 2) := by decide +kernel
theorem dX8_init_152 : decode cX8_init 152 = .ok (.iastore, 1) := by decide +kernel
theorem dX8_init_153 : decode cX8_init 153 = .ok (.dup, 1) := by decide +kernel
theorem dX8_init_154 : decode cX8_init 154 = .ok (.bipush 15, 2) := by decide +kernel
theorem dX8_init_156 : decode cX8_init 156 = .ok (.bipush 115, 2) := by decide +kernel
theorem dX8_init_158 : decode cX8_init 158 = .ok (.iastore, 1) := by decide +kernel
theorem dX8_init_159 : decode cX8_init 159 = .ok (.dup, 1) := by decide +kernel
theorem dX8_init_160 : decode cX8_init 160 = .ok (.bipush 16, 2) := by decide +kernel
theorem dX8_init_162 : decode cX8_init 162 = .ok (.bipush 116, 2) := by decide +kernel
theorem dX8_init_164 : decode cX8_init 164 = .ok (.iastore, 1) := by decide +kernel
theorem dX8_init_165 : decode cX8_init 165 = .ok (.dup, 1) := by decide +kernel
theorem dX8_init_166 : decode cX8_init 166 = .ok (.bipush 17, 2) := by decide +kernel
theorem dX8_init_168 : decode cX8_init 168 = .ok (.bipush 111, 2) := by decide +kernel
theorem dX8_init_170 : decode cX8_init 170 = .ok (.iastore, 1) := by decide +kernel
theorem dX8_init_171 : decode cX8_init 171 = .ok (.dup, 1) := by decide +kernel
theorem dX8_init_172 : decode cX8_init 172 = .ok (.bipush 18, 2) := by decide +kernel
theorem dX8_init_174 : decode cX8_init 174 = .ok (.bipush 118, 2) := by decide +kernel
theorem dX8_init_176 : decode cX8_init 176 = .ok (.iastore, 1) := by decide +kernel
theorem dX8_init_177 : decode cX8_init 177 = .ok (.dup, 1) := by decide +kernel
theorem dX8_init_178 : decode cX8_init 178 = .ok (.bipush 19, 2) := by decide +kernel
theorem dX8_init_180 : decode cX8_init 180 = .ok (.bipush 101, 2) := by decide +kernel
theorem dX8_init_182 : decode cX8_init 182 = .ok (.iastore, 1) := by decide +kernel
theorem dX8_init_183 : decode cX8_init 183 = .ok (.dup, 1) := by decide +kernel
theorem dX8_init_184 : decode cX8_init 184 = .ok (.bipush 20, 2) := by decide +kernel
theorem dX8_init_186 : decode cX8_init 186 = .ok (.bipush 114, 2) := by decide +kernel
theorem dX8_init_188 : decode cX8_init 188 = .ok (.iastore, 1) := by decide +kernel
theorem dX8_init_189 : decode cX8_init 189 = .ok (.dup, 1) := by decide +kernel
theorem dX8_init_190 : decode cX8_init 190 = .ok (.bipush 21, 2) := by decide +kernel
theorem dX8_init_192 : decode cX8_init 192 = .ok (.bipush 115, 2) := by decide +kernel
theorem dX8_init_194 : decode cX8_init 194 = .ok (.iastore, 1) := by decide +kernel
theorem dX8_init_195 : decode cX8_init 195 = .ok (.dup, 1) := by decide +kernel
theorem dX8_init_196 : decode cX8_init 196 = .ok (.bipush 22, 2) := by decide +kernel
theorem dX8_init_198 : decode cX8_init 198 = .ok (.bipush 97, 2) := by decide +kernel
theorem dX8_init_200 : decode cX8_init 200 = .ok (.iastore, 1) := by decide +kernel
theorem dX8_init_201 : decode cX8_init 201 = .ok (.dup, 1) := by decide +kernel
theorem dX8_init_202 : decode cX8_init 202 = .ok (.bipush 23, 2) := by decide +kernel
theorem dX8_init_204 : decode cX8_init 204 = .ok (.bipush 109, 2) := by decide +kernel
theorem dX8_init_206 : decode cX8_init 206 = .ok (.iastore, 1) := by decide +kernel
theorem dX8_init_207 : decode cX8_init 207 = .ok (.dup, 1) := by decide +kernel
theorem dX8_init_208 : decode cX8_init 208 = .ok (.bipush 24, 2) := by decide +kernel
theorem dX8_init_210 : decode cX8_init 210 = .ok (.bipush 101, 2) := by decide +kernel
theorem dX8_init_212 : decode cX8_init 212 = .ok (.iastore, 1) := by decide +kernel
theorem dX8_init_213 : decode cX8_init 213 = .ok (.putfield 19, 3) := by decide +kernel
theorem dX8_init_216 : decode cX8_init 216 = .ok (.aload_n 0, 1) := by decide +kernel
theorem dX8_init_217 : decode cX8_init 217 = .ok (.bipush 100, 2) := by decide +kernel
theorem dX8_init_219 : decode cX8_init 219 = .ok (.newarray .long, 2) := by decide +kernel
theorem dX8_init_221 : decode cX8_init 221 = .ok (.putfield 22, 3) := by decide +kernel
theorem dX8_init_224 : decode cX8_init 224 = .ok (.aload_n 0, 1) := by decide +kernel
theorem dX8_init_225 : decode cX8_init 225 = .ok (.bipush 16, 2) := by decide +kernel
theorem dX8_init_227 : decode cX8_init 227 = .ok (.newarray .int, 2) := by decide +kernel
theorem dX8_init_229 : decode cX8_init 229 = .ok (.putfield 26, 3) := by decide +kernel
theorem dX8_init_232 : decode cX8_init 232 = .ok (.aload_n 0, 1) := by decide +kernel
theorem dX8_init_233 : decode cX8_init 233 = .ok (.bipush 110, 2) := by decide +kernel
theorem dX8_init_235 : decode cX8_init 235 = .ok (.newarray .long, 2) := by decide +kernel
theorem dX8_init_237 : decode cX8_init 237 = .ok (.putfield 29, 3) := by decide +kernel
theorem dX8_init_240 : decode cX8_init 240 = .ok (.aload_n 0, 1) := by decide +kernel
theorem dX8_init_241 : decode cX8_init 241 = .ok (.iconst 5, 1) := by decide +kernel
theorem dX8_init_242 : decode cX8_init 242 = .ok (.newarray .int, 2) := by decide +kernel
theorem dX8_init_244 : decode cX8_init 244 = .ok (.putfield 32, 3) := by decide +kernel
theorem dX8_init_247 : decode cX8_init 247 = .ok (.aload_n 0, 1) := by decide +kernel
theorem dX8_init_248 : decode cX8_init 248 = .ok (.iconst 2, 1) := by decide +kernel
theorem dX8_init_249 : decode cX8_init 249 = .ok (.newarray .boolean, 2) := by decide +kernel
theorem dX8_init_251 : decode cX8_init 251 = .ok (.dup, 1) := by decide +kernel
theorem dX8_init_252 : decode cX8_init 252 = .ok (.iconst 0, 1) := by decide +kernel
theorem dX8_init_253 : decode cX8_init 253 = .ok (.iconst 0, 1) := by decide +kernel
theorem dX8_init_254 : decode cX8_init 254 = .ok (.bastore, 1) := by decide +kernel
theorem dX8_init_255 : decode cX8_init 255 = .ok (.dup, 1) := by decide +kernel
theorem dX8_init_256 : decode cX8_init 256 = .ok (.iconst 1, 1) := by decide +kernel
theorem dX8_init_257 : decode cX8_init 257 = .ok (.iconst 0, 1) := by decide +kernel
theorem dX8_init_258 : decode cX8_init 258 = .ok (.bastore, 1) := by decide +kernel
theorem dX8_init_259 : decode cX8_init 259 = .ok (.putfield 35, 3) := by decide +kernel
theorem dX8_init_262 : decode cX8_init 262 = .ok (.aload_n 0, 1) := by decide +kernel
theorem dX8_init_263 : decode cX8_init 263 = .ok (.iconst 4, 1) := by decide +kernel
theorem dX8_init_264 : decode cX8_init 264 = .ok (.newarray .int, 2) := by decide +kernel
theorem dX8_init_266 : decode cX8_init 266 = .ok (.dup, 1) := by decide +kernel
theorem dX8_init_267 : decode cX8_init 267 = .ok (.iconst 0, 1) := by decide +kernel
theorem dX8_init_268 : decode cX8_init 268 = .ok (.bipush (-4), 2) := by decide +kernel
theorem dX8_init_270 : decode cX8_init 270 = .ok (.iastore, 1) := by decide +kernel
theorem dX8_init_271 : decode cX8_init 271 = .ok (.dup, 1) := by decide +kernel
theorem dX8_init_272 : decode cX8_init 272 = .ok (.iconst 1, 1) := by decide +kernel
theorem dX8_init_273 : decode cX8_init 273 = .ok (.bipush (-4), 2) := by decide +kernel
theorem dX8_init_275 : decode cX8_init 275 = .ok (.iastore, 1) := by decide +kernel
theorem dX8_init_276 : decode cX8_init 276 = .ok (.dup, 1) := by decide +kernel
theorem dX8_init_277 : decode cX8_init 277 = .ok (.iconst 2, 1) := by decide +kernel
theorem dX8_init_278 : decode cX8_init 278 = .ok (.bipush (-4), 2) := by decide +kernel
theorem dX8_init_280 : decode cX8_init 280 = .ok (.iastore, 1) := by decide +kernel
theorem dX8_init_281 : decode cX8_init 281 = .ok (.dup, 1) := by decide +kernel
theorem dX8_init_282 : decode cX8_init 282 = .ok (.iconst 3, 1) := by decide +kernel
theorem dX8_init_283 : decode cX8_init 283 = .ok (.bipush (-4), 2) := by decide +kernel
theorem dX8_init_285 : decode cX8_init 285 = .ok (.iastore, 1) := by decide +kernel
theorem dX8_init_286 : decode cX8_init 286 = .ok (.putfield 39, 3) := by decide +kernel
theorem dX8_init_289 : decode cX8_init 289 = .ok (.aload_n 0, 1) := by decide +kernel
theorem dX8_init_290 : decode cX8_init 290 = .ok (.iconst 4, 1) := by decide +kernel
theorem dX8_init_291 : decode cX8_init 291 = .ok (.newarray .int, 2) := by decide +kernel
theorem dX8_init_293 : decode cX8_init 293 = .ok (.dup, 1) := by decide +kernel
theorem dX8_init_294 : decode cX8_init 294 = .ok (.iconst 0, 1) := by decide +kernel
theorem dX8_init_295 : decode cX8_init 295 = .ok (.iconst 0, 1) := by decide +kernel
theorem dX8_init_296 : decode cX8_init 296 = .ok (.iastore, 1) := by decide +kernel
theorem dX8_init_297 : decode cX8_init 297 = .ok (.dup, 1) := by decide +kernel
theorem dX8_init_298 : decode cX8_init 298 = .ok (.iconst 1, 1) := by decide +kernel
theorem dX8_init_299 : decode cX8_init 299 = .ok (.iconst 0, 1) := by decide +kernel
theorem dX8_init_300 : decode cX8_init 300 = .ok (.iastore, 1) := by decide +kernel
theorem dX8_init_301 : decode cX8_init 301 = .ok (.dup, 1) := by decide +kernel
theorem dX8_init_302 : decode cX8_init 302 = .ok (.iconst 2, 1) := by decide +kernel
theorem dX8_init_303 : decode cX8_init 303 = .ok (.iconst 0, 1) := by decide +kernel
theorem dX8_init_304 : decode cX8_init 304 = .ok (.iastore, 1) := by decide +kernel
theorem dX8_init_305 : decode cX8_init 305 = .ok (.dup, 1) := by decide +kernel
theorem dX8_init_306 : decode cX8_init 306 = .ok (.iconst 3, 1) := by decide +kernel
theorem dX8_init_307 : decode cX8_init 307 = .ok (.iconst 0, 1) := by decide +kernel
theorem dX8_init_308 : decode cX8_init 308 = .ok (.iastore, 1) := by decide +kernel
theorem dX8_init_309 : decode cX8_init 309 = .ok (.putfield 42, 3) := by decide +kernel
theorem dX8_init_312 : decode cX8_init 312 = .ok (.aload_n 0, 1) := by decide +kernel
theorem dX8_init_313 : decode cX8_init 313 = .ok (.sipush 160, 3) := by decide +kernel
theorem dX8_init_316 : decode cX8_init 316 = .ok (.newarray .int, 2) := by decide +kernel
theorem dX8_init_318 : decode cX8_init 318 = .ok (.putfield 45, 3) := by decide +kernel
theorem dX8_init_321 : decode cX8_init 321 = .ok (.return_, 1) := by decide +kernel
theorem dX8_in_0 : decode cX8_in 0 = .ok (.lload_n 0, 1) := by decide +kernel
theorem dX8_in_1 : decode cX8_in 1 = .ok (.lload_n 2, 1) := by decide +kernel
theorem dX8_in_2 : decode cX8_in 2 = .ok (.lcmp, 1) := by decide +kernel
theorem dX8_in_3 : decode cX8_in 3 = .ok (.ifCond .lt 14, 3) := by decide +kernel
theorem dX8_in_6 : decode cX8_in 6 = .ok (.lload_n 0, 1) := by decide +kernel
theorem dX8_in_7 : decode cX8_in 7 = .ok (.lload 4, 2) := by decide +kernel
theorem dX8_in_9 : decode cX8_in 9 = .ok (.lcmp, 1) := by decide +kernel
theorem dX8_in_10 : decode cX8_in 10 = .ok (.ifCond .gt 7, 3) := by decide +kernel
theorem dX8_in_13 : decode cX8_in 13 = .ok (.iconst 1, 1) := by decide +kernel
theorem dX8_in_14 : decode cX8_in 14 = .ok (.goto 4, 3) := by decide +kernel
theorem dX8_in_17 : decode cX8_in 17 = .ok (.iconst 0, 1) := by decide +kernel
theorem dX8_in_18 : decode cX8_in 18 = .ok (.ireturn, 1) := by decide +kernel
set_option maxRecDepth 20000 in
theorem ggX8_feed_X8_in : GoodIn wsX8_feed wsX8_in := goodIn_r _ [7] (by decide +kernel) (by decide +kernel)
set_option maxRecDepth 20000 in
theorem gX8_feed_X8_in : GoodIn wsX8_feed (va_wsS RX8 50 yX8_in wsX8_in) := goodIn_app (goodIn_of _ (by decide +kernel)) ggX8_feed_X8_in
theorem dX8_feed_0 : decode cX8_feed 0 = .ok (.iload_n 1, 1) := by decide +kernel
theorem dX8_feed_1 : decode cX8_feed 1 = .ok (.i2l, 1) := by decide +kernel
theorem dX8_feed_2 : decode cX8_feed 2 = .ok (.lconst 0, 1) := by decide +kernel
theorem dX8_feed_3 : decode cX8_feed 3 = .ok (.ldc2_w 48, 3) := by decide +kernel
theorem dX8_feed_6 : decode cX8_feed 6 = .ok (.invokestatic 50, 3) := by decide +kernel
theorem dX8_feed_9 : decode cX8_feed 9 = .ok (.ifCond .ne 5, 3) := by decide +kernel
theorem dX8_feed_12 : decode cX8_feed 12 = .ok (.iconst (-1), 1) := by decide +kernel
theorem dX8_feed_13 : decode cX8_feed 13 = .ok (.ireturn, 1) := by decide +kernel
theorem dX8_feed_14 : decode cX8_feed 14 = .ok (.aload_n 0, 1) := by decide +kernel
theorem dX8_feed_15 : decode cX8_feed 15 = .ok (.getfield 54, 3) := by decide +kernel
theorem dX8_feed_18 : decode cX8_feed 18 = .ok (.sipush 320, 3) := by decide +kernel
theorem dX8_feed_21 : decode cX8_feed 21 = .ok (.if_icmp .ne 6, 3) := by decide +kernel
theorem dX8_feed_24 : decode cX8_feed 24 = .ok (.bipush (-3), 2) := by decide +kernel
theorem dX8_feed_26 : decode cX8_feed 26 = .ok (.ireturn, 1) := by decide +kernel
theorem dX8_feed_27 : decode cX8_feed 27 = .ok (.aload_n 0, 1) := by decide +kernel
theorem dX8_feed_28 : decode cX8_feed 28 = .ok (.getfield 13, 3) := by decide +kernel
theorem dX8_feed_31 : decode cX8_feed 31 = .ok (.aload_n 0, 1) := by decide +kernel
theorem dX8_feed_32 : decode cX8_feed 32 = .ok (.getfield 54, 3) := by decide +kernel
theorem dX8_feed_35 : decode cX8_feed 35 = .ok (.iload_n 1, 1) := by decide +kernel
theorem dX8_feed_36 : decode cX8_feed 36 = .ok (.iastore, 1) := by decide +kernel
theorem dX8_feed_37 : decode cX8_feed 37 = .ok (.aload_n 0, 1) := by decide +kernel
theorem dX8_feed_38 : decode cX8_feed 38 = .ok (.dup, 1) := by decide +kernel
theorem dX8_feed_39 : decode cX8_feed 39 = .ok (.getfield 54, 3) := by decide +kernel
theorem dX8_feed_42 : decode cX8_feed 42 = .ok (.iconst 1, 1) := by decide +kernel
theorem dX8_feed_43 : decode cX8_feed 43 = .ok (.iadd, 1) := by decide +kernel
theorem dX8_feed_44 : decode cX8_feed 44 = .ok (.putfield 54, 3) := by decide +kernel
theorem dX8_feed_47 : decode cX8_feed 47 = .ok (.aload_n 0, 1) := by decide +kernel
theorem dX8_feed_48 : decode cX8_feed 48 = .ok (.getfield 54, 3) := by decide +kernel
theorem dX8_feed_51 : decode cX8_feed 51 = .ok (.ireturn, 1) := by decide +kernel
set_option maxRecDepth 20000 in
theorem ggX8_end_X8_in : GoodIn wsX8_end wsX8_in := goodIn_r _ [5] (by decide +kernel) (by decide +kernel)
set_option maxRecDepth 20000 in
theorem gX8_end_X8_in : GoodIn wsX8_end (va_wsS RX8 50 yX8_in wsX8_in) := goodIn_app (goodIn_of _ (by decide +kernel)) ggX8_end_X8_in
theorem dX8_end_0 : decode cX8_end 0 = .ok (.iload_n 1, 1) := by decide +kernel
theorem dX8_end_1 : decode cX8_end 1 = .ok (.i2l, 1) := by decide +kernel
theorem dX8_end_2 : decode cX8_end 2 = .ok (.lconst 0, 1) := by decide +kernel
theorem dX8_end_3 : decode cX8_end 3 = .ok (.aload_n 0, 1) := by decide +kernel
theorem dX8_end_4 : decode cX8_end 4 = .ok (.getfield 54, 3) := by decide +kernel
theorem dX8_end_7 : decode cX8_end 7 = .ok (.i2l, 1) := by decide +kernel
theorem dX8_end_8 : decode cX8_end 8 = .ok (.invokestatic 50, 3) := by decide +kernel
theorem dX8_end_11 : decode cX8_end 11 = .ok (.ifCond .ne 5, 3) := by decide +kernel
theorem dX8_end_14 : decode cX8_end 14 = .ok (.iconst (-1), 1) := by decide +kernel
theorem dX8_end_15 : decode cX8_end 15 = .ok (.ireturn, 1) := by decide +kernel
theorem dX8_end_16 : decode cX8_end 16 = .ok (.aload_n 0, 1) := by decide +kernel
theorem dX8_end_17 : decode cX8_end 17 = .ok (.getfield 54, 3) := by decide +kernel
theorem dX8_end_20 : decode cX8_end 20 = .ok (.istore_n 2, 1) := by decide +kernel
theorem dX8_end_21 : decode cX8_end 21 = .ok (.aload_n 0, 1) := by decide +kernel
theorem dX8_end_22 : decode cX8_end 22 = .ok (.iload_n 1, 1) := by decide +kernel
theorem dX8_end_23 : decode cX8_end 23 = .ok (.putfield 54, 3) := by decide +kernel
theorem dX8_end_26 : decode cX8_end 26 = .ok (.iload_n 2, 1) := by decide +kernel
theorem dX8_end_27 : decode cX8_end 27 = .ok (.ireturn, 1) := by decide +kernel
theorem dX8_byteAt_0 : decode cX8_byteAt 0 = .ok (.iload_n 1, 1) := by decide +kernel
theorem dX8_byteAt_1 : decode cX8_byteAt 1 = .ok (.aload_n 0, 1) := by decide +kernel
theorem dX8_byteAt_2 : decode cX8_byteAt 2 = .ok (.getfield 54, 3) := by decide +kernel
theorem dX8_byteAt_5 : decode cX8_byteAt 5 = .ok (.if_icmp .ge 12, 3) := by decide +kernel
theorem dX8_byteAt_8 : decode cX8_byteAt 8 = .ok (.aload_n 0, 1) := by decide +kernel
theorem dX8_byteAt_9 : decode cX8_byteAt 9 = .ok (.getfield 13, 3) := by decide +kernel
theorem dX8_byteAt_12 : decode cX8_byteAt 12 = .ok (.iload_n 1, 1) := by decide +kernel
theorem dX8_byteAt_13 : decode cX8_byteAt 13 = .ok (.iaload, 1) := by decide +kernel
theorem dX8_byteAt_14 : decode cX8_byteAt 14 = .ok (.goto 5, 3) := by decide +kernel
theorem dX8_byteAt_17 : decode cX8_byteAt 17 = .ok (.bipush (-4), 2) := by decide +kernel
theorem dX8_byteAt_19 : decode cX8_byteAt 19 = .ok (.ireturn, 1) := by decide +kernel
theorem dX8_fails_0 : decode cX8_fails 0 = .ok (.aload_n 0, 1) := by decide +kernel
theorem dX8_fails_1 : decode cX8_fails 1 = .ok (.getfield 58, 3) := by decide +kernel
theorem dX8_fails_4 : decode cX8_fails 4 = .ok (.ifCond .ne 16, 3) := by decide +kernel
theorem dX8_fails_7 : decode cX8_fails 7 = .ok (.aload_n 0, 1) := by decide +kernel
theorem dX8_fails_8 : decode cX8_fails 8 = .ok (.iload_n 1, 1) := by decide +kernel
theorem dX8_fails_9 : decode cX8_fails 9 = .ok (.putfield 58, 3) := by decide +kernel
theorem dX8_fails_12 : decode cX8_fails 12 = .ok (.aload_n 0, 1) := by decide +kernel
theorem dX8_fails_13 : decode cX8_fails 13 = .ok (.aload_n 0, 1) := by decide +kernel
theorem dX8_fails_14 : decode cX8_fails 14 = .ok (.getfield 61, 3) := by decide +kernel
theorem dX8_fails_17 : decode cX8_fails 17 = .ok (.putfield 64, 3) := by decide +kernel
theorem dX8_fails_20 : decode cX8_fails 20 = .ok (.return_, 1) := by decide +kernel
set_option maxRecDepth 20000 in
theorem ggX8_nameHere_X8_byteAt : GoodIn wsX8_nameHere wsX8_byteAt := goodIn_r _ [10, 11, 12, 13, 14, 15, 16, 17, 18, 19, 20, 21, 22, 23, 24, 25, 26, 27, 28, 29, 30, 31, 32, 33, 34, 35] (by decide +kernel) (by decide +kernel)
set_option maxRecDepth 20000 in
theorem gX8_nameHere_X8_byteAt : GoodIn wsX8_nameHere (wsV RX8 73 RX8 yX8_byteAt wsX8_byteAt) := goodIn_app (goodIn_of _ (by decide +kernel)) ggX8_nameHere_X8_byteAt
theorem dX8_nameHere_0 : decode cX8_nameHere 0 = .ok (.iconst 0, 1) := by decide +kernel
theorem dX8_nameHere_1 : decode cX8_nameHere 1 = .ok (.istore_n 1, 1) := by decide +kernel
theorem dX8_nameHere_2 : decode cX8_nameHere 2 = .ok (.iload_n 1, 1) := by decide +kernel
theorem dX8_nameHere_3 : decode cX8_nameHere 3 = .ok (.bipush 6, 2) := by decide +kernel
theorem dX8_nameHere_5 : decode cX8_nameHere 5 = .ok (.if_icmp .ge 113, 3) := by decide +kernel
theorem dX8_nameHere_8 : decode cX8_nameHere 8 = .ok (.aload_n 0, 1) := by decide +kernel
theorem dX8_nameHere_9 : decode cX8_nameHere 9 = .ok (.getfield 67, 3) := by decide +kernel
theorem dX8_nameHere_12 : decode cX8_nameHere 12 = .ok (.iconst 1, 1) := by decide +kernel
theorem dX8_nameHere_13 : decode cX8_nameHere 13 = .ok (.if_icmp .ne 105, 3) := by decide +kernel
theorem dX8_nameHere_16 : decode cX8_nameHere 16 = .ok (.aload_n 0, 1) := by decide +kernel
theorem dX8_nameHere_17 : decode cX8_nameHere 17 = .ok (.getfield 70, 3) := by decide +kernel
theorem dX8_nameHere_20 : decode cX8_nameHere 20 = .ok (.aload_n 0, 1) := by decide +kernel
theorem dX8_nameHere_21 : decode cX8_nameHere 21 = .ok (.getfield 61, 3) := by decide +kernel
theorem dX8_nameHere_24 : decode cX8_nameHere 24 = .ok (.isub, 1) := by decide +kernel
theorem dX8_nameHere_25 : decode cX8_nameHere 25 = .ok (.aload_n 0, 1) := by decide +kernel
theorem dX8_nameHere_26 : decode cX8_nameHere 26 = .ok (.getfield 16, 3) := by decide +kernel
theorem dX8_nameHere_29 : decode cX8_nameHere 29 = .ok (.iload_n 1, 1) := by decide +kernel
theorem dX8_nameHere_30 : decode cX8_nameHere 30 = .ok (.iconst 1, 1) := by decide +kernel
theorem dX8_nameHere_31 : decode cX8_nameHere 31 = .ok (.iadd, 1) := by decide +kernel
theorem dX8_nameHere_32 : decode cX8_nameHere 32 = .ok (.iaload, 1) := by decide +kernel
theorem dX8_nameHere_33 : decode cX8_nameHere 33 = .ok (.aload_n 0, 1) := by decide +kernel
theorem dX8_nameHere_34 : decode cX8_nameHere 34 = .ok (.getfield 16, 3) := by decide +kernel
theorem dX8_nameHere_37 : decode cX8_nameHere 37 = .ok (.iload_n 1, 1) := by decide +kernel
theorem dX8_nameHere_38 : decode cX8_nameHere 38 = .ok (.iaload, 1) := by decide +kernel
theorem dX8_nameHere_39 : decode cX8_nameHere 39 = .ok (.isub, 1) := by decide +kernel
theorem dX8_nameHere_40 : decode cX8_nameHere 40 = .ok (.if_icmp .ne 7, 3) := by decide +kernel
theorem dX8_nameHere_43 : decode cX8_nameHere 43 = .ok (.iconst 1, 1) := by decide +kernel
theorem dX8_nameHere_44 : decode cX8_nameHere 44 = .ok (.goto 4, 3) := by decide +kernel
theorem dX8_nameHere_47 : decode cX8_nameHere 47 = .ok (.iconst 0, 1) := by decide +kernel
theorem dX8_nameHere_48 : decode cX8_nameHere 48 = .ok (.istore_n 2, 1) := by decide +kernel
theorem dX8_nameHere_49 : decode cX8_nameHere 49 = .ok (.iconst 0, 1) := by decide +kernel
theorem dX8_nameHere_50 : decode cX8_nameHere 50 = .ok (.istore_n 3, 1) := by decide +kernel
theorem dX8_nameHere_51 : decode cX8_nameHere 51 = .ok (.iload_n 2, 1) := by decide +kernel
theorem dX8_nameHere_52 : decode cX8_nameHere 52 = .ok (.ifCond .eq 54, 3) := by decide +kernel
theorem dX8_nameHere_55 : decode cX8_nameHere 55 = .ok (.iload_n 3, 1) := by decide +kernel
theorem dX8_nameHere_56 : decode cX8_nameHere 56 = .ok (.aload_n 0, 1) := by decide +kernel
theorem dX8_nameHere_57 : decode cX8_nameHere 57 = .ok (.getfield 70, 3) := by decide +kernel
theorem dX8_nameHere_60 : decode cX8_nameHere 60 = .ok (.aload_n 0, 1) := by decide +kernel
theorem dX8_nameHere_61 : decode cX8_nameHere 61 = .ok (.getfield 61, 3) := by decide +kernel
theorem dX8_nameHere_64 : decode cX8_nameHere 64 = .ok (.isub, 1) := by decide +kernel
theorem dX8_nameHere_65 : decode cX8_nameHere 65 = .ok (.if_icmp .ge 41, 3) := by decide +kernel
theorem dX8_nameHere_68 : decode cX8_nameHere 68 = .ok (.aload_n 0, 1) := by decide +kernel
theorem dX8_nameHere_69 : decode cX8_nameHere 69 = .ok (.aload_n 0, 1) := by decide +kernel
theorem dX8_nameHere_70 : decode cX8_nameHere 70 = .ok (.getfield 61, 3) := by decide +kernel
theorem dX8_nameHere_73 : decode cX8_nameHere 73 = .ok (.iload_n 3, 1) := by decide +kernel
theorem dX8_nameHere_74 : decode cX8_nameHere 74 = .ok (.iadd, 1) := by decide +kernel
theorem dX8_nameHere_75 : decode cX8_nameHere 75 = .ok (.invokevirtual 73, 3) := by decide +kernel
theorem dX8_nameHere_78 : decode cX8_nameHere 78 = .ok (.aload_n 0, 1) := by decide +kernel
theorem dX8_nameHere_79 : decode cX8_nameHere 79 = .ok (.getfield 19, 3) := by decide +kernel
theorem dX8_nameHere_82 : decode cX8_nameHere 82 = .ok (.aload_n 0, 1) := by decide +kernel
theorem dX8_nameHere_83 : decode cX8_nameHere 83 = .ok (.getfield 16, 3) := by decide +kernel
theorem dX8_nameHere_86 : decode cX8_nameHere 86 = .ok (.iload_n 1, 1) := by decide +kernel
theorem dX8_nameHere_87 : decode cX8_nameHere 87 = .ok (.iaload, 1) := by decide +kernel
theorem dX8_nameHere_88 : decode cX8_nameHere 88 = .ok (.iload_n 3, 1) := by decide +kernel
theorem dX8_nameHere_89 : decode cX8_nameHere 89 = .ok (.iadd, 1) := by decide +kernel
theorem dX8_nameHere_90 : decode cX8_nameHere 90 = .ok (.iaload, 1) := by decide +kernel
theorem dX8_nameHere_91 : decode cX8_nameHere 91 = .ok (.if_icmp .ne 7, 3) := by decide +kernel
theorem dX8_nameHere_94 : decode cX8_nameHere 94 = .ok (.iconst 1, 1) := by decide +kernel
theorem dX8_nameHere_95 : decode cX8_nameHere 95 = .ok (.goto 4, 3) := by decide +kernel
theorem dX8_nameHere_98 : decode cX8_nameHere 98 = .ok (.iconst 0, 1) := by decide +kernel
theorem dX8_nameHere_99 : decode cX8_nameHere 99 = .ok (.istore_n 2, 1) := by decide +kernel
theorem dX8_nameHere_100 : decode cX8_nameHere 100 = .ok (.iinc 3 1, 3) := by decide +kernel
theorem dX8_nameHere_103 : decode cX8_nameHere 103 = .ok (.goto (-52), 3) := by decide +kernel
theorem dX8_nameHere_106 : decode cX8_nameHere 106 = .ok (.iload_n 2, 1) := by decide +kernel
theorem dX8_nameHere_107 : decode cX8_nameHere 107 = .ok (.ifCond .eq 5, 3) := by decide +kernel
theorem dX8_nameHere_110 : decode cX8_nameHere 110 = .ok (.iload_n 1, 1) := by decide +kernel
theorem dX8_nameHere_111 : decode cX8_nameHere 111 = .ok (.ireturn, 1) := by decide +kernel
theorem dX8_nameHere_112 : decode cX8_nameHere 112 = .ok (.iinc 1 1, 3) := by decide +kernel
theorem dX8_nameHere_115 : decode cX8_nameHere 115 = .ok (.goto (-113), 3) := by decide +kernel
theorem dX8_nameHere_118 : decode cX8_nameHere 118 = .ok (.bipush (-4), 2) := by decide +kernel
theorem dX8_nameHere_120 : decode cX8_nameHere 120 = .ok (.ireturn, 1) := by decide +kernel
set_option maxRecDepth 20000 in
theorem ggX8_readsOn_X8_byteAt : GoodIn wsX8_readsOn wsX8_byteAt := goodIn_r _ [14, 15, 16, 25, 26, 27, 28, 29, 30, 31, 32, 33, 34, 35, 36, 37, 38, 39, 40, 41, 42, 43, 44, 45, 46, 47] (by decide +kernel) (by decide +kernel)
set_option maxRecDepth 20000 in
theorem gX8_readsOn_X8_byteAt : GoodIn wsX8_readsOn (wsV RX8 73 RX8 yX8_byteAt wsX8_byteAt) := goodIn_app (goodIn_of _ (by decide +kernel)) ggX8_readsOn_X8_byteAt
set_option maxRecDepth 20000 in
theorem ggX8_readsOn_X8_in : GoodIn wsX8_readsOn wsX8_in := goodIn_r _ [19] (by decide +kernel) (by decide +kernel)
set_option maxRecDepth 20000 in
theorem gX8_readsOn_X8_in : GoodIn wsX8_readsOn (va_wsS RX8 50 yX8_in wsX8_in) := goodIn_app (goodIn_of _ (by decide +kernel)) ggX8_readsOn_X8_in
set_option maxRecDepth 20000 in
theorem ggX8_readsOn_X8_fails : GoodIn wsX8_readsOn wsX8_fails := goodIn_r _ [23, 1, 3, 24, 25, 26, 27, 28, 29, 30, 31, 32, 33, 34, 35, 36, 37, 38, 39, 40, 41, 42, 43, 44, 45, 46, 47] (by decide +kernel) (by decide +kernel)
set_option maxRecDepth 20000 in
theorem gX8_readsOn_X8_fails : GoodIn wsX8_readsOn (wsV RX8 88 RX8 yX8_fails wsX8_fails) := goodIn_app (goodIn_of _ (by decide +kernel)) ggX8_readsOn_X8_fails
theorem dX8_readsOn_0 : decode cX8_readsOn 0 = .ok (.aload_n 0, 1) := by decide +kernel
theorem dX8_readsOn_1 : decode cX8_readsOn 1 = .ok (.getfield 58, 3) := by decide +kernel
theorem dX8_readsOn_4 : decode cX8_readsOn 4 = .ok (.ifCond .le 4, 3) := by decide +kernel
theorem dX8_readsOn_7 : decode cX8_readsOn 7 = .ok (.return_, 1) := by decide +kernel
theorem dX8_readsOn_8 : decode cX8_readsOn 8 = .ok (.aload_n 0, 1) := by decide +kernel
theorem dX8_readsOn_9 : decode cX8_readsOn 9 = .ok (.aload_n 0, 1) := by decide +kernel
theorem dX8_readsOn_10 : decode cX8_readsOn 10 = .ok (.getfield 70, 3) := by decide +kernel
theorem dX8_readsOn_13 : decode cX8_readsOn 13 = .ok (.invokevirtual 73, 3) := by decide +kernel
theorem dX8_readsOn_16 : decode cX8_readsOn 16 = .ok (.bipush 32, 2) := by decide +kernel
theorem dX8_readsOn_18 : decode cX8_readsOn 18 = .ok (.if_icmp .ne 16, 3) := by decide +kernel
theorem dX8_readsOn_21 : decode cX8_readsOn 21 = .ok (.aload_n 0, 1) := by decide +kernel
theorem dX8_readsOn_22 : decode cX8_readsOn 22 = .ok (.dup, 1) := by decide +kernel
theorem dX8_readsOn_23 : decode cX8_readsOn 23 = .ok (.getfield 70, 3) := by decide +kernel
theorem dX8_readsOn_26 : decode cX8_readsOn 26 = .ok (.iconst 1, 1) := by decide +kernel
theorem dX8_readsOn_27 : decode cX8_readsOn 27 = .ok (.iadd, 1) := by decide +kernel
theorem dX8_readsOn_28 : decode cX8_readsOn 28 = .ok (.putfield 70, 3) := by decide +kernel
theorem dX8_readsOn_31 : decode cX8_readsOn 31 = .ok (.goto (-23), 3) := by decide +kernel
theorem dX8_readsOn_34 : decode cX8_readsOn 34 = .ok (.aload_n 0, 1) := by decide +kernel
theorem dX8_readsOn_35 : decode cX8_readsOn 35 = .ok (.aload_n 0, 1) := by decide +kernel
theorem dX8_readsOn_36 : decode cX8_readsOn 36 = .ok (.getfield 70, 3) := by decide +kernel
theorem dX8_readsOn_39 : decode cX8_readsOn 39 = .ok (.putfield 61, 3) := by decide +kernel
theorem dX8_readsOn_42 : decode cX8_readsOn 42 = .ok (.aload_n 0, 1) := by decide +kernel
theorem dX8_readsOn_43 : decode cX8_readsOn 43 = .ok (.aload_n 0, 1) := by decide +kernel
theorem dX8_readsOn_44 : decode cX8_readsOn 44 = .ok (.getfield 70, 3) := by decide +kernel
theorem dX8_readsOn_47 : decode cX8_readsOn 47 = .ok (.invokevirtual 73, 3) := by decide +kernel
theorem dX8_readsOn_50 : decode cX8_readsOn 50 = .ok (.istore_n 1, 1) := by decide +kernel
theorem dX8_readsOn_51 : decode cX8_readsOn 51 = .ok (.aload_n 0, 1) := by decide +kernel
theorem dX8_readsOn_52 : decode cX8_readsOn 52 = .ok (.iconst 0, 1) := by decide +kernel
theorem dX8_readsOn_53 : decode cX8_readsOn 53 = .ok (.putfield 77, 3) := by decide +kernel
theorem dX8_readsOn_56 : decode cX8_readsOn 56 = .ok (.iload_n 1, 1) := by decide +kernel
theorem dX8_readsOn_57 : decode cX8_readsOn 57 = .ok (.bipush (-4), 2) := by decide +kernel
theorem dX8_readsOn_59 : decode cX8_readsOn 59 = .ok (.if_icmp .ne 11, 3) := by decide +kernel
theorem dX8_readsOn_62 : decode cX8_readsOn 62 = .ok (.aload_n 0, 1) := by decide +kernel
theorem dX8_readsOn_63 : decode cX8_readsOn 63 = .ok (.iconst 0, 1) := by decide +kernel
theorem dX8_readsOn_64 : decode cX8_readsOn 64 = .ok (.putfield 67, 3) := by decide +kernel
theorem dX8_readsOn_67 : decode cX8_readsOn 67 = .ok (.goto 218, 3) := by decide +kernel
theorem dX8_readsOn_70 : decode cX8_readsOn 70 = .ok (.iload_n 1, 1) := by decide +kernel
theorem dX8_readsOn_71 : decode cX8_readsOn 71 = .ok (.i2l, 1) := by decide +kernel
theorem dX8_readsOn_72 : decode cX8_readsOn 72 = .ok (.ldc2_w 80, 3) := by decide +kernel
theorem dX8_readsOn_75 : decode cX8_readsOn 75 = .ok (.ldc2_w 82, 3) := by decide +kernel
theorem dX8_readsOn_78 : decode cX8_readsOn 78 = .ok (.invokestatic 50, 3) := by decide +kernel
theorem dX8_readsOn_81 : decode cX8_readsOn 81 = .ok (.ifCond .eq 45, 3) := by decide +kernel
theorem dX8_readsOn_84 : decode cX8_readsOn 84 = .ok (.aload_n 0, 1) := by decide +kernel
theorem dX8_readsOn_85 : decode cX8_readsOn 85 = .ok (.aload_n 0, 1) := by decide +kernel
theorem dX8_readsOn_86 : decode cX8_readsOn 86 = .ok (.getfield 70, 3) := by decide +kernel
theorem dX8_readsOn_89 : decode cX8_readsOn 89 = .ok (.invokevirtual 73, 3) := by decide +kernel
theorem dX8_readsOn_92 : decode cX8_readsOn 92 = .ok (.i2l, 1) := by decide +kernel
theorem dX8_readsOn_93 : decode cX8_readsOn 93 = .ok (.ldc2_w 80, 3) := by decide +kernel
theorem dX8_readsOn_96 : decode cX8_readsOn 96 = .ok (.ldc2_w 82, 3) := by decide +kernel
theorem dX8_readsOn_99 : decode cX8_readsOn 99 = .ok (.invokestatic 50, 3) := by decide +kernel
theorem dX8_readsOn_102 : decode cX8_readsOn 102 = .ok (.ifCond .eq 16, 3) := by decide +kernel
theorem dX8_readsOn_105 : decode cX8_readsOn 105 = .ok (.aload_n 0, 1) := by decide +kernel
theorem dX8_readsOn_106 : decode cX8_readsOn 106 = .ok (.dup, 1) := by decide +kernel
theorem dX8_readsOn_107 : decode cX8_readsOn 107 = .ok (.getfield 70, 3) := by decide +kernel
theorem dX8_readsOn_110 : decode cX8_readsOn 110 = .ok (.iconst 1, 1) := by decide +kernel
theorem dX8_readsOn_111 : decode cX8_readsOn 111 = .ok (.iadd, 1) := by decide +kernel
theorem dX8_readsOn_112 : decode cX8_readsOn 112 = .ok (.putfield 70, 3) := by decide +kernel
theorem dX8_readsOn_115 : decode cX8_readsOn 115 = .ok (.goto (-31), 3) := by decide +kernel
theorem dX8_readsOn_118 : decode cX8_readsOn 118 = .ok (.aload_n 0, 1) := by decide +kernel
theorem dX8_readsOn_119 : decode cX8_readsOn 119 = .ok (.iconst 1, 1) := by decide +kernel
theorem dX8_readsOn_120 : decode cX8_readsOn 120 = .ok (.putfield 67, 3) := by decide +kernel
theorem dX8_readsOn_123 : decode cX8_readsOn 123 = .ok (.goto 162, 3) := by decide +kernel
theorem dX8_readsOn_126 : decode cX8_readsOn 126 = .ok (.iload_n 1, 1) := by decide +kernel
theorem dX8_readsOn_127 : decode cX8_readsOn 127 = .ok (.i2l, 1) := by decide +kernel
theorem dX8_readsOn_128 : decode cX8_readsOn 128 = .ok (.ldc2_w 84, 3) := by decide +kernel
theorem dX8_readsOn_131 : decode cX8_readsOn 131 = .ok (.ldc2_w 86, 3) := by decide +kernel
theorem dX8_readsOn_134 : decode cX8_readsOn 134 = .ok (.invokestatic 50, 3) := by decide +kernel
theorem dX8_readsOn_137 : decode cX8_readsOn 137 = .ok (.ifCond .eq 106, 3) := by decide +kernel
theorem dX8_readsOn_140 : decode cX8_readsOn 140 = .ok (.aload_n 0, 1) := by decide +kernel
theorem dX8_readsOn_141 : decode cX8_readsOn 141 = .ok (.aload_n 0, 1) := by decide +kernel
theorem dX8_readsOn_142 : decode cX8_readsOn 142 = .ok (.getfield 70, 3) := by decide +kernel
theorem dX8_readsOn_145 : decode cX8_readsOn 145 = .ok (.invokevirtual 73, 3) := by decide +kernel
theorem dX8_readsOn_148 : decode cX8_readsOn 148 = .ok (.i2l, 1) := by decide +kernel
theorem dX8_readsOn_149 : decode cX8_readsOn 149 = .ok (.ldc2_w 84, 3) := by decide +kernel
theorem dX8_readsOn_152 : decode cX8_readsOn 152 = .ok (.ldc2_w 86, 3) := by decide +kernel
theorem dX8_readsOn_155 : decode cX8_readsOn 155 = .ok (.invokestatic 50, 3) := by decide +kernel
theorem dX8_readsOn_158 : decode cX8_readsOn 158 = .ok (.ifCond .eq 59, 3) := by decide +kernel
theorem dX8_readsOn_161 : decode cX8_readsOn 161 = .ok (.aload_n 0, 1) := by decide +kernel
theorem dX8_readsOn_162 : decode cX8_readsOn 162 = .ok (.aload_n 0, 1) := by decide +kernel
theorem dX8_readsOn_163 : decode cX8_readsOn 163 = .ok (.getfield 70, 3) := by decide +kernel
theorem dX8_readsOn_166 : decode cX8_readsOn 166 = .ok (.aload_n 0, 1) := by decide +kernel
theorem dX8_readsOn_167 : decode cX8_readsOn 167 = .ok (.getfield 61, 3) := by decide +kernel
theorem dX8_readsOn_170 : decode cX8_readsOn 170 = .ok (.isub, 1) := by decide +kernel
theorem dX8_readsOn_171 : decode cX8_readsOn 171 = .ok (.iconst 4, 1) := by decide +kernel
theorem dX8_readsOn_172 : decode cX8_readsOn 172 = .ok (.if_icmp .ge 25, 3) := by decide +kernel
theorem dX8_readsOn_175 : decode cX8_readsOn 175 = .ok (.bipush 10, 2) := by decide +kernel
theorem dX8_readsOn_177 : decode cX8_readsOn 177 = .ok (.aload_n 0, 1) := by decide +kernel
theorem dX8_readsOn_178 : decode cX8_readsOn 178 = .ok (.getfield 77, 3) := by decide +kernel
theorem dX8_readsOn_181 : decode cX8_readsOn 181 = .ok (.imul, 1) := by decide +kernel
theorem dX8_readsOn_182 : decode cX8_readsOn 182 = .ok (.aload_n 0, 1) := by decide +kernel
theorem dX8_readsOn_183 : decode cX8_readsOn 183 = .ok (.aload_n 0, 1) := by decide +kernel
theorem dX8_readsOn_184 : decode cX8_readsOn 184 = .ok (.getfield 70, 3) := by decide +kernel
theorem dX8_readsOn_187 : decode cX8_readsOn 187 = .ok (.invokevirtual 73, 3) := by decide +kernel
theorem dX8_readsOn_190 : decode cX8_readsOn 190 = .ok (.iadd, 1) := by decide +kernel
theorem dX8_readsOn_191 : decode cX8_readsOn 191 = .ok (.bipush 48, 2) := by decide +kernel
theorem dX8_readsOn_193 : decode cX8_readsOn 193 = .ok (.isub, 1) := by decide +kernel
theorem dX8_readsOn_194 : decode cX8_readsOn 194 = .ok (.goto 7, 3) := by decide +kernel
theorem dX8_readsOn_197 : decode cX8_readsOn 197 = .ok (.aload_n 0, 1) := by decide +kernel
theorem dX8_readsOn_198 : decode cX8_readsOn 198 = .ok (.getfield 77, 3) := by decide +kernel
theorem dX8_readsOn_201 : decode cX8_readsOn 201 = .ok (.putfield 77, 3) := by decide +kernel
theorem dX8_readsOn_204 : decode cX8_readsOn 204 = .ok (.aload_n 0, 1) := by decide +kernel
theorem dX8_readsOn_205 : decode cX8_readsOn 205 = .ok (.dup, 1) := by decide +kernel
theorem dX8_readsOn_206 : decode cX8_readsOn 206 = .ok (.getfield 70, 3) := by decide +kernel
theorem dX8_readsOn_209 : decode cX8_readsOn 209 = .ok (.iconst 1, 1) := by decide +kernel
theorem dX8_readsOn_210 : decode cX8_readsOn 210 = .ok (.iadd, 1) := by decide +kernel
theorem dX8_readsOn_211 : decode cX8_readsOn 211 = .ok (.putfield 70, 3) := by decide +kernel
theorem dX8_readsOn_214 : decode cX8_readsOn 214 = .ok (.goto (-74), 3) := by decide +kernel
theorem dX8_readsOn_217 : decode cX8_readsOn 217 = .ok (.aload_n 0, 1) := by decide +kernel
theorem dX8_readsOn_218 : decode cX8_readsOn 218 = .ok (.iconst 2, 1) := by decide +kernel
theorem dX8_readsOn_219 : decode cX8_readsOn 219 = .ok (.putfield 67, 3) := by decide +kernel
theorem dX8_readsOn_222 : decode cX8_readsOn 222 = .ok (.aload_n 0, 1) := by decide +kernel
theorem dX8_readsOn_223 : decode cX8_readsOn 223 = .ok (.getfield 70, 3) := by decide +kernel
theorem dX8_readsOn_226 : decode cX8_readsOn 226 = .ok (.aload_n 0, 1) := by decide +kernel
theorem dX8_readsOn_227 : decode cX8_readsOn 227 = .ok (.getfield 61, 3) := by decide +kernel
theorem dX8_readsOn_230 : decode cX8_readsOn 230 = .ok (.isub, 1) := by decide +kernel
theorem dX8_readsOn_231 : decode cX8_readsOn 231 = .ok (.iconst 4, 1) := by decide +kernel
theorem dX8_readsOn_232 : decode cX8_readsOn 232 = .ok (.if_icmp .le 53, 3) := by decide +kernel
theorem dX8_readsOn_235 : decode cX8_readsOn 235 = .ok (.aload_n 0, 1) := by decide +kernel
theorem dX8_readsOn_236 : decode cX8_readsOn 236 = .ok (.iconst 1, 1) := by decide +kernel
theorem dX8_readsOn_237 : decode cX8_readsOn 237 = .ok (.invokevirtual 88, 3) := by decide +kernel
theorem dX8_readsOn_240 : decode cX8_readsOn 240 = .ok (.goto 45, 3) := by decide +kernel
theorem dX8_readsOn_243 : decode cX8_readsOn 243 = .ok (.aload_n 0, 1) := by decide +kernel
theorem dX8_readsOn_244 : decode cX8_readsOn 244 = .ok (.iload_n 1, 1) := by decide +kernel
theorem dX8_readsOn_245 : decode cX8_readsOn 245 = .ok (.bipush 45, 2) := by decide +kernel
theorem dX8_readsOn_247 : decode cX8_readsOn 247 = .ok (.if_icmp .ne 7, 3) := by decide +kernel
theorem dX8_readsOn_250 : decode cX8_readsOn 250 = .ok (.iconst 4, 1) := by decide +kernel
theorem dX8_readsOn_251 : decode cX8_readsOn 251 = .ok (.goto 4, 3) := by decide +kernel
theorem dX8_readsOn_254 : decode cX8_readsOn 254 = .ok (.iconst 3, 1) := by decide +kernel
theorem dX8_readsOn_255 : decode cX8_readsOn 255 = .ok (.putfield 67, 3) := by decide +kernel
theorem dX8_readsOn_258 : decode cX8_readsOn 258 = .ok (.aload_n 0, 1) := by decide +kernel
theorem dX8_readsOn_259 : decode cX8_readsOn 259 = .ok (.dup, 1) := by decide +kernel
theorem dX8_readsOn_260 : decode cX8_readsOn 260 = .ok (.getfield 70, 3) := by decide +kernel
theorem dX8_readsOn_263 : decode cX8_readsOn 263 = .ok (.iconst 1, 1) := by decide +kernel
theorem dX8_readsOn_264 : decode cX8_readsOn 264 = .ok (.iadd, 1) := by decide +kernel
theorem dX8_readsOn_265 : decode cX8_readsOn 265 = .ok (.putfield 70, 3) := by decide +kernel
theorem dX8_readsOn_268 : decode cX8_readsOn 268 = .ok (.iload_n 1, 1) := by decide +kernel
theorem dX8_readsOn_269 : decode cX8_readsOn 269 = .ok (.bipush 59, 2) := by decide +kernel
theorem dX8_readsOn_271 : decode cX8_readsOn 271 = .ok (.if_icmp .eq 14, 3) := by decide +kernel
theorem dX8_readsOn_274 : decode cX8_readsOn 274 = .ok (.iload_n 1, 1) := by decide +kernel
theorem dX8_readsOn_275 : decode cX8_readsOn 275 = .ok (.bipush 45, 2) := by decide +kernel
theorem dX8_readsOn_277 : decode cX8_readsOn 277 = .ok (.if_icmp .eq 8, 3) := by decide +kernel
theorem dX8_readsOn_280 : decode cX8_readsOn 280 = .ok (.aload_n 0, 1) := by decide +kernel
theorem dX8_readsOn_281 : decode cX8_readsOn 281 = .ok (.iconst 1, 1) := by decide +kernel
theorem dX8_readsOn_282 : decode cX8_readsOn 282 = .ok (.invokevirtual 88, 3) := by decide +kernel
theorem dX8_readsOn_285 : decode cX8_readsOn 285 = .ok (.return_, 1) := by decide +kernel
set_option maxRecDepth 20000 in
theorem ggX8_thingRead_X8_byteAt : GoodIn wsX8_thingRead wsX8_byteAt := goodIn_r _ [11, 12, 13, 30, 31, 32, 33, 34, 35, 36, 37, 38, 39, 40, 41, 42, 43, 44, 45, 46, 47, 48, 49, 50, 51, 52] (by decide +kernel) (by decide +kernel)
set_option maxRecDepth 20000 in
theorem gX8_thingRead_X8_byteAt : GoodIn wsX8_thingRead (wsV RX8 73 RX8 yX8_byteAt wsX8_byteAt) := goodIn_app (goodIn_of _ (by decide +kernel)) ggX8_thingRead_X8_byteAt
set_option maxRecDepth 20000 in
theorem ggX8_thingRead_X8_in : GoodIn wsX8_thingRead wsX8_in := goodIn_r _ [16] (by decide +kernel) (by decide +kernel)
set_option maxRecDepth 20000 in
theorem gX8_thingRead_X8_in : GoodIn wsX8_thingRead (va_wsS RX8 50 yX8_in wsX8_in) := goodIn_app (goodIn_of _ (by decide +kernel)) ggX8_thingRead_X8_in
set_option maxRecDepth 20000 in
theorem ggX8_thingRead_X8_fails : GoodIn wsX8_thingRead wsX8_fails := goodIn_r _ [20, 6, 3, 21, 30, 31, 32, 33, 34, 35, 36, 37, 38, 39, 40, 41, 42, 43, 44, 45, 46, 47, 48, 49, 50, 51, 52] (by decide +kernel) (by decide +kernel)
set_option maxRecDepth 20000 in
theorem gX8_thingRead_X8_fails : GoodIn wsX8_thingRead (wsV RX8 88 RX8 yX8_fails wsX8_fails) := goodIn_app (goodIn_of _ (by decide +kernel)) ggX8_thingRead_X8_fails
set_option maxRecDepth 20000 in
theorem ggX8_thingRead_X8_readsOn : GoodIn wsX8_thingRead wsX8_readsOn := goodIn_r _ [25, 6, 2, 3, 26, 1, 4, 27, 28, 29, 7, 8, 9, 10, 11, 12, 13, 14, 15, 16, 17, 18, 19, 20, 21, 30, 31, 32, 33, 34, 35, 36, 37, 38, 39, 40, 41, 42, 43, 44, 45, 46, 47, 48, 49, 50, 51, 52] (by decide +kernel) (by decide +kernel)
set_option maxRecDepth 20000 in
theorem gX8_thingRead_X8_readsOn : GoodIn wsX8_thingRead (wsV RX8 94 RX8 yX8_readsOn wsX8_readsOn) := goodIn_app (goodIn_of _ (by decide +kernel)) ggX8_thingRead_X8_readsOn
theorem dX8_thingRead_0 : decode cX8_thingRead 0 = .ok (.aload_n 0, 1) := by decide +kernel
theorem dX8_thingRead_1 : decode cX8_thingRead 1 = .ok (.getfield 67, 3) := by decide +kernel
theorem dX8_thingRead_4 : decode cX8_thingRead 4 = .ok (.iconst 1, 1) := by decide +kernel
theorem dX8_thingRead_5 : decode cX8_thingRead 5 = .ok (.if_icmp .ne 41, 3) := by decide +kernel
theorem dX8_thingRead_8 : decode cX8_thingRead 8 = .ok (.aload_n 0, 1) := by decide +kernel
theorem dX8_thingRead_9 : decode cX8_thingRead 9 = .ok (.getfield 70, 3) := by decide +kernel
theorem dX8_thingRead_12 : decode cX8_thingRead 12 = .ok (.aload_n 0, 1) := by decide +kernel
theorem dX8_thingRead_13 : decode cX8_thingRead 13 = .ok (.getfield 61, 3) := by decide +kernel
theorem dX8_thingRead_16 : decode cX8_thingRead 16 = .ok (.isub, 1) := by decide +kernel
theorem dX8_thingRead_17 : decode cX8_thingRead 17 = .ok (.iconst 1, 1) := by decide +kernel
theorem dX8_thingRead_18 : decode cX8_thingRead 18 = .ok (.if_icmp .ne 28, 3) := by decide +kernel
theorem dX8_thingRead_21 : decode cX8_thingRead 21 = .ok (.aload_n 0, 1) := by decide +kernel
theorem dX8_thingRead_22 : decode cX8_thingRead 22 = .ok (.aload_n 0, 1) := by decide +kernel
theorem dX8_thingRead_23 : decode cX8_thingRead 23 = .ok (.getfield 61, 3) := by decide +kernel
theorem dX8_thingRead_26 : decode cX8_thingRead 26 = .ok (.invokevirtual 73, 3) := by decide +kernel
theorem dX8_thingRead_29 : decode cX8_thingRead 29 = .ok (.i2l, 1) := by decide +kernel
theorem dX8_thingRead_30 : decode cX8_thingRead 30 = .ok (.ldc2_w 80, 3) := by decide +kernel
theorem dX8_thingRead_33 : decode cX8_thingRead 33 = .ok (.ldc2_w 92, 3) := by decide +kernel
theorem dX8_thingRead_36 : decode cX8_thingRead 36 = .ok (.invokestatic 50, 3) := by decide +kernel
theorem dX8_thingRead_39 : decode cX8_thingRead 39 = .ok (.ifCond .eq 7, 3) := by decide +kernel
theorem dX8_thingRead_42 : decode cX8_thingRead 42 = .ok (.iconst 1, 1) := by decide +kernel
theorem dX8_thingRead_43 : decode cX8_thingRead 43 = .ok (.goto 4, 3) := by decide +kernel
theorem dX8_thingRead_46 : decode cX8_thingRead 46 = .ok (.iconst 0, 1) := by decide +kernel
theorem dX8_thingRead_47 : decode cX8_thingRead 47 = .ok (.istore_n 2, 1) := by decide +kernel
theorem dX8_thingRead_48 : decode cX8_thingRead 48 = .ok (.aload_n 0, 1) := by decide +kernel
theorem dX8_thingRead_49 : decode cX8_thingRead 49 = .ok (.getfield 58, 3) := by decide +kernel
theorem dX8_thingRead_52 : decode cX8_thingRead 52 = .ok (.ifCond .ne 12, 3) := by decide +kernel
theorem dX8_thingRead_55 : decode cX8_thingRead 55 = .ok (.iload_n 2, 1) := by decide +kernel
theorem dX8_thingRead_56 : decode cX8_thingRead 56 = .ok (.ifCond .ne 8, 3) := by decide +kernel
theorem dX8_thingRead_59 : decode cX8_thingRead 59 = .ok (.aload_n 0, 1) := by decide +kernel
theorem dX8_thingRead_60 : decode cX8_thingRead 60 = .ok (.iconst 2, 1) := by decide +kernel
theorem dX8_thingRead_61 : decode cX8_thingRead 61 = .ok (.invokevirtual 88, 3) := by decide +kernel
theorem dX8_thingRead_64 : decode cX8_thingRead 64 = .ok (.aload_n 0, 1) := by decide +kernel
theorem dX8_thingRead_65 : decode cX8_thingRead 65 = .ok (.getfield 58, 3) := by decide +kernel
theorem dX8_thingRead_68 : decode cX8_thingRead 68 = .ok (.ifCond .ne 17, 3) := by decide +kernel
theorem dX8_thingRead_71 : decode cX8_thingRead 71 = .ok (.aload_n 0, 1) := by decide +kernel
theorem dX8_thingRead_72 : decode cX8_thingRead 72 = .ok (.aload_n 0, 1) := by decide +kernel
theorem dX8_thingRead_73 : decode cX8_thingRead 73 = .ok (.getfield 61, 3) := by decide +kernel
theorem dX8_thingRead_76 : decode cX8_thingRead 76 = .ok (.invokevirtual 73, 3) := by decide +kernel
theorem dX8_thingRead_79 : decode cX8_thingRead 79 = .ok (.bipush 97, 2) := by decide +kernel
theorem dX8_thingRead_81 : decode cX8_thingRead 81 = .ok (.isub, 1) := by decide +kernel
theorem dX8_thingRead_82 : decode cX8_thingRead 82 = .ok (.goto 4, 3) := by decide +kernel
theorem dX8_thingRead_85 : decode cX8_thingRead 85 = .ok (.iconst 0, 1) := by decide +kernel
theorem dX8_thingRead_86 : decode cX8_thingRead 86 = .ok (.istore_n 3, 1) := by decide +kernel
theorem dX8_thingRead_87 : decode cX8_thingRead 87 = .ok (.aload_n 0, 1) := by decide +kernel
theorem dX8_thingRead_88 : decode cX8_thingRead 88 = .ok (.getfield 58, 3) := by decide +kernel
theorem dX8_thingRead_91 : decode cX8_thingRead 91 = .ok (.ifCond .ne 13, 3) := by decide +kernel
theorem dX8_thingRead_94 : decode cX8_thingRead 94 = .ok (.iload_n 3, 1) := by decide +kernel
theorem dX8_thingRead_95 : decode cX8_thingRead 95 = .ok (.iload_n 1, 1) := by decide +kernel
theorem dX8_thingRead_96 : decode cX8_thingRead 96 = .ok (.if_icmp .ne 8, 3) := by decide +kernel
theorem dX8_thingRead_99 : decode cX8_thingRead 99 = .ok (.aload_n 0, 1) := by decide +kernel
theorem dX8_thingRead_100 : decode cX8_thingRead 100 = .ok (.iconst 4, 1) := by decide +kernel
theorem dX8_thingRead_101 : decode cX8_thingRead 101 = .ok (.invokevirtual 88, 3) := by decide +kernel
theorem dX8_thingRead_104 : decode cX8_thingRead 104 = .ok (.aload_n 0, 1) := by decide +kernel
theorem dX8_thingRead_105 : decode cX8_thingRead 105 = .ok (.invokevirtual 94, 3) := by decide +kernel
theorem dX8_thingRead_108 : decode cX8_thingRead 108 = .ok (.iload_n 3, 1) := by decide +kernel
theorem dX8_thingRead_109 : decode cX8_thingRead 109 = .ok (.ireturn, 1) := by decide +kernel
set_option maxRecDepth 20000 in
theorem ggX8_numberRead_X8_readsOn : GoodIn wsX8_numberRead wsX8_readsOn := goodIn_r _ [8, 1, 9, 10, 3, 2, 11, 12, 13, 14, 15, 16, 17, 7, 18, 19, 20, 21, 22, 23, 24, 25, 26, 27, 28, 29, 30, 31, 32, 33, 34, 35, 36, 37, 38, 39, 40, 41, 42, 43, 44, 45, 46, 47, 48, 49, 50, 51] (by decide +kernel) (by decide +kernel)
set_option maxRecDepth 20000 in
theorem gX8_numberRead_X8_readsOn : GoodIn wsX8_numberRead (wsV RX8 94 RX8 yX8_readsOn wsX8_readsOn) := goodIn_app (goodIn_of _ (by decide +kernel)) ggX8_numberRead_X8_readsOn
set_option maxRecDepth 20000 in
theorem ggX8_numberRead_X8_fails : GoodIn wsX8_numberRead wsX8_fails := goodIn_r _ [27, 1, 10, 28, 29, 30, 31, 32, 33, 34, 35, 36, 37, 38, 39, 40, 41, 42, 43, 44, 45, 46, 47, 48, 49, 50, 51] (by decide +kernel) (by decide +kernel)
set_option maxRecDepth 20000 in
theorem gX8_numberRead_X8_fails : GoodIn wsX8_numberRead (wsV RX8 88 RX8 yX8_fails wsX8_fails) := goodIn_app (goodIn_of _ (by decide +kernel)) ggX8_numberRead_X8_fails
theorem dX8_numberRead_0 : decode cX8_numberRead 0 = .ok (.aload_n 0, 1) := by decide +kernel
theorem dX8_numberRead_1 : decode cX8_numberRead 1 = .ok (.getfield 58, 3) := by decide +kernel
theorem dX8_numberRead_4 : decode cX8_numberRead 4 = .ok (.ifCond .ne 15, 3) := by decide +kernel
theorem dX8_numberRead_7 : decode cX8_numberRead 7 = .ok (.aload_n 0, 1) := by decide +kernel
theorem dX8_numberRead_8 : decode cX8_numberRead 8 = .ok (.getfield 67, 3) := by decide +kernel
theorem dX8_numberRead_11 : decode cX8_numberRead 11 = .ok (.iconst 4, 1) := by decide +kernel
theorem dX8_numberRead_12 : decode cX8_numberRead 12 = .ok (.if_icmp .ne 7, 3) := by decide +kernel
theorem dX8_numberRead_15 : decode cX8_numberRead 15 = .ok (.iconst 1, 1) := by decide +kernel
theorem dX8_numberRead_16 : decode cX8_numberRead 16 = .ok (.goto 4, 3) := by decide +kernel
theorem dX8_numberRead_19 : decode cX8_numberRead 19 = .ok (.iconst 0, 1) := by decide +kernel
theorem dX8_numberRead_20 : decode cX8_numberRead 20 = .ok (.istore_n 1, 1) := by decide +kernel
theorem dX8_numberRead_21 : decode cX8_numberRead 21 = .ok (.iload_n 1, 1) := by decide +kernel
theorem dX8_numberRead_22 : decode cX8_numberRead 22 = .ok (.ifCond .eq 7, 3) := by decide +kernel
theorem dX8_numberRead_25 : decode cX8_numberRead 25 = .ok (.aload_n 0, 1) := by decide +kernel
theorem dX8_numberRead_26 : decode cX8_numberRead 26 = .ok (.invokevirtual 94, 3) := by decide +kernel
theorem dX8_numberRead_29 : decode cX8_numberRead 29 = .ok (.aload_n 0, 1) := by decide +kernel
theorem dX8_numberRead_30 : decode cX8_numberRead 30 = .ok (.getfield 58, 3) := by decide +kernel
theorem dX8_numberRead_33 : decode cX8_numberRead 33 = .ok (.ifCond .ne 16, 3) := by decide +kernel
theorem dX8_numberRead_36 : decode cX8_numberRead 36 = .ok (.aload_n 0, 1) := by decide +kernel
theorem dX8_numberRead_37 : decode cX8_numberRead 37 = .ok (.getfield 67, 3) := by decide +kernel
theorem dX8_numberRead_40 : decode cX8_numberRead 40 = .ok (.iconst 2, 1) := by decide +kernel
theorem dX8_numberRead_41 : decode cX8_numberRead 41 = .ok (.if_icmp .eq 8, 3) := by decide +kernel
theorem dX8_numberRead_44 : decode cX8_numberRead 44 = .ok (.aload_n 0, 1) := by decide +kernel
theorem dX8_numberRead_45 : decode cX8_numberRead 45 = .ok (.iconst 2, 1) := by decide +kernel
theorem dX8_numberRead_46 : decode cX8_numberRead 46 = .ok (.invokevirtual 88, 3) := by decide +kernel
theorem dX8_numberRead_49 : decode cX8_numberRead 49 = .ok (.aload_n 0, 1) := by decide +kernel
theorem dX8_numberRead_50 : decode cX8_numberRead 50 = .ok (.getfield 58, 3) := by decide +kernel
theorem dX8_numberRead_53 : decode cX8_numberRead 53 = .ok (.ifCond .ne 10, 3) := by decide +kernel
theorem dX8_numberRead_56 : decode cX8_numberRead 56 = .ok (.aload_n 0, 1) := by decide +kernel
theorem dX8_numberRead_57 : decode cX8_numberRead 57 = .ok (.getfield 77, 3) := by decide +kernel
theorem dX8_numberRead_60 : decode cX8_numberRead 60 = .ok (.goto 4, 3) := by decide +kernel
theorem dX8_numberRead_63 : decode cX8_numberRead 63 = .ok (.iconst 0, 1) := by decide +kernel
theorem dX8_numberRead_64 : decode cX8_numberRead 64 = .ok (.istore_n 2, 1) := by decide +kernel
theorem dX8_numberRead_65 : decode cX8_numberRead 65 = .ok (.aload_n 0, 1) := by decide +kernel
theorem dX8_numberRead_66 : decode cX8_numberRead 66 = .ok (.invokevirtual 94, 3) := by decide +kernel
theorem dX8_numberRead_69 : decode cX8_numberRead 69 = .ok (.iload_n 1, 1) := by decide +kernel
theorem dX8_numberRead_70 : decode cX8_numberRead 70 = .ok (.ifCond .eq 8, 3) := by decide +kernel
theorem dX8_numberRead_73 : decode cX8_numberRead 73 = .ok (.iload_n 2, 1) := by decide +kernel
theorem dX8_numberRead_74 : decode cX8_numberRead 74 = .ok (.ineg, 1) := by decide +kernel
theorem dX8_numberRead_75 : decode cX8_numberRead 75 = .ok (.goto 4, 3) := by decide +kernel
theorem dX8_numberRead_78 : decode cX8_numberRead 78 = .ok (.iload_n 2, 1) := by decide +kernel
theorem dX8_numberRead_79 : decode cX8_numberRead 79 = .ok (.ireturn, 1) := by decide +kernel
theorem dX8_puts_0 : decode cX8_puts 0 = .ok (.aload_n 0, 1) := by decide +kernel
theorem dX8_puts_1 : decode cX8_puts 1 = .ok (.getfield 7, 3) := by decide +kernel
theorem dX8_puts_4 : decode cX8_puts 4 = .ok (.iload_n 1, 1) := by decide +kernel
theorem dX8_puts_5 : decode cX8_puts 5 = .ok (.bipush 104, 2) := by decide +kernel
theorem dX8_puts_7 : decode cX8_puts 7 = .ok (.iadd, 1) := by decide +kernel
theorem dX8_puts_8 : decode cX8_puts 8 = .ok (.iaload, 1) := by decide +kernel
theorem dX8_puts_9 : decode cX8_puts 9 = .ok (.istore 6, 2) := by decide +kernel
theorem dX8_puts_11 : decode cX8_puts 11 = .ok (.aload_n 0, 1) := by decide +kernel
theorem dX8_puts_12 : decode cX8_puts 12 = .ok (.getfield 7, 3) := by decide +kernel
theorem dX8_puts_15 : decode cX8_puts 15 = .ok (.iload_n 1, 1) := by decide +kernel
theorem dX8_puts_16 : decode cX8_puts 16 = .ok (.iload 6, 2) := by decide +kernel
theorem dX8_puts_18 : decode cX8_puts 18 = .ok (.iadd, 1) := by decide +kernel
theorem dX8_puts_19 : decode cX8_puts 19 = .ok (.iload_n 2, 1) := by decide +kernel
theorem dX8_puts_20 : decode cX8_puts 20 = .ok (.iastore, 1) := by decide +kernel
theorem dX8_puts_21 : decode cX8_puts 21 = .ok (.aload_n 0, 1) := by decide +kernel
theorem dX8_puts_22 : decode cX8_puts 22 = .ok (.getfield 7, 3) := by decide +kernel
theorem dX8_puts_25 : decode cX8_puts 25 = .ok (.iload_n 1, 1) := by decide +kernel
theorem dX8_puts_26 : decode cX8_puts 26 = .ok (.bipush 24, 2) := by decide +kernel
theorem dX8_puts_28 : decode cX8_puts 28 = .ok (.iadd, 1) := by decide +kernel
theorem dX8_puts_29 : decode cX8_puts 29 = .ok (.iload 6, 2) := by decide +kernel
theorem dX8_puts_31 : decode cX8_puts 31 = .ok (.iadd, 1) := by decide +kernel
theorem dX8_puts_32 : decode cX8_puts 32 = .ok (.iload_n 3, 1) := by decide +kernel
theorem dX8_puts_33 : decode cX8_puts 33 = .ok (.iastore, 1) := by decide +kernel
theorem dX8_puts_34 : decode cX8_puts 34 = .ok (.aload_n 0, 1) := by decide +kernel
theorem dX8_puts_35 : decode cX8_puts 35 = .ok (.getfield 7, 3) := by decide +kernel
theorem dX8_puts_38 : decode cX8_puts 38 = .ok (.iload_n 1, 1) := by decide +kernel
theorem dX8_puts_39 : decode cX8_puts 39 = .ok (.bipush 48, 2) := by decide +kernel
theorem dX8_puts_41 : decode cX8_puts 41 = .ok (.iadd, 1) := by decide +kernel
theorem dX8_puts_42 : decode cX8_puts 42 = .ok (.iload 6, 2) := by decide +kernel
theorem dX8_puts_44 : decode cX8_puts 44 = .ok (.iadd, 1) := by decide +kernel
theorem dX8_puts_45 : decode cX8_puts 45 = .ok (.iload 4, 2) := by decide +kernel
theorem dX8_puts_47 : decode cX8_puts 47 = .ok (.iastore, 1) := by decide +kernel
theorem dX8_puts_48 : decode cX8_puts 48 = .ok (.aload_n 0, 1) := by decide +kernel
theorem dX8_puts_49 : decode cX8_puts 49 = .ok (.getfield 7, 3) := by decide +kernel
theorem dX8_puts_52 : decode cX8_puts 52 = .ok (.iload_n 1, 1) := by decide +kernel
theorem dX8_puts_53 : decode cX8_puts 53 = .ok (.bipush 72, 2) := by decide +kernel
theorem dX8_puts_55 : decode cX8_puts 55 = .ok (.iadd, 1) := by decide +kernel
theorem dX8_puts_56 : decode cX8_puts 56 = .ok (.iload 6, 2) := by decide +kernel
theorem dX8_puts_58 : decode cX8_puts 58 = .ok (.iadd, 1) := by decide +kernel
theorem dX8_puts_59 : decode cX8_puts 59 = .ok (.iload 5, 2) := by decide +kernel
theorem dX8_puts_61 : decode cX8_puts 61 = .ok (.iastore, 1) := by decide +kernel
theorem dX8_puts_62 : decode cX8_puts 62 = .ok (.aload_n 0, 1) := by decide +kernel
theorem dX8_puts_63 : decode cX8_puts 63 = .ok (.getfield 7, 3) := by decide +kernel
theorem dX8_puts_66 : decode cX8_puts 66 = .ok (.iload_n 1, 1) := by decide +kernel
theorem dX8_puts_67 : decode cX8_puts 67 = .ok (.bipush 104, 2) := by decide +kernel
theorem dX8_puts_69 : decode cX8_puts 69 = .ok (.iadd, 1) := by decide +kernel
theorem dX8_puts_70 : decode cX8_puts 70 = .ok (.dup2, 1) := by decide +kernel
theorem dX8_puts_71 : decode cX8_puts 71 = .ok (.iaload, 1) := by decide +kernel
theorem dX8_puts_72 : decode cX8_puts 72 = .ok (.iconst 1, 1) := by decide +kernel
theorem dX8_puts_73 : decode cX8_puts 73 = .ok (.iadd, 1) := by decide +kernel
theorem dX8_puts_74 : decode cX8_puts 74 = .ok (.iastore, 1) := by decide +kernel
theorem dX8_puts_75 : decode cX8_puts 75 = .ok (.return_, 1) := by decide +kernel
set_option maxRecDepth 20000 in
theorem ggX8_readBound_X8_fails : GoodIn wsX8_readBound wsX8_fails := goodIn_r _ [9, 2, 10, 11, 45, 46, 47, 48, 49, 50, 51, 52, 53, 54, 55, 56, 57, 58, 59, 60, 61, 62, 63, 64, 65, 66, 67] (by decide +kernel) (by decide +kernel)
set_option maxRecDepth 20000 in
theorem gX8_readBound_X8_fails : GoodIn wsX8_readBound (wsV RX8 88 RX8 yX8_fails wsX8_fails) := goodIn_app (goodIn_of _ (by decide +kernel)) ggX8_readBound_X8_fails
set_option maxRecDepth 20000 in
theorem ggX8_readBound_X8_readsOn : GoodIn wsX8_readBound wsX8_readsOn := goodIn_r _ [15, 2, 16, 10, 17, 18, 19, 20, 21, 22, 23, 24, 25, 8, 26, 27, 28, 29, 30, 31, 5, 6, 7, 9, 11, 45, 46, 47, 48, 49, 50, 51, 52, 53, 54, 55, 56, 57, 58, 59, 60, 61, 62, 63, 64, 65, 66, 67] (by decide +kernel) (by decide +kernel)
set_option maxRecDepth 20000 in
theorem gX8_readBound_X8_readsOn : GoodIn wsX8_readBound (wsV RX8 94 RX8 yX8_readsOn wsX8_readsOn) := goodIn_app (goodIn_of _ (by decide +kernel)) ggX8_readBound_X8_readsOn
set_option maxRecDepth 20000 in
theorem ggX8_readBound_X8_thingRead : GoodIn wsX8_readBound wsX8_thingRead := goodIn_r _ [35, 18, 16, 10, 19, 36, 2, 23, 24, 25, 8, 26, 27, 28, 29, 30, 31, 5, 6, 7, 9, 11, 12, 13, 14, 15, 17, 20, 21, 22, 45, 46, 47, 48, 49, 50, 51, 52, 53, 54, 55, 56, 57, 58, 59, 60, 61, 62, 63, 64, 65, 66, 67] (by decide +kernel) (by decide +kernel)
set_option maxRecDepth 20000 in
theorem gX8_readBound_X8_thingRead : GoodIn wsX8_readBound (wsV RX8 97 RX8 yX8_thingRead wsX8_thingRead) := goodIn_app (goodIn_of _ (by decide +kernel)) ggX8_readBound_X8_thingRead
set_option maxRecDepth 20000 in
theorem ggX8_readBound_X8_numberRead : GoodIn wsX8_readBound wsX8_numberRead := goodIn_r _ [40, 2, 18, 17, 12, 13, 14, 8, 15, 16, 10, 19, 20, 21, 22, 23, 24, 25, 26, 27, 28, 29, 30, 31, 5, 6, 7, 9, 11, 45, 46, 47, 48, 49, 50, 51, 52, 53, 54, 55, 56, 57, 58, 59, 60, 61, 62, 63, 64, 65, 66, 67] (by decide +kernel) (by decide +kernel)
set_option maxRecDepth 20000 in
theorem gX8_readBound_X8_numberRead : GoodIn wsX8_readBound (wsV RX8 100 RX8 yX8_numberRead wsX8_numberRead) := goodIn_app (goodIn_of _ (by decide +kernel)) ggX8_readBound_X8_numberRead
set_option maxRecDepth 20000 in
theorem ggX8_readBound_X8_puts : GoodIn wsX8_readBound wsX8_puts := goodIn_r _ [44, 1, 45, 46, 47, 48, 49, 50, 51, 52, 53, 54, 55, 56, 57, 58, 59, 60, 61, 62, 63, 64, 65, 66, 67] (by decide +kernel) (by decide +kernel)
set_option maxRecDepth 20000 in
theorem gX8_readBound_X8_puts : GoodIn wsX8_readBound (wsV RX8 104 RX8 yX8_puts wsX8_puts) := goodIn_app (goodIn_of _ (by decide +kernel)) ggX8_readBound_X8_puts
set_option maxRecDepth 20000 in
theorem ggX8_readBound_X8_in : GoodIn wsX8_readBound wsX8_in := goodIn_r _ [31] (by decide +kernel) (by decide +kernel)
set_option maxRecDepth 20000 in
theorem gX8_readBound_X8_in : GoodIn wsX8_readBound (va_wsS RX8 50 yX8_in wsX8_in) := goodIn_app (goodIn_of _ (by decide +kernel)) ggX8_readBound_X8_in
theorem dX8_readBound_0 : decode cX8_readBound 0 = .ok (.iload_n 1, 1) := by decide +kernel
theorem dX8_readBound_1 : decode cX8_readBound 1 = .ok (.iconst 5, 1) := by decide +kernel
theorem dX8_readBound_2 : decode cX8_readBound 2 = .ok (.if_icmp .ne 7, 3) := by decide +kernel
theorem dX8_readBound_5 : decode cX8_readBound 5 = .ok (.iconst 2, 1) := by decide +kernel
theorem dX8_readBound_6 : decode cX8_readBound 6 = .ok (.goto 4, 3) := by decide +kernel
theorem dX8_readBound_9 : decode cX8_readBound 9 = .ok (.iconst 1, 1) := by decide +kernel
theorem dX8_readBound_10 : decode cX8_readBound 10 = .ok (.istore_n 2, 1) := by decide +kernel
theorem dX8_readBound_11 : decode cX8_readBound 11 = .ok (.aload_n 0, 1) := by decide +kernel
theorem dX8_readBound_12 : decode cX8_readBound 12 = .ok (.getfield 7, 3) := by decide +kernel
theorem dX8_readBound_15 : decode cX8_readBound 15 = .ok (.sipush 425, 3) := by decide +kernel
theorem dX8_readBound_18 : decode cX8_readBound 18 = .ok (.iaload, 1) := by decide +kernel
theorem dX8_readBound_19 : decode cX8_readBound 19 = .ok (.iload_n 2, 1) := by decide +kernel
theorem dX8_readBound_20 : decode cX8_readBound 20 = .ok (.iadd, 1) := by decide +kernel
theorem dX8_readBound_21 : decode cX8_readBound 21 = .ok (.bipush 24, 2) := by decide +kernel
theorem dX8_readBound_23 : decode cX8_readBound 23 = .ok (.if_icmp .le 9, 3) := by decide +kernel
theorem dX8_readBound_26 : decode cX8_readBound 26 = .ok (.aload_n 0, 1) := by decide +kernel
theorem dX8_readBound_27 : decode cX8_readBound 27 = .ok (.iconst 5, 1) := by decide +kernel
theorem dX8_readBound_28 : decode cX8_readBound 28 = .ok (.invokevirtual 88, 3) := by decide +kernel
theorem dX8_readBound_31 : decode cX8_readBound 31 = .ok (.return_, 1) := by decide +kernel
theorem dX8_readBound_32 : decode cX8_readBound 32 = .ok (.aload_n 0, 1) := by decide +kernel
theorem dX8_readBound_33 : decode cX8_readBound 33 = .ok (.invokevirtual 94, 3) := by decide +kernel
theorem dX8_readBound_36 : decode cX8_readBound 36 = .ok (.aload_n 0, 1) := by decide +kernel
theorem dX8_readBound_37 : decode cX8_readBound 37 = .ok (.bipush (-4), 2) := by decide +kernel
theorem dX8_readBound_39 : decode cX8_readBound 39 = .ok (.invokevirtual 97, 3) := by decide +kernel
theorem dX8_readBound_42 : decode cX8_readBound 42 = .ok (.istore_n 3, 1) := by decide +kernel
theorem dX8_readBound_43 : decode cX8_readBound 43 = .ok (.aload_n 0, 1) := by decide +kernel
theorem dX8_readBound_44 : decode cX8_readBound 44 = .ok (.iload_n 3, 1) := by decide +kernel
theorem dX8_readBound_45 : decode cX8_readBound 45 = .ok (.invokevirtual 97, 3) := by decide +kernel
theorem dX8_readBound_48 : decode cX8_readBound 48 = .ok (.istore 4, 2) := by decide +kernel
theorem dX8_readBound_50 : decode cX8_readBound 50 = .ok (.aload_n 0, 1) := by decide +kernel
theorem dX8_readBound_51 : decode cX8_readBound 51 = .ok (.invokevirtual 100, 3) := by decide +kernel
theorem dX8_readBound_54 : decode cX8_readBound 54 = .ok (.istore 5, 2) := by decide +kernel
theorem dX8_readBound_56 : decode cX8_readBound 56 = .ok (.aload_n 0, 1) := by decide +kernel
theorem dX8_readBound_57 : decode cX8_readBound 57 = .ok (.getfield 58, 3) := by decide +kernel
theorem dX8_readBound_60 : decode cX8_readBound 60 = .ok (.ifCond .ne 35, 3) := by decide +kernel
theorem dX8_readBound_63 : decode cX8_readBound 63 = .ok (.iload_n 1, 1) := by decide +kernel
theorem dX8_readBound_64 : decode cX8_readBound 64 = .ok (.iconst 3, 1) := by decide +kernel
theorem dX8_readBound_65 : decode cX8_readBound 65 = .ok (.if_icmp .eq 30, 3) := by decide +kernel
theorem dX8_readBound_68 : decode cX8_readBound 68 = .ok (.iload_n 1, 1) := by decide +kernel
theorem dX8_readBound_69 : decode cX8_readBound 69 = .ok (.iconst 4, 1) := by decide +kernel
theorem dX8_readBound_70 : decode cX8_readBound 70 = .ok (.if_icmp .eq 25, 3) := by decide +kernel
theorem dX8_readBound_73 : decode cX8_readBound 73 = .ok (.aload_n 0, 1) := by decide +kernel
theorem dX8_readBound_74 : decode cX8_readBound 74 = .ok (.sipush 321, 3) := by decide +kernel
theorem dX8_readBound_77 : decode cX8_readBound 77 = .ok (.iload_n 3, 1) := by decide +kernel
theorem dX8_readBound_78 : decode cX8_readBound 78 = .ok (.iload 4, 2) := by decide +kernel
theorem dX8_readBound_80 : decode cX8_readBound 80 = .ok (.iload 5, 2) := by decide +kernel
theorem dX8_readBound_82 : decode cX8_readBound 82 = .ok (.iload_n 1, 1) := by decide +kernel
theorem dX8_readBound_83 : decode cX8_readBound 83 = .ok (.iconst 2, 1) := by decide +kernel
theorem dX8_readBound_84 : decode cX8_readBound 84 = .ok (.if_icmp .ne 7, 3) := by decide +kernel
theorem dX8_readBound_87 : decode cX8_readBound 87 = .ok (.iconst 1, 1) := by decide +kernel
theorem dX8_readBound_88 : decode cX8_readBound 88 = .ok (.goto 4, 3) := by decide +kernel
theorem dX8_readBound_91 : decode cX8_readBound 91 = .ok (.iconst 0, 1) := by decide +kernel
theorem dX8_readBound_92 : decode cX8_readBound 92 = .ok (.invokevirtual 104, 3) := by decide +kernel
theorem dX8_readBound_95 : decode cX8_readBound 95 = .ok (.aload_n 0, 1) := by decide +kernel
theorem dX8_readBound_96 : decode cX8_readBound 96 = .ok (.getfield 58, 3) := by decide +kernel
theorem dX8_readBound_99 : decode cX8_readBound 99 = .ok (.ifCond .ne 40, 3) := by decide +kernel
theorem dX8_readBound_102 : decode cX8_readBound 102 = .ok (.iload_n 1, 1) := by decide +kernel
theorem dX8_readBound_103 : decode cX8_readBound 103 = .ok (.i2l, 1) := by decide +kernel
theorem dX8_readBound_104 : decode cX8_readBound 104 = .ok (.ldc2_w 108, 3) := by decide +kernel
theorem dX8_readBound_107 : decode cX8_readBound 107 = .ok (.ldc2_w 110, 3) := by decide +kernel
theorem dX8_readBound_110 : decode cX8_readBound 110 = .ok (.invokestatic 50, 3) := by decide +kernel
theorem dX8_readBound_113 : decode cX8_readBound 113 = .ok (.ifCond .eq 26, 3) := by decide +kernel
theorem dX8_readBound_116 : decode cX8_readBound 116 = .ok (.aload_n 0, 1) := by decide +kernel
theorem dX8_readBound_117 : decode cX8_readBound 117 = .ok (.sipush 321, 3) := by decide +kernel
theorem dX8_readBound_120 : decode cX8_readBound 120 = .ok (.iload 4, 2) := by decide +kernel
theorem dX8_readBound_122 : decode cX8_readBound 122 = .ok (.iload_n 3, 1) := by decide +kernel
theorem dX8_readBound_123 : decode cX8_readBound 123 = .ok (.iload 5, 2) := by decide +kernel
theorem dX8_readBound_125 : decode cX8_readBound 125 = .ok (.ineg, 1) := by decide +kernel
theorem dX8_readBound_126 : decode cX8_readBound 126 = .ok (.iload_n 1, 1) := by decide +kernel
theorem dX8_readBound_127 : decode cX8_readBound 127 = .ok (.iconst 4, 1) := by decide +kernel
theorem dX8_readBound_128 : decode cX8_readBound 128 = .ok (.if_icmp .ne 7, 3) := by decide +kernel
theorem dX8_readBound_131 : decode cX8_readBound 131 = .ok (.iconst 1, 1) := by decide +kernel
theorem dX8_readBound_132 : decode cX8_readBound 132 = .ok (.goto 4, 3) := by decide +kernel
theorem dX8_readBound_135 : decode cX8_readBound 135 = .ok (.iconst 0, 1) := by decide +kernel
theorem dX8_readBound_136 : decode cX8_readBound 136 = .ok (.invokevirtual 104, 3) := by decide +kernel
theorem dX8_readBound_139 : decode cX8_readBound 139 = .ok (.return_, 1) := by decide +kernel
set_option maxRecDepth 20000 in
theorem ggX8_readLine_X8_nameHere : GoodIn wsX8_readLine wsX8_nameHere := goodIn_r _ [9, 4, 10, 11, 12, 13, 14, 15, 16, 8, 17, 18, 19, 56, 57, 58, 59, 60, 61, 62, 63, 64, 65, 66, 67, 68, 69, 70, 71, 72, 73, 74, 75, 76, 77, 78] (by decide +kernel) (by decide +kernel)
set_option maxRecDepth 20000 in
theorem gX8_readLine_X8_nameHere : GoodIn wsX8_readLine (wsV RX8 112 RX8 yX8_nameHere wsX8_nameHere) := goodIn_app (goodIn_of _ (by decide +kernel)) ggX8_readLine_X8_nameHere
set_option maxRecDepth 20000 in
theorem ggX8_readLine_X8_fails : GoodIn wsX8_readLine wsX8_fails := goodIn_r _ [23, 3, 11, 24, 56, 57, 58, 59, 60, 61, 62, 63, 64, 65, 66, 67, 68, 69, 70, 71, 72, 73, 74, 75, 76, 77, 78] (by decide +kernel) (by decide +kernel)
set_option maxRecDepth 20000 in
theorem gX8_readLine_X8_fails : GoodIn wsX8_readLine (wsV RX8 88 RX8 yX8_fails wsX8_fails) := goodIn_app (goodIn_of _ (by decide +kernel)) ggX8_readLine_X8_fails
set_option maxRecDepth 20000 in
theorem ggX8_readLine_X8_readsOn : GoodIn wsX8_readLine wsX8_readsOn := goodIn_r _ [28, 3, 10, 11, 29, 4, 30, 31, 32, 33, 14, 15, 16, 8, 17, 18, 19, 34, 35, 36, 20, 21, 22, 23, 24, 56, 57, 58, 59, 60, 61, 62, 63, 64, 65, 66, 67, 68, 69, 70, 71, 72, 73, 74, 75, 76, 77, 78] (by decide +kernel) (by decide +kernel)
set_option maxRecDepth 20000 in
theorem gX8_readLine_X8_readsOn : GoodIn wsX8_readLine (wsV RX8 94 RX8 yX8_readsOn wsX8_readsOn) := goodIn_app (goodIn_of _ (by decide +kernel)) ggX8_readLine_X8_readsOn
set_option maxRecDepth 20000 in
theorem ggX8_readLine_X8_readBound : GoodIn wsX8_readLine wsX8_readBound := goodIn_r _ [40, 2, 3, 41, 42, 20, 21, 22, 8, 23, 11, 24, 25, 26, 27, 28, 10, 29, 4, 30, 31, 32, 33, 14, 15, 16, 17, 18, 19, 34, 35, 36, 43, 44, 45, 46, 47, 48, 49, 50, 51, 52, 53, 54, 55, 56, 57, 58, 59, 60, 61, 62, 63, 64, 65, 66, 67, 68, 69, 70, 71, 72, 73, 74, 75, 76, 77, 78] (by decide +kernel) (by decide +kernel)
set_option maxRecDepth 20000 in
theorem gX8_readLine_X8_readBound : GoodIn wsX8_readLine (wsV RX8 119 RX8 yX8_readBound wsX8_readBound) := goodIn_app (goodIn_of _ (by decide +kernel)) ggX8_readLine_X8_readBound
theorem dX8_readLine_0 : decode cX8_readLine 0 = .ok (.aload_n 0, 1) := by decide +kernel
theorem dX8_readLine_1 : decode cX8_readLine 1 = .ok (.invokevirtual 112, 3) := by decide +kernel
theorem dX8_readLine_4 : decode cX8_readLine 4 = .ok (.istore_n 1, 1) := by decide +kernel
theorem dX8_readLine_5 : decode cX8_readLine 5 = .ok (.iload_n 1, 1) := by decide +kernel
theorem dX8_readLine_6 : decode cX8_readLine 6 = .ok (.bipush (-4), 2) := by decide +kernel
theorem dX8_readLine_8 : decode cX8_readLine 8 = .ok (.if_icmp .ne 11, 3) := by decide +kernel
theorem dX8_readLine_11 : decode cX8_readLine 11 = .ok (.aload_n 0, 1) := by decide +kernel
theorem dX8_readLine_12 : decode cX8_readLine 12 = .ok (.iconst 2, 1) := by decide +kernel
theorem dX8_readLine_13 : decode cX8_readLine 13 = .ok (.invokevirtual 88, 3) := by decide +kernel
theorem dX8_readLine_16 : decode cX8_readLine 16 = .ok (.goto 45, 3) := by decide +kernel
theorem dX8_readLine_19 : decode cX8_readLine 19 = .ok (.iload_n 1, 1) := by decide +kernel
theorem dX8_readLine_20 : decode cX8_readLine 20 = .ok (.ifCond .ne 36, 3) := by decide +kernel
theorem dX8_readLine_23 : decode cX8_readLine 23 = .ok (.aload_n 0, 1) := by decide +kernel
theorem dX8_readLine_24 : decode cX8_readLine 24 = .ok (.getfield 115, 3) := by decide +kernel
theorem dX8_readLine_27 : decode cX8_readLine 27 = .ok (.ifCond .eq 8, 3) := by decide +kernel
theorem dX8_readLine_30 : decode cX8_readLine 30 = .ok (.aload_n 0, 1) := by decide +kernel
theorem dX8_readLine_31 : decode cX8_readLine 31 = .ok (.iconst 4, 1) := by decide +kernel
theorem dX8_readLine_32 : decode cX8_readLine 32 = .ok (.invokevirtual 88, 3) := by decide +kernel
theorem dX8_readLine_35 : decode cX8_readLine 35 = .ok (.aload_n 0, 1) := by decide +kernel
theorem dX8_readLine_36 : decode cX8_readLine 36 = .ok (.iconst 1, 1) := by decide +kernel
theorem dX8_readLine_37 : decode cX8_readLine 37 = .ok (.putfield 115, 3) := by decide +kernel
theorem dX8_readLine_40 : decode cX8_readLine 40 = .ok (.aload_n 0, 1) := by decide +kernel
theorem dX8_readLine_41 : decode cX8_readLine 41 = .ok (.getfield 7, 3) := by decide +kernel
theorem dX8_readLine_44 : decode cX8_readLine 44 = .ok (.sipush 426, 3) := by decide +kernel
theorem dX8_readLine_47 : decode cX8_readLine 47 = .ok (.iconst 1, 1) := by decide +kernel
theorem dX8_readLine_48 : decode cX8_readLine 48 = .ok (.iastore, 1) := by decide +kernel
theorem dX8_readLine_49 : decode cX8_readLine 49 = .ok (.aload_n 0, 1) := by decide +kernel
theorem dX8_readLine_50 : decode cX8_readLine 50 = .ok (.invokevirtual 94, 3) := by decide +kernel
theorem dX8_readLine_53 : decode cX8_readLine 53 = .ok (.goto 8, 3) := by decide +kernel
theorem dX8_readLine_56 : decode cX8_readLine 56 = .ok (.aload_n 0, 1) := by decide +kernel
theorem dX8_readLine_57 : decode cX8_readLine 57 = .ok (.iload_n 1, 1) := by decide +kernel
theorem dX8_readLine_58 : decode cX8_readLine 58 = .ok (.invokevirtual 119, 3) := by decide +kernel
theorem dX8_readLine_61 : decode cX8_readLine 61 = .ok (.aload_n 0, 1) := by decide +kernel
theorem dX8_readLine_62 : decode cX8_readLine 62 = .ok (.getfield 58, 3) := by decide +kernel
theorem dX8_readLine_65 : decode cX8_readLine 65 = .ok (.ifCond .ne 16, 3) := by decide +kernel
theorem dX8_readLine_68 : decode cX8_readLine 68 = .ok (.aload_n 0, 1) := by decide +kernel
theorem dX8_readLine_69 : decode cX8_readLine 69 = .ok (.getfield 67, 3) := by decide +kernel
theorem dX8_readLine_72 : decode cX8_readLine 72 = .ok (.iconst 3, 1) := by decide +kernel
theorem dX8_readLine_73 : decode cX8_readLine 73 = .ok (.if_icmp .eq 8, 3) := by decide +kernel
theorem dX8_readLine_76 : decode cX8_readLine 76 = .ok (.aload_n 0, 1) := by decide +kernel
theorem dX8_readLine_77 : decode cX8_readLine 77 = .ok (.iconst 2, 1) := by decide +kernel
theorem dX8_readLine_78 : decode cX8_readLine 78 = .ok (.invokevirtual 88, 3) := by decide +kernel
theorem dX8_readLine_81 : decode cX8_readLine 81 = .ok (.aload_n 0, 1) := by decide +kernel
theorem dX8_readLine_82 : decode cX8_readLine 82 = .ok (.invokevirtual 94, 3) := by decide +kernel
theorem dX8_readLine_85 : decode cX8_readLine 85 = .ok (.return_, 1) := by decide +kernel
set_option maxRecDepth 20000 in
theorem ggX8_text_X8_readsOn : GoodIn wsX8_text wsX8_readsOn := goodIn_r _ [15, 1, 2, 16, 17, 5, 18, 19, 20, 21, 22, 23, 24, 14, 25, 6, 26, 27, 28, 29, 30, 31, 32, 33, 8, 85, 86, 87, 88, 89, 90, 91, 92, 93, 94, 95, 96, 97, 98, 99, 100, 101, 102, 103, 104, 105, 106, 107] (by decide +kernel) (by decide +kernel)
set_option maxRecDepth 20000 in
theorem gX8_text_X8_readsOn : GoodIn wsX8_text (wsV RX8 94 RX8 yX8_readsOn wsX8_readsOn) := goodIn_app (goodIn_of _ (by decide +kernel)) ggX8_text_X8_readsOn
set_option maxRecDepth 20000 in
theorem ggX8_text_X8_readLine : GoodIn wsX8_text wsX8_readLine := goodIn_r _ [37, 3, 4, 1, 5, 38, 39, 40, 14, 41, 2, 16, 42, 43, 22, 23, 24, 25, 6, 26, 30, 31, 32, 33, 8, 11, 12, 13, 15, 17, 18, 19, 20, 21, 27, 28, 29, 44, 45, 46, 47, 48, 49, 50, 51, 52, 53, 54, 55, 56, 57, 58, 59, 60, 61, 62, 85, 86, 87, 88, 89, 90, 91, 92, 93, 94, 95, 96, 97, 98, 99, 100, 101, 102, 103, 104, 105, 106, 107] (by decide +kernel) (by decide +kernel)
set_option maxRecDepth 20000 in
theorem gX8_text_X8_readLine : GoodIn wsX8_text (wsV RX8 122 RX8 yX8_readLine wsX8_readLine) := goodIn_app (goodIn_of _ (by decide +kernel)) ggX8_text_X8_readLine
set_option maxRecDepth 20000 in
theorem ggX8_text_X8_isHolding : GoodIn wsX8_text wsX8_isHolding := goodIn_r _ [66, 67, 68, 69, 70, 14, 71, 72, 4, 73, 74, 75, 76, 77, 78, 79, 80, 85, 86, 87, 88, 89, 90, 91, 92, 93, 94, 95, 96, 97, 98, 99, 100, 101, 102, 103, 104, 105, 106, 107] (by decide +kernel) (by decide +kernel)
set_option maxRecDepth 20000 in
theorem gX8_text_X8_isHolding : GoodIn wsX8_text (wsV RX8 125 RX8 yX8_isHolding wsX8_isHolding) := goodIn_app (goodIn_of _ (by decide +kernel)) ggX8_text_X8_isHolding
set_option maxRecDepth 20000 in
theorem ggX8_text_X8_fails : GoodIn wsX8_text wsX8_fails := goodIn_r _ [33, 1, 16, 8, 85, 86, 87, 88, 89, 90, 91, 92, 93, 94, 95, 96, 97, 98, 99, 100, 101, 102, 103, 104, 105, 106, 107] (by decide +kernel) (by decide +kernel)
set_option maxRecDepth 20000 in
theorem gX8_text_X8_fails : GoodIn wsX8_text (wsV RX8 88 RX8 yX8_fails wsX8_fails) := goodIn_app (goodIn_of _ (by decide +kernel)) ggX8_text_X8_fails
set_option maxRecDepth 20000 in
theorem ggX8_text_X8_copies : GoodIn wsX8_text wsX8_copies := goodIn_r _ [84, 4, 85, 86, 87, 88, 89, 90, 91, 92, 93, 94, 95, 96, 97, 98, 99, 100, 101, 102, 103, 104, 105, 106, 107] (by decide +kernel) (by decide +kernel)
set_option maxRecDepth 20000 in
theorem gX8_text_X8_copies : GoodIn wsX8_text (wsV RX8 132 RX8 yX8_copies wsX8_copies) := goodIn_app (goodIn_of _ (by decide +kernel)) ggX8_text_X8_copies
theorem dX8_text_0 : decode cX8_text 0 = .ok (.aload_n 0, 1) := by decide +kernel
theorem dX8_text_1 : decode cX8_text 1 = .ok (.iconst 0, 1) := by decide +kernel
theorem dX8_text_2 : decode cX8_text 2 = .ok (.putfield 58, 3) := by decide +kernel
theorem dX8_text_5 : decode cX8_text 5 = .ok (.aload_n 0, 1) := by decide +kernel
theorem dX8_text_6 : decode cX8_text 6 = .ok (.iconst 0, 1) := by decide +kernel
theorem dX8_text_7 : decode cX8_text 7 = .ok (.putfield 70, 3) := by decide +kernel
theorem dX8_text_10 : decode cX8_text 10 = .ok (.aload_n 0, 1) := by decide +kernel
theorem dX8_text_11 : decode cX8_text 11 = .ok (.iconst 0, 1) := by decide +kernel
theorem dX8_text_12 : decode cX8_text 12 = .ok (.putfield 115, 3) := by decide +kernel
theorem dX8_text_15 : decode cX8_text 15 = .ok (.iconst 0, 1) := by decide +kernel
theorem dX8_text_16 : decode cX8_text 16 = .ok (.istore_n 1, 1) := by decide +kernel
theorem dX8_text_17 : decode cX8_text 17 = .ok (.iconst 0, 1) := by decide +kernel
theorem dX8_text_18 : decode cX8_text 18 = .ok (.istore_n 2, 1) := by decide +kernel
theorem dX8_text_19 : decode cX8_text 19 = .ok (.iload_n 2, 1) := by decide +kernel
theorem dX8_text_20 : decode cX8_text 20 = .ok (.bipush 107, 2) := by decide +kernel
theorem dX8_text_22 : decode cX8_text 22 = .ok (.if_icmp .ge 20, 3) := by decide +kernel
theorem dX8_text_25 : decode cX8_text 25 = .ok (.aload_n 0, 1) := by decide +kernel
theorem dX8_text_26 : decode cX8_text 26 = .ok (.getfield 7, 3) := by decide +kernel
theorem dX8_text_29 : decode cX8_text 29 = .ok (.sipush 321, 3) := by decide +kernel
theorem dX8_text_32 : decode cX8_text 32 = .ok (.iload_n 2, 1) := by decide +kernel
theorem dX8_text_33 : decode cX8_text 33 = .ok (.iadd, 1) := by decide +kernel
theorem dX8_text_34 : decode cX8_text 34 = .ok (.iconst 0, 1) := by decide +kernel
theorem dX8_text_35 : decode cX8_text 35 = .ok (.iastore, 1) := by decide +kernel
theorem dX8_text_36 : decode cX8_text 36 = .ok (.iinc 2 1, 3) := by decide +kernel
theorem dX8_text_39 : decode cX8_text 39 = .ok (.goto (-20), 3) := by decide +kernel
theorem dX8_text_42 : decode cX8_text 42 = .ok (.aload_n 0, 1) := by decide +kernel
theorem dX8_text_43 : decode cX8_text 43 = .ok (.invokevirtual 94, 3) := by decide +kernel
theorem dX8_text_46 : decode cX8_text 46 = .ok (.aload_n 0, 1) := by decide +kernel
theorem dX8_text_47 : decode cX8_text 47 = .ok (.getfield 58, 3) := by decide +kernel
theorem dX8_text_50 : decode cX8_text 50 = .ok (.ifCond .ne 20, 3) := by decide +kernel
theorem dX8_text_53 : decode cX8_text 53 = .ok (.aload_n 0, 1) := by decide +kernel
theorem dX8_text_54 : decode cX8_text 54 = .ok (.getfield 67, 3) := by decide +kernel
theorem dX8_text_57 : decode cX8_text 57 = .ok (.ifCond .eq 13, 3) := by decide +kernel
theorem dX8_text_60 : decode cX8_text 60 = .ok (.aload_n 0, 1) := by decide +kernel
theorem dX8_text_61 : decode cX8_text 61 = .ok (.invokevirtual 122, 3) := by decide +kernel
theorem dX8_text_64 : decode cX8_text 64 = .ok (.iinc 1 1, 3) := by decide +kernel
theorem dX8_text_67 : decode cX8_text 67 = .ok (.goto (-21), 3) := by decide +kernel
theorem dX8_text_70 : decode cX8_text 70 = .ok (.aload_n 0, 1) := by decide +kernel
theorem dX8_text_71 : decode cX8_text 71 = .ok (.getfield 58, 3) := by decide +kernel
theorem dX8_text_74 : decode cX8_text 74 = .ok (.ifCond .ne 19, 3) := by decide +kernel
theorem dX8_text_77 : decode cX8_text 77 = .ok (.aload_n 0, 1) := by decide +kernel
theorem dX8_text_78 : decode cX8_text 78 = .ok (.sipush 321, 3) := by decide +kernel
theorem dX8_text_81 : decode cX8_text 81 = .ok (.invokevirtual 125, 3) := by decide +kernel
theorem dX8_text_84 : decode cX8_text 84 = .ok (.ifCond .ne 9, 3) := by decide +kernel
theorem dX8_text_87 : decode cX8_text 87 = .ok (.aload_n 0, 1) := by decide +kernel
theorem dX8_text_88 : decode cX8_text 88 = .ok (.bipush 6, 2) := by decide +kernel
theorem dX8_text_90 : decode cX8_text 90 = .ok (.invokevirtual 88, 3) := by decide +kernel
theorem dX8_text_93 : decode cX8_text 93 = .ok (.aload_n 0, 1) := by decide +kernel
theorem dX8_text_94 : decode cX8_text 94 = .ok (.iconst 0, 1) := by decide +kernel
theorem dX8_text_95 : decode cX8_text 95 = .ok (.putfield 54, 3) := by decide +kernel
theorem dX8_text_98 : decode cX8_text 98 = .ok (.aload_n 0, 1) := by decide +kernel
theorem dX8_text_99 : decode cX8_text 99 = .ok (.aload_n 0, 1) := by decide +kernel
theorem dX8_text_100 : decode cX8_text 100 = .ok (.getfield 58, 3) := by decide +kernel
theorem dX8_text_103 : decode cX8_text 103 = .ok (.putfield 129, 3) := by decide +kernel
theorem dX8_text_106 : decode cX8_text 106 = .ok (.aload_n 0, 1) := by decide +kernel
theorem dX8_text_107 : decode cX8_text 107 = .ok (.getfield 58, 3) := by decide +kernel
theorem dX8_text_110 : decode cX8_text 110 = .ok (.ifCond .le 11, 3) := by decide +kernel
theorem dX8_text_113 : decode cX8_text 113 = .ok (.bipush (-10), 2) := by decide +kernel
theorem dX8_text_115 : decode cX8_text 115 = .ok (.aload_n 0, 1) := by decide +kernel
theorem dX8_text_116 : decode cX8_text 116 = .ok (.getfield 64, 3) := by decide +kernel
theorem dX8_text_119 : decode cX8_text 119 = .ok (.isub, 1) := by decide +kernel
theorem dX8_text_120 : decode cX8_text 120 = .ok (.ireturn, 1) := by decide +kernel
theorem dX8_text_121 : decode cX8_text 121 = .ok (.aload_n 0, 1) := by decide +kernel
theorem dX8_text_122 : decode cX8_text 122 = .ok (.sipush 321, 3) := by decide +kernel
theorem dX8_text_125 : decode cX8_text 125 = .ok (.iconst 0, 1) := by decide +kernel
theorem dX8_text_126 : decode cX8_text 126 = .ok (.invokevirtual 132, 3) := by decide +kernel
theorem dX8_text_129 : decode cX8_text 129 = .ok (.aload_n 0, 1) := by decide +kernel
theorem dX8_text_130 : decode cX8_text 130 = .ok (.iconst 0, 1) := by decide +kernel
theorem dX8_text_131 : decode cX8_text 131 = .ok (.putfield 136, 3) := by decide +kernel
theorem dX8_text_134 : decode cX8_text 134 = .ok (.aload_n 0, 1) := by decide +kernel
theorem dX8_text_135 : decode cX8_text 135 = .ok (.getfield 35, 3) := by decide +kernel
theorem dX8_text_138 : decode cX8_text 138 = .ok (.iconst 0, 1) := by decide +kernel
theorem dX8_text_139 : decode cX8_text 139 = .ok (.iconst 0, 1) := by decide +kernel
theorem dX8_text_140 : decode cX8_text 140 = .ok (.bastore, 1) := by decide +kernel
theorem dX8_text_141 : decode cX8_text 141 = .ok (.aload_n 0, 1) := by decide +kernel
theorem dX8_text_142 : decode cX8_text 142 = .ok (.getfield 35, 3) := by decide +kernel
theorem dX8_text_145 : decode cX8_text 145 = .ok (.iconst 1, 1) := by decide +kernel
theorem dX8_text_146 : decode cX8_text 146 = .ok (.iconst 0, 1) := by decide +kernel
theorem dX8_text_147 : decode cX8_text 147 = .ok (.bastore, 1) := by decide +kernel
theorem dX8_text_148 : decode cX8_text 148 = .ok (.iload_n 1, 1) := by decide +kernel
theorem dX8_text_149 : decode cX8_text 149 = .ok (.ireturn, 1) := by decide +kernel
theorem dX8_fault_0 : decode cX8_fault 0 = .ok (.aload_n 0, 1) := by decide +kernel
theorem dX8_fault_1 : decode cX8_fault 1 = .ok (.getfield 129, 3) := by decide +kernel
theorem dX8_fault_4 : decode cX8_fault 4 = .ok (.ireturn, 1) := by decide +kernel
theorem dX8_copies_0 : decode cX8_copies 0 = .ok (.iconst 0, 1) := by decide +kernel
theorem dX8_copies_1 : decode cX8_copies 1 = .ok (.istore_n 3, 1) := by decide +kernel
theorem dX8_copies_2 : decode cX8_copies 2 = .ok (.iload_n 3, 1) := by decide +kernel
theorem dX8_copies_3 : decode cX8_copies 3 = .ok (.bipush 107, 2) := by decide +kernel
theorem dX8_copies_5 : decode cX8_copies 5 = .ok (.if_icmp .ge 25, 3) := by decide +kernel
theorem dX8_copies_8 : decode cX8_copies 8 = .ok (.aload_n 0, 1) := by decide +kernel
theorem dX8_copies_9 : decode cX8_copies 9 = .ok (.getfield 7, 3) := by decide +kernel
theorem dX8_copies_12 : decode cX8_copies 12 = .ok (.iload_n 2, 1) := by decide +kernel
theorem dX8_copies_13 : decode cX8_copies 13 = .ok (.iload_n 3, 1) := by decide +kernel
theorem dX8_copies_14 : decode cX8_copies 14 = .ok (.iadd, 1) := by decide +kernel
theorem dX8_copies_15 : decode cX8_copies 15 = .ok (.aload_n 0, 1) := by decide +kernel
theorem dX8_copies_16 : decode cX8_copies 16 = .ok (.getfield 7, 3) := by decide +kernel
theorem dX8_copies_19 : decode cX8_copies 19 = .ok (.iload_n 1, 1) := by decide +kernel
theorem dX8_copies_20 : decode cX8_copies 20 = .ok (.iload_n 3, 1) := by decide +kernel
theorem dX8_copies_21 : decode cX8_copies 21 = .ok (.iadd, 1) := by decide +kernel
theorem dX8_copies_22 : decode cX8_copies 22 = .ok (.iaload, 1) := by decide +kernel
theorem dX8_copies_23 : decode cX8_copies 23 = .ok (.iastore, 1) := by decide +kernel
theorem dX8_copies_24 : decode cX8_copies 24 = .ok (.iinc 3 1, 3) := by decide +kernel
theorem dX8_copies_27 : decode cX8_copies 27 = .ok (.goto (-25), 3) := by decide +kernel
theorem dX8_copies_30 : decode cX8_copies 30 = .ok (.return_, 1) := by decide +kernel
theorem dX8_weighed_0 : decode cX8_weighed 0 = .ok (.iload_n 0, 1) := by decide +kernel
theorem dX8_weighed_1 : decode cX8_weighed 1 = .ok (.ifCond .eq 15, 3) := by decide +kernel
theorem dX8_weighed_4 : decode cX8_weighed 4 = .ok (.ldc2_w 139, 3) := by decide +kernel
theorem dX8_weighed_7 : decode cX8_weighed 7 = .ok (.iload_n 1, 1) := by decide +kernel
theorem dX8_weighed_8 : decode cX8_weighed 8 = .ok (.i2l, 1) := by decide +kernel
theorem dX8_weighed_9 : decode cX8_weighed 9 = .ok (.lmul, 1) := by decide +kernel
theorem dX8_weighed_10 : decode cX8_weighed 10 = .ok (.iload_n 2, 1) := by decide +kernel
theorem dX8_weighed_11 : decode cX8_weighed 11 = .ok (.i2l, 1) := by decide +kernel
theorem dX8_weighed_12 : decode cX8_weighed 12 = .ok (.lsub, 1) := by decide +kernel
theorem dX8_weighed_13 : decode cX8_weighed 13 = .ok (.goto 12, 3) := by decide +kernel
theorem dX8_weighed_16 : decode cX8_weighed 16 = .ok (.ldc2_w 139, 3) := by decide +kernel
theorem dX8_weighed_19 : decode cX8_weighed 19 = .ok (.iload_n 1, 1) := by decide +kernel
theorem dX8_weighed_20 : decode cX8_weighed 20 = .ok (.i2l, 1) := by decide +kernel
theorem dX8_weighed_21 : decode cX8_weighed 21 = .ok (.iload_n 2, 1) := by decide +kernel
theorem dX8_weighed_22 : decode cX8_weighed 22 = .ok (.i2l, 1) := by decide +kernel
theorem dX8_weighed_23 : decode cX8_weighed 23 = .ok (.lsub, 1) := by decide +kernel
theorem dX8_weighed_24 : decode cX8_weighed 24 = .ok (.lmul, 1) := by decide +kernel
theorem dX8_weighed_25 : decode cX8_weighed 25 = .ok (.lreturn, 1) := by decide +kernel
set_option maxRecDepth 20000 in
theorem ggX8_weightOf_X8_weighed : GoodIn wsX8_weightOf wsX8_weighed := goodIn_r _ [5, 6] (by decide +kernel) (by decide +kernel)
set_option maxRecDepth 20000 in
theorem gX8_weightOf_X8_weighed : GoodIn wsX8_weightOf (va_wsS RX8 141 yX8_weighed wsX8_weighed) := goodIn_app (goodIn_of _ (by decide +kernel)) ggX8_weightOf_X8_weighed
theorem dX8_weightOf_0 : decode cX8_weightOf 0 = .ok (.aload_n 0, 1) := by decide +kernel
theorem dX8_weightOf_1 : decode cX8_weightOf 1 = .ok (.getfield 7, 3) := by decide +kernel
theorem dX8_weightOf_4 : decode cX8_weightOf 4 = .ok (.iload_n 1, 1) := by decide +kernel
theorem dX8_weightOf_5 : decode cX8_weightOf 5 = .ok (.bipush 105, 2) := by decide +kernel
theorem dX8_weightOf_7 : decode cX8_weightOf 7 = .ok (.iadd, 1) := by decide +kernel
theorem dX8_weightOf_8 : decode cX8_weightOf 8 = .ok (.iaload, 1) := by decide +kernel
theorem dX8_weightOf_9 : decode cX8_weightOf 9 = .ok (.iconst 1, 1) := by decide +kernel
theorem dX8_weightOf_10 : decode cX8_weightOf 10 = .ok (.if_icmp .ne 7, 3) := by decide +kernel
theorem dX8_weightOf_13 : decode cX8_weightOf 13 = .ok (.iconst 1, 1) := by decide +kernel
theorem dX8_weightOf_14 : decode cX8_weightOf 14 = .ok (.goto 4, 3) := by decide +kernel
theorem dX8_weightOf_17 : decode cX8_weightOf 17 = .ok (.iconst 0, 1) := by decide +kernel
theorem dX8_weightOf_18 : decode cX8_weightOf 18 = .ok (.aload_n 0, 1) := by decide +kernel
theorem dX8_weightOf_19 : decode cX8_weightOf 19 = .ok (.getfield 7, 3) := by decide +kernel
theorem dX8_weightOf_22 : decode cX8_weightOf 22 = .ok (.iload_n 1, 1) := by decide +kernel
theorem dX8_weightOf_23 : decode cX8_weightOf 23 = .ok (.bipush 48, 2) := by decide +kernel
theorem dX8_weightOf_25 : decode cX8_weightOf 25 = .ok (.iadd, 1) := by decide +kernel
theorem dX8_weightOf_26 : decode cX8_weightOf 26 = .ok (.iload_n 2, 1) := by decide +kernel
theorem dX8_weightOf_27 : decode cX8_weightOf 27 = .ok (.iadd, 1) := by decide +kernel
theorem dX8_weightOf_28 : decode cX8_weightOf 28 = .ok (.iaload, 1) := by decide +kernel
theorem dX8_weightOf_29 : decode cX8_weightOf 29 = .ok (.aload_n 0, 1) := by decide +kernel
theorem dX8_weightOf_30 : decode cX8_weightOf 30 = .ok (.getfield 7, 3) := by decide +kernel
theorem dX8_weightOf_33 : decode cX8_weightOf 33 = .ok (.iload_n 1, 1) := by decide +kernel
theorem dX8_weightOf_34 : decode cX8_weightOf 34 = .ok (.bipush 72, 2) := by decide +kernel
theorem dX8_weightOf_36 : decode cX8_weightOf 36 = .ok (.iadd, 1) := by decide +kernel
theorem dX8_weightOf_37 : decode cX8_weightOf 37 = .ok (.iload_n 2, 1) := by decide +kernel
theorem dX8_weightOf_38 : decode cX8_weightOf 38 = .ok (.iadd, 1) := by decide +kernel
theorem dX8_weightOf_39 : decode cX8_weightOf 39 = .ok (.iaload, 1) := by decide +kernel
theorem dX8_weightOf_40 : decode cX8_weightOf 40 = .ok (.invokestatic 141, 3) := by decide +kernel
theorem dX8_weightOf_43 : decode cX8_weightOf 43 = .ok (.lreturn, 1) := by decide +kernel
theorem dX8_limitOf_0 : decode cX8_limitOf 0 = .ok (.lload_n 0, 1) := by decide +kernel
theorem dX8_limitOf_1 : decode cX8_limitOf 1 = .ok (.ldc2_w 139, 3) := by decide +kernel
theorem dX8_limitOf_4 : decode cX8_limitOf 4 = .ok (.ladd, 1) := by decide +kernel
theorem dX8_limitOf_5 : decode cX8_limitOf 5 = .ok (.lconst 1, 1) := by decide +kernel
theorem dX8_limitOf_6 : decode cX8_limitOf 6 = .ok (.lsub, 1) := by decide +kernel
theorem dX8_limitOf_7 : decode cX8_limitOf 7 = .ok (.lstore_n 2, 1) := by decide +kernel
theorem dX8_limitOf_8 : decode cX8_limitOf 8 = .ok (.lload_n 2, 1) := by decide +kernel
theorem dX8_limitOf_9 : decode cX8_limitOf 9 = .ok (.lconst 0, 1) := by decide +kernel
theorem dX8_limitOf_10 : decode cX8_limitOf 10 = .ok (.lcmp, 1) := by decide +kernel
theorem dX8_limitOf_11 : decode cX8_limitOf 11 = .ok (.ifCond .lt 11, 3) := by decide +kernel
theorem dX8_limitOf_14 : decode cX8_limitOf 14 = .ok (.lload_n 2, 1) := by decide +kernel
theorem dX8_limitOf_15 : decode cX8_limitOf 15 = .ok (.ldc2_w 139, 3) := by decide +kernel
theorem dX8_limitOf_18 : decode cX8_limitOf 18 = .ok (.ldiv, 1) := by decide +kernel
theorem dX8_limitOf_19 : decode cX8_limitOf 19 = .ok (.goto 13, 3) := by decide +kernel
theorem dX8_limitOf_22 : decode cX8_limitOf 22 = .ok (.ldc2_w 145, 3) := by decide +kernel
theorem dX8_limitOf_25 : decode cX8_limitOf 25 = .ok (.lload_n 2, 1) := by decide +kernel
theorem dX8_limitOf_26 : decode cX8_limitOf 26 = .ok (.lsub, 1) := by decide +kernel
theorem dX8_limitOf_27 : decode cX8_limitOf 27 = .ok (.ldc2_w 139, 3) := by decide +kernel
theorem dX8_limitOf_30 : decode cX8_limitOf 30 = .ok (.ldiv, 1) := by decide +kernel
theorem dX8_limitOf_31 : decode cX8_limitOf 31 = .ok (.lneg, 1) := by decide +kernel
theorem dX8_limitOf_32 : decode cX8_limitOf 32 = .ok (.lreturn, 1) := by decide +kernel
set_option maxRecDepth 20000 in
theorem ggX8_edgesOf_X8_limitOf : GoodIn wsX8_edgesOf wsX8_limitOf := goodIn_r _ [5, 1, 6] (by decide +kernel) (by decide +kernel)
set_option maxRecDepth 20000 in
theorem gX8_edgesOf_X8_limitOf : GoodIn wsX8_edgesOf (va_wsS RX8 147 yX8_limitOf wsX8_limitOf) := goodIn_app (goodIn_of _ (by decide +kernel)) ggX8_edgesOf_X8_limitOf
theorem dX8_edgesOf_0 : decode cX8_edgesOf 0 = .ok (.ldc2_w 139, 3) := by decide +kernel
theorem dX8_edgesOf_3 : decode cX8_edgesOf 3 = .ok (.lload_n 0, 1) := by decide +kernel
theorem dX8_edgesOf_4 : decode cX8_edgesOf 4 = .ok (.invokestatic 147, 3) := by decide +kernel
theorem dX8_edgesOf_7 : decode cX8_edgesOf 7 = .ok (.lmul, 1) := by decide +kernel
theorem dX8_edgesOf_8 : decode cX8_edgesOf 8 = .ok (.lload_n 0, 1) := by decide +kernel
theorem dX8_edgesOf_9 : decode cX8_edgesOf 9 = .ok (.lsub, 1) := by decide +kernel
theorem dX8_edgesOf_10 : decode cX8_edgesOf 10 = .ok (.lreturn, 1) := by decide +kernel
set_option maxRecDepth 20000 in
theorem ggX8_reckons_X8_weightOf : GoodIn wsX8_reckons wsX8_weightOf := goodIn_r _ [8, 3, 9, 10, 7, 11, 12, 13, 14, 15, 16, 17, 18, 19, 20, 21, 22, 23, 24, 25, 26, 27, 28, 29, 30, 31, 32, 33, 34, 35] (by decide +kernel) (by decide +kernel)
set_option maxRecDepth 20000 in
theorem gX8_reckons_X8_weightOf : GoodIn wsX8_reckons (wsV RX8 153 RX8 yX8_weightOf wsX8_weightOf) := goodIn_app (goodIn_of _ (by decide +kernel)) ggX8_reckons_X8_weightOf
theorem dX8_reckons_0 : decode cX8_reckons 0 = .ok (.iconst 0, 1) := by decide +kernel
theorem dX8_reckons_1 : decode cX8_reckons 1 = .ok (.istore_n 3, 1) := by decide +kernel
theorem dX8_reckons_2 : decode cX8_reckons 2 = .ok (.iload_n 3, 1) := by decide +kernel
theorem dX8_reckons_3 : decode cX8_reckons 3 = .ok (.bipush 100, 2) := by decide +kernel
theorem dX8_reckons_5 : decode cX8_reckons 5 = .ok (.if_icmp .ge 29, 3) := by decide +kernel
theorem dX8_reckons_8 : decode cX8_reckons 8 = .ok (.aload_n 0, 1) := by decide +kernel
theorem dX8_reckons_9 : decode cX8_reckons 9 = .ok (.getfield 22, 3) := by decide +kernel
theorem dX8_reckons_12 : decode cX8_reckons 12 = .ok (.iload_n 3, 1) := by decide +kernel
theorem dX8_reckons_13 : decode cX8_reckons 13 = .ok (.iload_n 3, 1) := by decide +kernel
theorem dX8_reckons_14 : decode cX8_reckons 14 = .ok (.bipush 11, 2) := by decide +kernel
theorem dX8_reckons_16 : decode cX8_reckons 16 = .ok (.irem, 1) := by decide +kernel
theorem dX8_reckons_17 : decode cX8_reckons 17 = .ok (.ifCond .ne 7, 3) := by decide +kernel
theorem dX8_reckons_20 : decode cX8_reckons 20 = .ok (.lconst 0, 1) := by decide +kernel
theorem dX8_reckons_21 : decode cX8_reckons 21 = .ok (.goto 6, 3) := by decide +kernel
theorem dX8_reckons_24 : decode cX8_reckons 24 = .ok (.ldc2_w 151, 3) := by decide +kernel
theorem dX8_reckons_27 : decode cX8_reckons 27 = .ok (.lastore, 1) := by decide +kernel
theorem dX8_reckons_28 : decode cX8_reckons 28 = .ok (.iinc 3 1, 3) := by decide +kernel
theorem dX8_reckons_31 : decode cX8_reckons 31 = .ok (.goto (-29), 3) := by decide +kernel
theorem dX8_reckons_34 : decode cX8_reckons 34 = .ok (.iconst 0, 1) := by decide +kernel
theorem dX8_reckons_35 : decode cX8_reckons 35 = .ok (.istore_n 3, 1) := by decide +kernel
theorem dX8_reckons_36 : decode cX8_reckons 36 = .ok (.iload_n 3, 1) := by decide +kernel
theorem dX8_reckons_37 : decode cX8_reckons 37 = .ok (.aload_n 0, 1) := by decide +kernel
theorem dX8_reckons_38 : decode cX8_reckons 38 = .ok (.getfield 7, 3) := by decide +kernel
theorem dX8_reckons_41 : decode cX8_reckons 41 = .ok (.iload_n 1, 1) := by decide +kernel
theorem dX8_reckons_42 : decode cX8_reckons 42 = .ok (.bipush 104, 2) := by decide +kernel
theorem dX8_reckons_44 : decode cX8_reckons 44 = .ok (.iadd, 1) := by decide +kernel
theorem dX8_reckons_45 : decode cX8_reckons 45 = .ok (.iaload, 1) := by decide +kernel
theorem dX8_reckons_46 : decode cX8_reckons 46 = .ok (.if_icmp .ge 79, 3) := by decide +kernel
theorem dX8_reckons_49 : decode cX8_reckons 49 = .ok (.bipush 10, 2) := by decide +kernel
theorem dX8_reckons_51 : decode cX8_reckons 51 = .ok (.aload_n 0, 1) := by decide +kernel
theorem dX8_reckons_52 : decode cX8_reckons 52 = .ok (.getfield 7, 3) := by decide +kernel
theorem dX8_reckons_55 : decode cX8_reckons 55 = .ok (.iload_n 1, 1) := by decide +kernel
theorem dX8_reckons_56 : decode cX8_reckons 56 = .ok (.bipush 24, 2) := by decide +kernel
theorem dX8_reckons_58 : decode cX8_reckons 58 = .ok (.iadd, 1) := by decide +kernel
theorem dX8_reckons_59 : decode cX8_reckons 59 = .ok (.iload_n 3, 1) := by decide +kernel
theorem dX8_reckons_60 : decode cX8_reckons 60 = .ok (.iadd, 1) := by decide +kernel
theorem dX8_reckons_61 : decode cX8_reckons 61 = .ok (.iaload, 1) := by decide +kernel
theorem dX8_reckons_62 : decode cX8_reckons 62 = .ok (.imul, 1) := by decide +kernel
theorem dX8_reckons_63 : decode cX8_reckons 63 = .ok (.aload_n 0, 1) := by decide +kernel
theorem dX8_reckons_64 : decode cX8_reckons 64 = .ok (.getfield 7, 3) := by decide +kernel
theorem dX8_reckons_67 : decode cX8_reckons 67 = .ok (.iload_n 1, 1) := by decide +kernel
theorem dX8_reckons_68 : decode cX8_reckons 68 = .ok (.iload_n 3, 1) := by decide +kernel
theorem dX8_reckons_69 : decode cX8_reckons 69 = .ok (.iadd, 1) := by decide +kernel
theorem dX8_reckons_70 : decode cX8_reckons 70 = .ok (.iaload, 1) := by decide +kernel
theorem dX8_reckons_71 : decode cX8_reckons 71 = .ok (.iadd, 1) := by decide +kernel
theorem dX8_reckons_72 : decode cX8_reckons 72 = .ok (.istore 4, 2) := by decide +kernel
theorem dX8_reckons_74 : decode cX8_reckons 74 = .ok (.aload_n 0, 1) := by decide +kernel
theorem dX8_reckons_75 : decode cX8_reckons 75 = .ok (.iload_n 1, 1) := by decide +kernel
theorem dX8_reckons_76 : decode cX8_reckons 76 = .ok (.iload_n 3, 1) := by decide +kernel
theorem dX8_reckons_77 : decode cX8_reckons 77 = .ok (.invokevirtual 153, 3) := by decide +kernel
theorem dX8_reckons_80 : decode cX8_reckons 80 = .ok (.lstore 5, 2) := by decide +kernel
theorem dX8_reckons_82 : decode cX8_reckons 82 = .ok (.aload_n 0, 1) := by decide +kernel
theorem dX8_reckons_83 : decode cX8_reckons 83 = .ok (.getfield 22, 3) := by decide +kernel
theorem dX8_reckons_86 : decode cX8_reckons 86 = .ok (.iload 4, 2) := by decide +kernel
theorem dX8_reckons_88 : decode cX8_reckons 88 = .ok (.iload_n 3, 1) := by decide +kernel
theorem dX8_reckons_89 : decode cX8_reckons 89 = .ok (.iload_n 2, 1) := by decide +kernel
theorem dX8_reckons_90 : decode cX8_reckons 90 = .ok (.if_icmp .eq 21, 3) := by decide +kernel
theorem dX8_reckons_93 : decode cX8_reckons 93 = .ok (.lload 5, 2) := by decide +kernel
theorem dX8_reckons_95 : decode cX8_reckons 95 = .ok (.aload_n 0, 1) := by decide +kernel
theorem dX8_reckons_96 : decode cX8_reckons 96 = .ok (.getfield 22, 3) := by decide +kernel
theorem dX8_reckons_99 : decode cX8_reckons 99 = .ok (.iload 4, 2) := by decide +kernel
theorem dX8_reckons_101 : decode cX8_reckons 101 = .ok (.laload, 1) := by decide +kernel
theorem dX8_reckons_102 : decode cX8_reckons 102 = .ok (.lcmp, 1) := by decide +kernel
theorem dX8_reckons_103 : decode cX8_reckons 103 = .ok (.ifCond .ge 8, 3) := by decide +kernel
theorem dX8_reckons_106 : decode cX8_reckons 106 = .ok (.lload 5, 2) := by decide +kernel
theorem dX8_reckons_108 : decode cX8_reckons 108 = .ok (.goto 10, 3) := by decide +kernel
theorem dX8_reckons_111 : decode cX8_reckons 111 = .ok (.aload_n 0, 1) := by decide +kernel
theorem dX8_reckons_112 : decode cX8_reckons 112 = .ok (.getfield 22, 3) := by decide +kernel
theorem dX8_reckons_115 : decode cX8_reckons 115 = .ok (.iload 4, 2) := by decide +kernel
theorem dX8_reckons_117 : decode cX8_reckons 117 = .ok (.laload, 1) := by decide +kernel
theorem dX8_reckons_118 : decode cX8_reckons 118 = .ok (.lastore, 1) := by decide +kernel
theorem dX8_reckons_119 : decode cX8_reckons 119 = .ok (.iinc 3 1, 3) := by decide +kernel
theorem dX8_reckons_122 : decode cX8_reckons 122 = .ok (.goto (-86), 3) := by decide +kernel
theorem dX8_reckons_125 : decode cX8_reckons 125 = .ok (.iconst 0, 1) := by decide +kernel
theorem dX8_reckons_126 : decode cX8_reckons 126 = .ok (.istore_n 3, 1) := by decide +kernel
theorem dX8_reckons_127 : decode cX8_reckons 127 = .ok (.iload_n 3, 1) := by decide +kernel
theorem dX8_reckons_128 : decode cX8_reckons 128 = .ok (.bipush 10, 2) := by decide +kernel
theorem dX8_reckons_130 : decode cX8_reckons 130 = .ok (.if_icmp .ge 105, 3) := by decide +kernel
theorem dX8_reckons_133 : decode cX8_reckons 133 = .ok (.iconst 0, 1) := by decide +kernel
theorem dX8_reckons_134 : decode cX8_reckons 134 = .ok (.istore 4, 2) := by decide +kernel
theorem dX8_reckons_136 : decode cX8_reckons 136 = .ok (.iload 4, 2) := by decide +kernel
theorem dX8_reckons_138 : decode cX8_reckons 138 = .ok (.bipush 100, 2) := by decide +kernel
theorem dX8_reckons_140 : decode cX8_reckons 140 = .ok (.if_icmp .ge 89, 3) := by decide +kernel
theorem dX8_reckons_143 : decode cX8_reckons 143 = .ok (.aload_n 0, 1) := by decide +kernel
theorem dX8_reckons_144 : decode cX8_reckons 144 = .ok (.getfield 22, 3) := by decide +kernel
theorem dX8_reckons_147 : decode cX8_reckons 147 = .ok (.iload 4, 2) := by decide +kernel
theorem dX8_reckons_149 : decode cX8_reckons 149 = .ok (.bipush 10, 2) := by decide +kernel
theorem dX8_reckons_151 : decode cX8_reckons 151 = .ok (.idiv, 1) := by decide +kernel
theorem dX8_reckons_152 : decode cX8_reckons 152 = .ok (.bipush 10, 2) := by decide +kernel
theorem dX8_reckons_154 : decode cX8_reckons 154 = .ok (.imul, 1) := by decide +kernel
theorem dX8_reckons_155 : decode cX8_reckons 155 = .ok (.iload_n 3, 1) := by decide +kernel
theorem dX8_reckons_156 : decode cX8_reckons 156 = .ok (.iadd, 1) := by decide +kernel
theorem dX8_reckons_157 : decode cX8_reckons 157 = .ok (.laload, 1) := by decide +kernel
theorem dX8_reckons_158 : decode cX8_reckons 158 = .ok (.lstore 5, 2) := by decide +kernel
theorem dX8_reckons_160 : decode cX8_reckons 160 = .ok (.aload_n 0, 1) := by decide +kernel
theorem dX8_reckons_161 : decode cX8_reckons 161 = .ok (.getfield 22, 3) := by decide +kernel
theorem dX8_reckons_164 : decode cX8_reckons 164 = .ok (.bipush 10, 2) := by decide +kernel
theorem dX8_reckons_166 : decode cX8_reckons 166 = .ok (.iload_n 3, 1) := by decide +kernel
theorem dX8_reckons_167 : decode cX8_reckons 167 = .ok (.imul, 1) := by decide +kernel
theorem dX8_reckons_168 : decode cX8_reckons 168 = .ok (.iload 4, 2) := by decide +kernel
theorem dX8_reckons_170 : decode cX8_reckons 170 = .ok (.bipush 10, 2) := by decide +kernel
theorem dX8_reckons_172 : decode cX8_reckons 172 = .ok (.irem, 1) := by decide +kernel
theorem dX8_reckons_173 : decode cX8_reckons 173 = .ok (.iadd, 1) := by decide +kernel
theorem dX8_reckons_174 : decode cX8_reckons 174 = .ok (.laload, 1) := by decide +kernel
theorem dX8_reckons_175 : decode cX8_reckons 175 = .ok (.lstore 7, 2) := by decide +kernel
theorem dX8_reckons_177 : decode cX8_reckons 177 = .ok (.lload 5, 2) := by decide +kernel
theorem dX8_reckons_179 : decode cX8_reckons 179 = .ok (.ldc2_w 151, 3) := by decide +kernel
theorem dX8_reckons_182 : decode cX8_reckons 182 = .ok (.lcmp, 1) := by decide +kernel
theorem dX8_reckons_183 : decode cX8_reckons 183 = .ok (.ifCond .ge 40, 3) := by decide +kernel
theorem dX8_reckons_186 : decode cX8_reckons 186 = .ok (.lload 7, 2) := by decide +kernel
theorem dX8_reckons_188 : decode cX8_reckons 188 = .ok (.ldc2_w 151, 3) := by decide +kernel
theorem dX8_reckons_191 : decode cX8_reckons 191 = .ok (.lcmp, 1) := by decide +kernel
theorem dX8_reckons_192 : decode cX8_reckons 192 = .ok (.ifCond .ge 31, 3) := by decide +kernel
theorem dX8_reckons_195 : decode cX8_reckons 195 = .ok (.lload 5, 2) := by decide +kernel
theorem dX8_reckons_197 : decode cX8_reckons 197 = .ok (.lload 7, 2) := by decide +kernel
theorem dX8_reckons_199 : decode cX8_reckons 199 = .ok (.ladd, 1) := by decide +kernel
theorem dX8_reckons_200 : decode cX8_reckons 200 = .ok (.aload_n 0, 1) := by decide +kernel
theorem dX8_reckons_201 : decode cX8_reckons 201 = .ok (.getfield 22, 3) := by decide +kernel
theorem dX8_reckons_204 : decode cX8_reckons 204 = .ok (.iload 4, 2) := by decide +kernel
theorem dX8_reckons_206 : decode cX8_reckons 206 = .ok (.laload, 1) := by decide +kernel
theorem dX8_reckons_207 : decode cX8_reckons 207 = .ok (.lcmp, 1) := by decide +kernel
theorem dX8_reckons_208 : decode cX8_reckons 208 = .ok (.ifCond .ge 15, 3) := by decide +kernel
theorem dX8_reckons_211 : decode cX8_reckons 211 = .ok (.aload_n 0, 1) := by decide +kernel
theorem dX8_reckons_212 : decode cX8_reckons 212 = .ok (.getfield 22, 3) := by decide +kernel
theorem dX8_reckons_215 : decode cX8_reckons 215 = .ok (.iload 4, 2) := by decide +kernel
theorem dX8_reckons_217 : decode cX8_reckons 217 = .ok (.lload 5, 2) := by decide +kernel
theorem dX8_reckons_219 : decode cX8_reckons 219 = .ok (.lload 7, 2) := by decide +kernel
theorem dX8_reckons_221 : decode cX8_reckons 221 = .ok (.ladd, 1) := by decide +kernel
theorem dX8_reckons_222 : decode cX8_reckons 222 = .ok (.lastore, 1) := by decide +kernel
theorem dX8_reckons_223 : decode cX8_reckons 223 = .ok (.iinc 4 1, 3) := by decide +kernel
theorem dX8_reckons_226 : decode cX8_reckons 226 = .ok (.goto (-90), 3) := by decide +kernel
theorem dX8_reckons_229 : decode cX8_reckons 229 = .ok (.iinc 3 1, 3) := by decide +kernel
theorem dX8_reckons_232 : decode cX8_reckons 232 = .ok (.goto (-105), 3) := by decide +kernel
theorem dX8_reckons_235 : decode cX8_reckons 235 = .ok (.return_, 1) := by decide +kernel
set_option maxRecDepth 20000 in
theorem ggX8_isHolding_X8_reckons : GoodIn wsX8_isHolding wsX8_reckons := goodIn_r _ [6, 1, 7, 8, 9, 10, 11, 5, 12, 13, 14, 15, 16, 17, 18, 19, 20, 21, 22, 23, 24, 25, 26, 27, 28, 29, 30, 31, 32, 33, 34, 35, 36, 37, 38, 39] (by decide +kernel) (by decide +kernel)
set_option maxRecDepth 20000 in
theorem gX8_isHolding_X8_reckons : GoodIn wsX8_isHolding (wsV RX8 157 RX8 yX8_reckons wsX8_reckons) := goodIn_app (goodIn_of _ (by decide +kernel)) ggX8_isHolding_X8_reckons
theorem dX8_isHolding_0 : decode cX8_isHolding 0 = .ok (.aload_n 0, 1) := by decide +kernel
theorem dX8_isHolding_1 : decode cX8_isHolding 1 = .ok (.iload_n 1, 1) := by decide +kernel
theorem dX8_isHolding_2 : decode cX8_isHolding 2 = .ok (.bipush (-4), 2) := by decide +kernel
theorem dX8_isHolding_4 : decode cX8_isHolding 4 = .ok (.invokevirtual 157, 3) := by decide +kernel
theorem dX8_isHolding_7 : decode cX8_isHolding 7 = .ok (.iconst 1, 1) := by decide +kernel
theorem dX8_isHolding_8 : decode cX8_isHolding 8 = .ok (.istore_n 2, 1) := by decide +kernel
theorem dX8_isHolding_9 : decode cX8_isHolding 9 = .ok (.iconst 0, 1) := by decide +kernel
theorem dX8_isHolding_10 : decode cX8_isHolding 10 = .ok (.istore_n 3, 1) := by decide +kernel
theorem dX8_isHolding_11 : decode cX8_isHolding 11 = .ok (.iload_n 3, 1) := by decide +kernel
theorem dX8_isHolding_12 : decode cX8_isHolding 12 = .ok (.bipush 10, 2) := by decide +kernel
theorem dX8_isHolding_14 : decode cX8_isHolding 14 = .ok (.if_icmp .ge 33, 3) := by decide +kernel
theorem dX8_isHolding_17 : decode cX8_isHolding 17 = .ok (.iload_n 2, 1) := by decide +kernel
theorem dX8_isHolding_18 : decode cX8_isHolding 18 = .ok (.ifCond .eq 21, 3) := by decide +kernel
theorem dX8_isHolding_21 : decode cX8_isHolding 21 = .ok (.aload_n 0, 1) := by decide +kernel
theorem dX8_isHolding_22 : decode cX8_isHolding 22 = .ok (.getfield 22, 3) := by decide +kernel
theorem dX8_isHolding_25 : decode cX8_isHolding 25 = .ok (.bipush 11, 2) := by decide +kernel
theorem dX8_isHolding_27 : decode cX8_isHolding 27 = .ok (.iload_n 3, 1) := by decide +kernel
theorem dX8_isHolding_28 : decode cX8_isHolding 28 = .ok (.imul, 1) := by decide +kernel
theorem dX8_isHolding_29 : decode cX8_isHolding 29 = .ok (.laload, 1) := by decide +kernel
theorem dX8_isHolding_30 : decode cX8_isHolding 30 = .ok (.lconst 0, 1) := by decide +kernel
theorem dX8_isHolding_31 : decode cX8_isHolding 31 = .ok (.lcmp, 1) := by decide +kernel
theorem dX8_isHolding_32 : decode cX8_isHolding 32 = .ok (.ifCond .lt 7, 3) := by decide +kernel
theorem dX8_isHolding_35 : decode cX8_isHolding 35 = .ok (.iconst 1, 1) := by decide +kernel
theorem dX8_isHolding_36 : decode cX8_isHolding 36 = .ok (.goto 4, 3) := by decide +kernel
theorem dX8_isHolding_39 : decode cX8_isHolding 39 = .ok (.iconst 0, 1) := by decide +kernel
theorem dX8_isHolding_40 : decode cX8_isHolding 40 = .ok (.istore_n 2, 1) := by decide +kernel
theorem dX8_isHolding_41 : decode cX8_isHolding 41 = .ok (.iinc 3 1, 3) := by decide +kernel
theorem dX8_isHolding_44 : decode cX8_isHolding 44 = .ok (.goto (-33), 3) := by decide +kernel
theorem dX8_isHolding_47 : decode cX8_isHolding 47 = .ok (.iload_n 2, 1) := by decide +kernel
theorem dX8_isHolding_48 : decode cX8_isHolding 48 = .ok (.ireturn, 1) := by decide +kernel
theorem dX8_many_0 : decode cX8_many 0 = .ok (.aload_n 0, 1) := by decide +kernel
theorem dX8_many_1 : decode cX8_many 1 = .ok (.getfield 7, 3) := by decide +kernel
theorem dX8_many_4 : decode cX8_many 4 = .ok (.bipush 104, 2) := by decide +kernel
theorem dX8_many_6 : decode cX8_many 6 = .ok (.iaload, 1) := by decide +kernel
theorem dX8_many_7 : decode cX8_many 7 = .ok (.ireturn, 1) := by decide +kernel
theorem dX8_isReal_0 : decode cX8_isReal 0 = .ok (.aload_n 0, 1) := by decide +kernel
theorem dX8_isReal_1 : decode cX8_isReal 1 = .ok (.getfield 7, 3) := by decide +kernel
theorem dX8_isReal_4 : decode cX8_isReal 4 = .ok (.bipush 105, 2) := by decide +kernel
theorem dX8_isReal_6 : decode cX8_isReal 6 = .ok (.iaload, 1) := by decide +kernel
theorem dX8_isReal_7 : decode cX8_isReal 7 = .ok (.iconst 1, 1) := by decide +kernel
theorem dX8_isReal_8 : decode cX8_isReal 8 = .ok (.if_icmp .ne 7, 3) := by decide +kernel
theorem dX8_isReal_11 : decode cX8_isReal 11 = .ok (.iconst 1, 1) := by decide +kernel
theorem dX8_isReal_12 : decode cX8_isReal 12 = .ok (.goto 4, 3) := by decide +kernel
theorem dX8_isReal_15 : decode cX8_isReal 15 = .ok (.iconst 0, 1) := by decide +kernel
theorem dX8_isReal_16 : decode cX8_isReal 16 = .ok (.ireturn, 1) := by decide +kernel
set_option maxRecDepth 20000 in
theorem ggX8_isBound_X8_many : GoodIn wsX8_isBound wsX8_many := goodIn_r _ [5, 6, 10, 11, 12, 13, 14, 15, 16, 17, 18, 19, 20, 21, 22, 23, 24, 25, 26, 27, 28, 29, 30, 31, 32] (by decide +kernel) (by decide +kernel)
set_option maxRecDepth 20000 in
theorem gX8_isBound_X8_many : GoodIn wsX8_isBound (wsV RX8 160 RX8 yX8_many wsX8_many) := goodIn_app (goodIn_of _ (by decide +kernel)) ggX8_isBound_X8_many
set_option maxRecDepth 20000 in
theorem ggX8_isBound_X8_in : GoodIn wsX8_isBound wsX8_in := goodIn_r _ [9] (by decide +kernel) (by decide +kernel)
set_option maxRecDepth 20000 in
theorem gX8_isBound_X8_in : GoodIn wsX8_isBound (va_wsS RX8 50 yX8_in wsX8_in) := goodIn_app (goodIn_of _ (by decide +kernel)) ggX8_isBound_X8_in
theorem dX8_isBound_0 : decode cX8_isBound 0 = .ok (.iload_n 1, 1) := by decide +kernel
theorem dX8_isBound_1 : decode cX8_isBound 1 = .ok (.i2l, 1) := by decide +kernel
theorem dX8_isBound_2 : decode cX8_isBound 2 = .ok (.lconst 0, 1) := by decide +kernel
theorem dX8_isBound_3 : decode cX8_isBound 3 = .ok (.aload_n 0, 1) := by decide +kernel
theorem dX8_isBound_4 : decode cX8_isBound 4 = .ok (.invokevirtual 160, 3) := by decide +kernel
theorem dX8_isBound_7 : decode cX8_isBound 7 = .ok (.iconst 1, 1) := by decide +kernel
theorem dX8_isBound_8 : decode cX8_isBound 8 = .ok (.isub, 1) := by decide +kernel
theorem dX8_isBound_9 : decode cX8_isBound 9 = .ok (.i2l, 1) := by decide +kernel
theorem dX8_isBound_10 : decode cX8_isBound 10 = .ok (.invokestatic 50, 3) := by decide +kernel
theorem dX8_isBound_13 : decode cX8_isBound 13 = .ok (.ireturn, 1) := by decide +kernel
set_option maxRecDepth 20000 in
theorem ggX8_isThing_X8_in : GoodIn wsX8_isThing wsX8_in := goodIn_r _ [5] (by decide +kernel) (by decide +kernel)
set_option maxRecDepth 20000 in
theorem gX8_isThing_X8_in : GoodIn wsX8_isThing (va_wsS RX8 50 yX8_in wsX8_in) := goodIn_app (goodIn_of _ (by decide +kernel)) ggX8_isThing_X8_in
theorem dX8_isThing_0 : decode cX8_isThing 0 = .ok (.iload_n 0, 1) := by decide +kernel
theorem dX8_isThing_1 : decode cX8_isThing 1 = .ok (.i2l, 1) := by decide +kernel
theorem dX8_isThing_2 : decode cX8_isThing 2 = .ok (.lconst 0, 1) := by decide +kernel
theorem dX8_isThing_3 : decode cX8_isThing 3 = .ok (.ldc2_w 163, 3) := by decide +kernel
theorem dX8_isThing_6 : decode cX8_isThing 6 = .ok (.invokestatic 50, 3) := by decide +kernel
theorem dX8_isThing_9 : decode cX8_isThing 9 = .ok (.ireturn, 1) := by decide +kernel
set_option maxRecDepth 20000 in
theorem ggX8_isPair_X8_isThing : GoodIn wsX8_isPair wsX8_isThing := goodIn_r _ [4, 5, 6, 7, 3, 8] (by decide +kernel) (by decide +kernel)
set_option maxRecDepth 20000 in
theorem gX8_isPair_X8_isThing : GoodIn wsX8_isPair (va_wsS RX8 165 yX8_isThing wsX8_isThing) := goodIn_app (goodIn_of _ (by decide +kernel)) ggX8_isPair_X8_isThing
theorem dX8_isPair_0 : decode cX8_isPair 0 = .ok (.iload_n 0, 1) := by decide +kernel
theorem dX8_isPair_1 : decode cX8_isPair 1 = .ok (.invokestatic 165, 3) := by decide +kernel
theorem dX8_isPair_4 : decode cX8_isPair 4 = .ok (.ifCond .eq 19, 3) := by decide +kernel
theorem dX8_isPair_7 : decode cX8_isPair 7 = .ok (.iload_n 1, 1) := by decide +kernel
theorem dX8_isPair_8 : decode cX8_isPair 8 = .ok (.invokestatic 165, 3) := by decide +kernel
theorem dX8_isPair_11 : decode cX8_isPair 11 = .ok (.ifCond .eq 12, 3) := by decide +kernel
theorem dX8_isPair_14 : decode cX8_isPair 14 = .ok (.iload_n 0, 1) := by decide +kernel
theorem dX8_isPair_15 : decode cX8_isPair 15 = .ok (.iload_n 1, 1) := by decide +kernel
theorem dX8_isPair_16 : decode cX8_isPair 16 = .ok (.if_icmp .eq 7, 3) := by decide +kernel
theorem dX8_isPair_19 : decode cX8_isPair 19 = .ok (.iconst 1, 1) := by decide +kernel
theorem dX8_isPair_20 : decode cX8_isPair 20 = .ok (.goto 4, 3) := by decide +kernel
theorem dX8_isPair_23 : decode cX8_isPair 23 = .ok (.iconst 0, 1) := by decide +kernel
theorem dX8_isPair_24 : decode cX8_isPair 24 = .ok (.ireturn, 1) := by decide +kernel
set_option maxRecDepth 20000 in
theorem ggX8_isNeedless_X8_reckons : GoodIn wsX8_isNeedless wsX8_reckons := goodIn_r _ [7, 1, 8, 2, 9, 10, 11, 6, 12, 13, 14, 15, 16, 17, 18, 19, 20, 21, 22, 23, 24, 25, 26, 27, 28, 29, 30, 31, 32, 33, 34, 35, 36, 37, 38, 39] (by decide +kernel) (by decide +kernel)
set_option maxRecDepth 20000 in
theorem gX8_isNeedless_X8_reckons : GoodIn wsX8_isNeedless (wsV RX8 157 RX8 yX8_reckons wsX8_reckons) := goodIn_app (goodIn_of _ (by decide +kernel)) ggX8_isNeedless_X8_reckons
set_option maxRecDepth 20000 in
theorem ggX8_isNeedless_X8_weightOf : GoodIn wsX8_isNeedless wsX8_weightOf := goodIn_r _ [12, 2, 13, 14, 6, 15, 16, 17, 18, 19, 20, 21, 22, 23, 24, 25, 26, 27, 28, 29, 30, 31, 32, 33, 34, 35, 36, 37, 38, 39] (by decide +kernel) (by decide +kernel)
set_option maxRecDepth 20000 in
theorem gX8_isNeedless_X8_weightOf : GoodIn wsX8_isNeedless (wsV RX8 153 RX8 yX8_weightOf wsX8_weightOf) := goodIn_app (goodIn_of _ (by decide +kernel)) ggX8_isNeedless_X8_weightOf
theorem dX8_isNeedless_0 : decode cX8_isNeedless 0 = .ok (.aload_n 0, 1) := by decide +kernel
theorem dX8_isNeedless_1 : decode cX8_isNeedless 1 = .ok (.iconst 0, 1) := by decide +kernel
theorem dX8_isNeedless_2 : decode cX8_isNeedless 2 = .ok (.iload_n 1, 1) := by decide +kernel
theorem dX8_isNeedless_3 : decode cX8_isNeedless 3 = .ok (.invokevirtual 157, 3) := by decide +kernel
theorem dX8_isNeedless_6 : decode cX8_isNeedless 6 = .ok (.aload_n 0, 1) := by decide +kernel
theorem dX8_isNeedless_7 : decode cX8_isNeedless 7 = .ok (.getfield 22, 3) := by decide +kernel
theorem dX8_isNeedless_10 : decode cX8_isNeedless 10 = .ok (.bipush 10, 2) := by decide +kernel
theorem dX8_isNeedless_12 : decode cX8_isNeedless 12 = .ok (.aload_n 0, 1) := by decide +kernel
theorem dX8_isNeedless_13 : decode cX8_isNeedless 13 = .ok (.getfield 7, 3) := by decide +kernel
theorem dX8_isNeedless_16 : decode cX8_isNeedless 16 = .ok (.bipush 24, 2) := by decide +kernel
theorem dX8_isNeedless_18 : decode cX8_isNeedless 18 = .ok (.iload_n 1, 1) := by decide +kernel
theorem dX8_isNeedless_19 : decode cX8_isNeedless 19 = .ok (.iadd, 1) := by decide +kernel
theorem dX8_isNeedless_20 : decode cX8_isNeedless 20 = .ok (.iaload, 1) := by decide +kernel
theorem dX8_isNeedless_21 : decode cX8_isNeedless 21 = .ok (.imul, 1) := by decide +kernel
theorem dX8_isNeedless_22 : decode cX8_isNeedless 22 = .ok (.aload_n 0, 1) := by decide +kernel
