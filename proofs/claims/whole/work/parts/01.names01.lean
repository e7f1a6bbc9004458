theorem dX0_init_0 : decode cX0_init 0 = .ok (.aload_n 0, 1) := by decide +kernel
theorem dX0_init_1 : decode cX0_init 1 = .ok (.invokespecial 3, 3) := by decide +kernel
theorem dX0_init_4 : decode cX0_init 4 = .ok (.aload_n 0, 1) := by decide +kernel
theorem dX0_init_5 : decode cX0_init 5 = .ok (.bipush 10, 2) := by decide +kernel
theorem dX0_init_7 : decode cX0_init 7 = .ok (.newarray .int, 2) := by decide +kernel
theorem dX0_init_9 : decode cX0_init 9 = .ok (.putfield 9, 3) := by decide +kernel
theorem dX0_init_12 : decode cX0_init 12 = .ok (.aload_n 0, 1) := by decide +kernel
theorem dX0_init_13 : decode cX0_init 13 = .ok (.bipush 10, 2) := by decide +kernel
theorem dX0_init_15 : decode cX0_init 15 = .ok (.bipush 10, 2) := by decide +kernel
theorem dX0_init_17 : decode cX0_init 17 = .ok (.multianewarray 15 2, 4) := by decide +kernel
theorem dX0_init_21 : decode cX0_init 21 = .ok (.putfield 17, 3) := by decide +kernel
theorem dX0_init_24 : decode cX0_init 24 = .ok (.return_, 1) := by decide +kernel
set_option maxRecDepth 20000 in
theorem ggX0_find_J7_fill_d0a16 : GoodIn wsX0_find wsJ7_fill_d0a16 := goodIn_r _ [7] (by decide +kernel) (by decide +kernel)
set_option maxRecDepth 20000 in
theorem gX0_find_J7_fill_d0a16 : GoodIn wsX0_find (va_wsS RX0 26 yJ7_fill_d0a16 wsJ7_fill_d0a16) := goodIn_app (goodIn_of _ (by decide +kernel)) ggX0_find_J7_fill_d0a16
set_option maxRecDepth 20000 in
theorem ggX0_find_X0_lengthen : GoodIn wsX0_find wsX0_lengthen := goodIn_r _ [12, 2, 3, 13, 14, 15, 16, 17, 18, 19, 4, 5, 6, 7, 20, 21, 22, 23, 24, 25, 26, 27, 28, 29, 30, 31, 41, 42, 43, 44, 45, 46, 47, 48, 49, 50, 51] (by decide +kernel) (by decide +kernel)
set_option maxRecDepth 20000 in
theorem gX0_find_X0_lengthen : GoodIn wsX0_find (wsV RX0 32 RX0 yX0_lengthen wsX0_lengthen) := goodIn_app (goodIn_of _ (by decide +kernel)) ggX0_find_X0_lengthen
set_option maxRecDepth 20000 in
theorem ggX0_find_X0_trace : GoodIn wsX0_find wsX0_trace := goodIn_r _ [35, 36, 1, 14, 37, 38, 39, 11, 40, 13, 2, 15, 3, 20, 21, 22, 23, 24, 25, 26, 27, 28, 29, 30, 31, 41, 42, 43, 44, 45, 46, 47, 48, 49, 50, 51] (by decide +kernel) (by decide +kernel)
set_option maxRecDepth 20000 in
theorem gX0_find_X0_trace : GoodIn wsX0_find (wsV RX0 36 RX0 yX0_trace wsX0_trace) := goodIn_app (goodIn_of _ (by decide +kernel)) ggX0_find_X0_trace
theorem dX0_find_0 : decode cX0_find 0 = .ok (.aload_n 0, 1) := by decide +kernel
theorem dX0_find_1 : decode cX0_find 1 = .ok (.iconst 0, 1) := by decide +kernel
theorem dX0_find_2 : decode cX0_find 2 = .ok (.putfield 20, 3) := by decide +kernel
theorem dX0_find_5 : decode cX0_find 5 = .ok (.aload_n 0, 1) := by decide +kernel
theorem dX0_find_6 : decode cX0_find 6 = .ok (.getfield 17, 3) := by decide +kernel
theorem dX0_find_9 : decode cX0_find 9 = .ok (.iconst 0, 1) := by decide +kernel
theorem dX0_find_10 : decode cX0_find 10 = .ok (.aaload, 1) := by decide +kernel
theorem dX0_find_11 : decode cX0_find 11 = .ok (.ldc2_w 24, 3) := by decide +kernel
theorem dX0_find_14 : decode cX0_find 14 = .ok (.invokestatic 26, 3) := by decide +kernel
theorem dX0_find_17 : decode cX0_find 17 = .ok (.aload_n 0, 1) := by decide +kernel
theorem dX0_find_18 : decode cX0_find 18 = .ok (.getfield 17, 3) := by decide +kernel
theorem dX0_find_21 : decode cX0_find 21 = .ok (.iconst 0, 1) := by decide +kernel
theorem dX0_find_22 : decode cX0_find 22 = .ok (.aaload, 1) := by decide +kernel
theorem dX0_find_23 : decode cX0_find 23 = .ok (.iload_n 3, 1) := by decide +kernel
theorem dX0_find_24 : decode cX0_find 24 = .ok (.lconst 0, 1) := by decide +kernel
theorem dX0_find_25 : decode cX0_find 25 = .ok (.lastore, 1) := by decide +kernel
theorem dX0_find_26 : decode cX0_find 26 = .ok (.iconst 1, 1) := by decide +kernel
theorem dX0_find_27 : decode cX0_find 27 = .ok (.istore 7, 2) := by decide +kernel
theorem dX0_find_29 : decode cX0_find 29 = .ok (.iload 7, 2) := by decide +kernel
theorem dX0_find_31 : decode cX0_find 31 = .ok (.bipush 10, 2) := by decide +kernel
theorem dX0_find_33 : decode cX0_find 33 = .ok (.if_icmp .ge 64, 3) := by decide +kernel
theorem dX0_find_36 : decode cX0_find 36 = .ok (.aload_n 0, 1) := by decide +kernel
theorem dX0_find_37 : decode cX0_find 37 = .ok (.aload_n 1, 1) := by decide +kernel
theorem dX0_find_38 : decode cX0_find 38 = .ok (.iload 7, 2) := by decide +kernel
theorem dX0_find_40 : decode cX0_find 40 = .ok (.iload 6, 2) := by decide +kernel
theorem dX0_find_42 : decode cX0_find 42 = .ok (.invokevirtual 32, 3) := by decide +kernel
theorem dX0_find_45 : decode cX0_find 45 = .ok (.aload_n 0, 1) := by decide +kernel
theorem dX0_find_46 : decode cX0_find 46 = .ok (.getfield 17, 3) := by decide +kernel
theorem dX0_find_49 : decode cX0_find 49 = .ok (.iload 7, 2) := by decide +kernel
theorem dX0_find_51 : decode cX0_find 51 = .ok (.aaload, 1) := by decide +kernel
theorem dX0_find_52 : decode cX0_find 52 = .ok (.iload_n 2, 1) := by decide +kernel
theorem dX0_find_53 : decode cX0_find 53 = .ok (.laload, 1) := by decide +kernel
theorem dX0_find_54 : decode cX0_find 54 = .ok (.ldc2_w 24, 3) := by decide +kernel
theorem dX0_find_57 : decode cX0_find 57 = .ok (.lcmp, 1) := by decide +kernel
theorem dX0_find_58 : decode cX0_find 58 = .ok (.ifCond .eq 33, 3) := by decide +kernel
theorem dX0_find_61 : decode cX0_find 61 = .ok (.aload_n 0, 1) := by decide +kernel
theorem dX0_find_62 : decode cX0_find 62 = .ok (.getfield 17, 3) := by decide +kernel
theorem dX0_find_65 : decode cX0_find 65 = .ok (.iload 7, 2) := by decide +kernel
theorem dX0_find_67 : decode cX0_find 67 = .ok (.aaload, 1) := by decide +kernel
theorem dX0_find_68 : decode cX0_find 68 = .ok (.iload_n 2, 1) := by decide +kernel
theorem dX0_find_69 : decode cX0_find 69 = .ok (.laload, 1) := by decide +kernel
theorem dX0_find_70 : decode cX0_find 70 = .ok (.lload 4, 2) := by decide +kernel
theorem dX0_find_72 : decode cX0_find 72 = .ok (.ladd, 1) := by decide +kernel
theorem dX0_find_73 : decode cX0_find 73 = .ok (.lconst 0, 1) := by decide +kernel
theorem dX0_find_74 : decode cX0_find 74 = .ok (.lcmp, 1) := by decide +kernel
theorem dX0_find_75 : decode cX0_find 75 = .ok (.ifCond .ge 16, 3) := by decide +kernel
theorem dX0_find_78 : decode cX0_find 78 = .ok (.aload_n 0, 1) := by decide +kernel
theorem dX0_find_79 : decode cX0_find 79 = .ok (.aload_n 1, 1) := by decide +kernel
theorem dX0_find_80 : decode cX0_find 80 = .ok (.iload_n 2, 1) := by decide +kernel
theorem dX0_find_81 : decode cX0_find 81 = .ok (.lload 4, 2) := by decide +kernel
theorem dX0_find_83 : decode cX0_find 83 = .ok (.iload 7, 2) := by decide +kernel
theorem dX0_find_85 : decode cX0_find 85 = .ok (.iload 6, 2) := by decide +kernel
theorem dX0_find_87 : decode cX0_find 87 = .ok (.invokevirtual 36, 3) := by decide +kernel
theorem dX0_find_90 : decode cX0_find 90 = .ok (.return_, 1) := by decide +kernel
theorem dX0_find_91 : decode cX0_find 91 = .ok (.iinc 7 1, 3) := by decide +kernel
theorem dX0_find_94 : decode cX0_find 94 = .ok (.goto (-65), 3) := by decide +kernel
theorem dX0_find_97 : decode cX0_find 97 = .ok (.return_, 1) := by decide +kernel
set_option maxRecDepth 20000 in
theorem ggX0_lengthen_J7_fill_d0a16 : GoodIn wsX0_lengthen wsJ7_fill_d0a16 := goodIn_r _ [13] (by decide +kernel) (by decide +kernel)
set_option maxRecDepth 20000 in
theorem gX0_lengthen_J7_fill_d0a16 : GoodIn wsX0_lengthen (va_wsS RX0 26 yJ7_fill_d0a16 wsJ7_fill_d0a16) := goodIn_app (goodIn_of _ (by decide +kernel)) ggX0_lengthen_J7_fill_d0a16
set_option maxRecDepth 20000 in
theorem ggX0_lengthen_X5_weightOf : GoodIn wsX0_lengthen wsX5_weightOf := goodIn_r _ [18, 19, 20, 21, 22, 23, 24, 25, 29, 30, 31, 32, 33, 34, 35, 36] (by decide +kernel) (by decide +kernel)
set_option maxRecDepth 20000 in
theorem gX0_lengthen_X5_weightOf : GoodIn wsX0_lengthen (wsV RX0 49 RX5 yX5_weightOf wsX5_weightOf) := goodIn_app (goodIn_of _ (by decide +kernel)) ggX0_lengthen_X5_weightOf
theorem dX0_lengthen_0 : decode cX0_lengthen 0 = .ok (.aload_n 0, 1) := by decide +kernel
theorem dX0_lengthen_1 : decode cX0_lengthen 1 = .ok (.getfield 17, 3) := by decide +kernel
theorem dX0_lengthen_4 : decode cX0_lengthen 4 = .ok (.iload_n 2, 1) := by decide +kernel
theorem dX0_lengthen_5 : decode cX0_lengthen 5 = .ok (.iconst 1, 1) := by decide +kernel
theorem dX0_lengthen_6 : decode cX0_lengthen 6 = .ok (.isub, 1) := by decide +kernel
theorem dX0_lengthen_7 : decode cX0_lengthen 7 = .ok (.aaload, 1) := by decide +kernel
theorem dX0_lengthen_8 : decode cX0_lengthen 8 = .ok (.astore 4, 2) := by decide +kernel
theorem dX0_lengthen_10 : decode cX0_lengthen 10 = .ok (.aload_n 0, 1) := by decide +kernel
theorem dX0_lengthen_11 : decode cX0_lengthen 11 = .ok (.getfield 17, 3) := by decide +kernel
theorem dX0_lengthen_14 : decode cX0_lengthen 14 = .ok (.iload_n 2, 1) := by decide +kernel
theorem dX0_lengthen_15 : decode cX0_lengthen 15 = .ok (.aaload, 1) := by decide +kernel
theorem dX0_lengthen_16 : decode cX0_lengthen 16 = .ok (.astore 5, 2) := by decide +kernel
theorem dX0_lengthen_18 : decode cX0_lengthen 18 = .ok (.aload 5, 2) := by decide +kernel
theorem dX0_lengthen_20 : decode cX0_lengthen 20 = .ok (.ldc2_w 24, 3) := by decide +kernel
theorem dX0_lengthen_23 : decode cX0_lengthen 23 = .ok (.invokestatic 26, 3) := by decide +kernel
theorem dX0_lengthen_26 : decode cX0_lengthen 26 = .ok (.iconst 0, 1) := by decide +kernel
theorem dX0_lengthen_27 : decode cX0_lengthen 27 = .ok (.istore 6, 2) := by decide +kernel
theorem dX0_lengthen_29 : decode cX0_lengthen 29 = .ok (.iload 6, 2) := by decide +kernel
theorem dX0_lengthen_31 : decode cX0_lengthen 31 = .ok (.aload_n 1, 1) := by decide +kernel
theorem dX0_lengthen_32 : decode cX0_lengthen 32 = .ok (.getfield 40, 3) := by decide +kernel
theorem dX0_lengthen_35 : decode cX0_lengthen 35 = .ok (.if_icmp .ge 67, 3) := by decide +kernel
theorem dX0_lengthen_38 : decode cX0_lengthen 38 = .ok (.aload 4, 2) := by decide +kernel
theorem dX0_lengthen_40 : decode cX0_lengthen 40 = .ok (.aload_n 1, 1) := by decide +kernel
theorem dX0_lengthen_41 : decode cX0_lengthen 41 = .ok (.getfield 43, 3) := by decide +kernel
theorem dX0_lengthen_44 : decode cX0_lengthen 44 = .ok (.iload 6, 2) := by decide +kernel
theorem dX0_lengthen_46 : decode cX0_lengthen 46 = .ok (.iaload, 1) := by decide +kernel
theorem dX0_lengthen_47 : decode cX0_lengthen 47 = .ok (.laload, 1) := by decide +kernel
theorem dX0_lengthen_48 : decode cX0_lengthen 48 = .ok (.lstore 7, 2) := by decide +kernel
theorem dX0_lengthen_50 : decode cX0_lengthen 50 = .ok (.iload 6, 2) := by decide +kernel
theorem dX0_lengthen_52 : decode cX0_lengthen 52 = .ok (.iload_n 3, 1) := by decide +kernel
theorem dX0_lengthen_53 : decode cX0_lengthen 53 = .ok (.if_icmp .eq 43, 3) := by decide +kernel
theorem dX0_lengthen_56 : decode cX0_lengthen 56 = .ok (.lload 7, 2) := by decide +kernel
theorem dX0_lengthen_58 : decode cX0_lengthen 58 = .ok (.ldc2_w 24, 3) := by decide +kernel
theorem dX0_lengthen_61 : decode cX0_lengthen 61 = .ok (.lcmp, 1) := by decide +kernel
theorem dX0_lengthen_62 : decode cX0_lengthen 62 = .ok (.ifCond .eq 34, 3) := by decide +kernel
theorem dX0_lengthen_65 : decode cX0_lengthen 65 = .ok (.aload_n 1, 1) := by decide +kernel
theorem dX0_lengthen_66 : decode cX0_lengthen 66 = .ok (.getfield 46, 3) := by decide +kernel
theorem dX0_lengthen_69 : decode cX0_lengthen 69 = .ok (.iload 6, 2) := by decide +kernel
theorem dX0_lengthen_71 : decode cX0_lengthen 71 = .ok (.iaload, 1) := by decide +kernel
theorem dX0_lengthen_72 : decode cX0_lengthen 72 = .ok (.istore 9, 2) := by decide +kernel
theorem dX0_lengthen_74 : decode cX0_lengthen 74 = .ok (.aload 5, 2) := by decide +kernel
theorem dX0_lengthen_76 : decode cX0_lengthen 76 = .ok (.iload 9, 2) := by decide +kernel
theorem dX0_lengthen_78 : decode cX0_lengthen 78 = .ok (.aload 5, 2) := by decide +kernel
theorem dX0_lengthen_80 : decode cX0_lengthen 80 = .ok (.iload 9, 2) := by decide +kernel
theorem dX0_lengthen_82 : decode cX0_lengthen 82 = .ok (.laload, 1) := by decide +kernel
theorem dX0_lengthen_83 : decode cX0_lengthen 83 = .ok (.aload_n 1, 1) := by decide +kernel
theorem dX0_lengthen_84 : decode cX0_lengthen 84 = .ok (.iload 6, 2) := by decide +kernel
theorem dX0_lengthen_86 : decode cX0_lengthen 86 = .ok (.invokevirtual 49, 3) := by decide +kernel
theorem dX0_lengthen_89 : decode cX0_lengthen 89 = .ok (.lload 7, 2) := by decide +kernel
theorem dX0_lengthen_91 : decode cX0_lengthen 91 = .ok (.ladd, 1) := by decide +kernel
theorem dX0_lengthen_92 : decode cX0_lengthen 92 = .ok (.invokestatic 53, 3) := by decide +kernel
theorem dX0_lengthen_95 : decode cX0_lengthen 95 = .ok (.lastore, 1) := by decide +kernel
theorem dX0_lengthen_96 : decode cX0_lengthen 96 = .ok (.iinc 6 1, 3) := by decide +kernel
theorem dX0_lengthen_99 : decode cX0_lengthen 99 = .ok (.goto (-70), 3) := by decide +kernel
theorem dX0_lengthen_102 : decode cX0_lengthen 102 = .ok (.return_, 1) := by decide +kernel
set_option maxRecDepth 20000 in
theorem ggX0_trace_X0_firstStep : GoodIn wsX0_trace wsX0_firstStep := goodIn_r _ [8, 9, 10, 3, 11, 12, 13, 14, 15, 16, 17, 18, 19, 20, 21, 22, 23, 24, 28, 29, 30, 31, 32, 33, 34, 35, 25, 26, 27] (by decide +kernel) (by decide +kernel)
set_option maxRecDepth 20000 in
theorem gX0_trace_X0_firstStep : GoodIn wsX0_trace (wsV RX0 59 RX0 yX0_firstStep wsX0_firstStep) := goodIn_app (goodIn_of _ (by decide +kernel)) ggX0_trace_X0_firstStep
set_option maxRecDepth 20000 in
theorem ggX0_trace_X5_weightOf : GoodIn wsX0_trace wsX5_weightOf := goodIn_r _ [17, 18, 19, 20, 21, 22, 23, 24, 28, 29, 30, 31, 32, 33, 34, 35] (by decide +kernel) (by decide +kernel)
set_option maxRecDepth 20000 in
theorem gX0_trace_X5_weightOf : GoodIn wsX0_trace (wsV RX0 49 RX5 yX5_weightOf wsX5_weightOf) := goodIn_app (goodIn_of _ (by decide +kernel)) ggX0_trace_X5_weightOf
theorem dX0_trace_0 : decode cX0_trace 0 = .ok (.iload_n 2, 1) := by decide +kernel
theorem dX0_trace_1 : decode cX0_trace 1 = .ok (.istore 7, 2) := by decide +kernel
theorem dX0_trace_3 : decode cX0_trace 3 = .ok (.lload_n 3, 1) := by decide +kernel
theorem dX0_trace_4 : decode cX0_trace 4 = .ok (.lstore 8, 2) := by decide +kernel
theorem dX0_trace_6 : decode cX0_trace 6 = .ok (.iload 5, 2) := by decide +kernel
theorem dX0_trace_8 : decode cX0_trace 8 = .ok (.iconst 1, 1) := by decide +kernel
theorem dX0_trace_9 : decode cX0_trace 9 = .ok (.isub, 1) := by decide +kernel
theorem dX0_trace_10 : decode cX0_trace 10 = .ok (.istore 10, 2) := by decide +kernel
theorem dX0_trace_12 : decode cX0_trace 12 = .ok (.iload 10, 2) := by decide +kernel
theorem dX0_trace_14 : decode cX0_trace 14 = .ok (.ifCond .lt 71, 3) := by decide +kernel
theorem dX0_trace_17 : decode cX0_trace 17 = .ok (.aload_n 0, 1) := by decide +kernel
theorem dX0_trace_18 : decode cX0_trace 18 = .ok (.aload_n 1, 1) := by decide +kernel
theorem dX0_trace_19 : decode cX0_trace 19 = .ok (.iload 7, 2) := by decide +kernel
theorem dX0_trace_21 : decode cX0_trace 21 = .ok (.lload 8, 2) := by decide +kernel
theorem dX0_trace_23 : decode cX0_trace 23 = .ok (.iload 10, 2) := by decide +kernel
theorem dX0_trace_25 : decode cX0_trace 25 = .ok (.iload 6, 2) := by decide +kernel
theorem dX0_trace_27 : decode cX0_trace 27 = .ok (.invokevirtual 59, 3) := by decide +kernel
theorem dX0_trace_30 : decode cX0_trace 30 = .ok (.istore 11, 2) := by decide +kernel
theorem dX0_trace_32 : decode cX0_trace 32 = .ok (.iload 11, 2) := by decide +kernel
theorem dX0_trace_34 : decode cX0_trace 34 = .ok (.ifCond .ge 4, 3) := by decide +kernel
theorem dX0_trace_37 : decode cX0_trace 37 = .ok (.return_, 1) := by decide +kernel
theorem dX0_trace_38 : decode cX0_trace 38 = .ok (.aload_n 0, 1) := by decide +kernel
theorem dX0_trace_39 : decode cX0_trace 39 = .ok (.getfield 9, 3) := by decide +kernel
theorem dX0_trace_42 : decode cX0_trace 42 = .ok (.aload_n 0, 1) := by decide +kernel
theorem dX0_trace_43 : decode cX0_trace 43 = .ok (.getfield 20, 3) := by decide +kernel
theorem dX0_trace_46 : decode cX0_trace 46 = .ok (.iload 11, 2) := by decide +kernel
theorem dX0_trace_48 : decode cX0_trace 48 = .ok (.iastore, 1) := by decide +kernel
theorem dX0_trace_49 : decode cX0_trace 49 = .ok (.aload_n 0, 1) := by decide +kernel
theorem dX0_trace_50 : decode cX0_trace 50 = .ok (.dup, 1) := by decide +kernel
theorem dX0_trace_51 : decode cX0_trace 51 = .ok (.getfield 20, 3) := by decide +kernel
theorem dX0_trace_54 : decode cX0_trace 54 = .ok (.iconst 1, 1) := by decide +kernel
theorem dX0_trace_55 : decode cX0_trace 55 = .ok (.iadd, 1) := by decide +kernel
theorem dX0_trace_56 : decode cX0_trace 56 = .ok (.putfield 20, 3) := by decide +kernel
theorem dX0_trace_59 : decode cX0_trace 59 = .ok (.lload 8, 2) := by decide +kernel
theorem dX0_trace_61 : decode cX0_trace 61 = .ok (.aload_n 1, 1) := by decide +kernel
theorem dX0_trace_62 : decode cX0_trace 62 = .ok (.iload 11, 2) := by decide +kernel
theorem dX0_trace_64 : decode cX0_trace 64 = .ok (.invokevirtual 49, 3) := by decide +kernel
theorem dX0_trace_67 : decode cX0_trace 67 = .ok (.ladd, 1) := by decide +kernel
theorem dX0_trace_68 : decode cX0_trace 68 = .ok (.lstore 8, 2) := by decide +kernel
theorem dX0_trace_70 : decode cX0_trace 70 = .ok (.aload_n 1, 1) := by decide +kernel
theorem dX0_trace_71 : decode cX0_trace 71 = .ok (.getfield 43, 3) := by decide +kernel
theorem dX0_trace_74 : decode cX0_trace 74 = .ok (.iload 11, 2) := by decide +kernel
theorem dX0_trace_76 : decode cX0_trace 76 = .ok (.iaload, 1) := by decide +kernel
theorem dX0_trace_77 : decode cX0_trace 77 = .ok (.istore 7, 2) := by decide +kernel
theorem dX0_trace_79 : decode cX0_trace 79 = .ok (.iinc 10 (-1), 3) := by decide +kernel
theorem dX0_trace_82 : decode cX0_trace 82 = .ok (.goto (-70), 3) := by decide +kernel
theorem dX0_trace_85 : decode cX0_trace 85 = .ok (.return_, 1) := by decide +kernel
set_option maxRecDepth 20000 in
theorem ggX0_firstStep_X5_weightOf : GoodIn wsX0_firstStep wsX5_weightOf := goodIn_r _ [10, 11, 12, 13, 14, 15, 16, 17, 18, 19, 20, 21, 22, 23, 24, 25] (by decide +kernel) (by decide +kernel)
set_option maxRecDepth 20000 in
theorem gX0_firstStep_X5_weightOf : GoodIn wsX0_firstStep (wsV RX0 49 RX5 yX5_weightOf wsX5_weightOf) := goodIn_app (goodIn_of _ (by decide +kernel)) ggX0_firstStep_X5_weightOf
theorem dX0_firstStep_0 : decode cX0_firstStep 0 = .ok (.iconst 0, 1) := by decide +kernel
theorem dX0_firstStep_1 : decode cX0_firstStep 1 = .ok (.istore 7, 2) := by decide +kernel
theorem dX0_firstStep_3 : decode cX0_firstStep 3 = .ok (.iload 7, 2) := by decide +kernel
theorem dX0_firstStep_5 : decode cX0_firstStep 5 = .ok (.aload_n 1, 1) := by decide +kernel
theorem dX0_firstStep_6 : decode cX0_firstStep 6 = .ok (.getfield 40, 3) := by decide +kernel
theorem dX0_firstStep_9 : decode cX0_firstStep 9 = .ok (.if_icmp .ge 84, 3) := by decide +kernel
theorem dX0_firstStep_12 : decode cX0_firstStep 12 = .ok (.aload_n 0, 1) := by decide +kernel
theorem dX0_firstStep_13 : decode cX0_firstStep 13 = .ok (.getfield 17, 3) := by decide +kernel
theorem dX0_firstStep_16 : decode cX0_firstStep 16 = .ok (.iload 5, 2) := by decide +kernel
theorem dX0_firstStep_18 : decode cX0_firstStep 18 = .ok (.aaload, 1) := by decide +kernel
theorem dX0_firstStep_19 : decode cX0_firstStep 19 = .ok (.aload_n 1, 1) := by decide +kernel
theorem dX0_firstStep_20 : decode cX0_firstStep 20 = .ok (.getfield 43, 3) := by decide +kernel
theorem dX0_firstStep_23 : decode cX0_firstStep 23 = .ok (.iload 7, 2) := by decide +kernel
theorem dX0_firstStep_25 : decode cX0_firstStep 25 = .ok (.iaload, 1) := by decide +kernel
theorem dX0_firstStep_26 : decode cX0_firstStep 26 = .ok (.laload, 1) := by decide +kernel
theorem dX0_firstStep_27 : decode cX0_firstStep 27 = .ok (.lstore 8, 2) := by decide +kernel
theorem dX0_firstStep_29 : decode cX0_firstStep 29 = .ok (.iload 7, 2) := by decide +kernel
theorem dX0_firstStep_31 : decode cX0_firstStep 31 = .ok (.iload 6, 2) := by decide +kernel
theorem dX0_firstStep_33 : decode cX0_firstStep 33 = .ok (.if_icmp .eq 27, 3) := by decide +kernel
theorem dX0_firstStep_36 : decode cX0_firstStep 36 = .ok (.aload_n 1, 1) := by decide +kernel
theorem dX0_firstStep_37 : decode cX0_firstStep 37 = .ok (.getfield 46, 3) := by decide +kernel
theorem dX0_firstStep_40 : decode cX0_firstStep 40 = .ok (.iload 7, 2) := by decide +kernel
theorem dX0_firstStep_42 : decode cX0_firstStep 42 = .ok (.iaload, 1) := by decide +kernel
theorem dX0_firstStep_43 : decode cX0_firstStep 43 = .ok (.iload_n 2, 1) := by decide +kernel
theorem dX0_firstStep_44 : decode cX0_firstStep 44 = .ok (.if_icmp .ne 16, 3) := by decide +kernel
theorem dX0_firstStep_47 : decode cX0_firstStep 47 = .ok (.lload 8, 2) := by decide +kernel
theorem dX0_firstStep_49 : decode cX0_firstStep 49 = .ok (.ldc2_w 24, 3) := by decide +kernel
theorem dX0_firstStep_52 : decode cX0_firstStep 52 = .ok (.lcmp, 1) := by decide +kernel
theorem dX0_firstStep_53 : decode cX0_firstStep 53 = .ok (.ifCond .eq 7, 3) := by decide +kernel
theorem dX0_firstStep_56 : decode cX0_firstStep 56 = .ok (.iconst 1, 1) := by decide +kernel
theorem dX0_firstStep_57 : decode cX0_firstStep 57 = .ok (.goto 4, 3) := by decide +kernel
theorem dX0_firstStep_60 : decode cX0_firstStep 60 = .ok (.iconst 0, 1) := by decide +kernel
theorem dX0_firstStep_61 : decode cX0_firstStep 61 = .ok (.istore 10, 2) := by decide +kernel
theorem dX0_firstStep_63 : decode cX0_firstStep 63 = .ok (.iload 10, 2) := by decide +kernel
theorem dX0_firstStep_65 : decode cX0_firstStep 65 = .ok (.ifCond .eq 22, 3) := by decide +kernel
theorem dX0_firstStep_68 : decode cX0_firstStep 68 = .ok (.lload_n 3, 1) := by decide +kernel
theorem dX0_firstStep_69 : decode cX0_firstStep 69 = .ok (.aload_n 1, 1) := by decide +kernel
theorem dX0_firstStep_70 : decode cX0_firstStep 70 = .ok (.iload 7, 2) := by decide +kernel
theorem dX0_firstStep_72 : decode cX0_firstStep 72 = .ok (.invokevirtual 49, 3) := by decide +kernel
theorem dX0_firstStep_75 : decode cX0_firstStep 75 = .ok (.ladd, 1) := by decide +kernel
theorem dX0_firstStep_76 : decode cX0_firstStep 76 = .ok (.lload 8, 2) := by decide +kernel
theorem dX0_firstStep_78 : decode cX0_firstStep 78 = .ok (.ladd, 1) := by decide +kernel
theorem dX0_firstStep_79 : decode cX0_firstStep 79 = .ok (.lconst 0, 1) := by decide +kernel
theorem dX0_firstStep_80 : decode cX0_firstStep 80 = .ok (.lcmp, 1) := by decide +kernel
theorem dX0_firstStep_81 : decode cX0_firstStep 81 = .ok (.ifCond .ge 6, 3) := by decide +kernel
theorem dX0_firstStep_84 : decode cX0_firstStep 84 = .ok (.iload 7, 2) := by decide +kernel
theorem dX0_firstStep_86 : decode cX0_firstStep 86 = .ok (.ireturn, 1) := by decide +kernel
theorem dX0_firstStep_87 : decode cX0_firstStep 87 = .ok (.iinc 7 1, 3) := by decide +kernel
theorem dX0_firstStep_90 : decode cX0_firstStep 90 = .ok (.goto (-87), 3) := by decide +kernel
theorem dX0_firstStep_93 : decode cX0_firstStep 93 = .ok (.bipush (-4), 2) := by decide +kernel
theorem dX0_firstStep_95 : decode cX0_firstStep 95 = .ok (.ireturn, 1) := by decide +kernel
set_option maxRecDepth 20000 in
theorem ggX1_init_X6_init : GoodIn wsX1_init wsX6_init := goodIn_r _ [13, 14, 2, 3, 15, 16, 27, 28] (by decide +kernel) (by decide +kernel)
set_option maxRecDepth 20000 in
theorem gX1_init_X6_init_n11 : GoodIn wsX1_init (wsX6_init) := ggX1_init_X6_init
set_option maxRecDepth 20000 in
theorem ggX1_init_X5_init : GoodIn wsX1_init wsX5_init := goodIn_r _ [18, 19, 2, 3, 20, 21, 22, 23, 24, 25, 26, 37, 38, 39, 40, 41, 42, 43, 44] (by decide +kernel) (by decide +kernel)
set_option maxRecDepth 20000 in
theorem gX1_init_X5_init_n20 : GoodIn wsX1_init (wsX5_init) := ggX1_init_X5_init
theorem dX1_init_0 : decode cX1_init 0 = .ok (.aload_n 0, 1) := by decide +kernel
theorem dX1_init_1 : decode cX1_init 1 = .ok (.invokespecial 3, 3) := by decide +kernel
theorem dX1_init_4 : decode cX1_init 4 = .ok (.aload_n 0, 1) := by decide +kernel
theorem dX1_init_5 : decode cX1_init 5 = .ok (.new 9, 3) := by decide +kernel
theorem dX1_init_8 : decode cX1_init 8 = .ok (.dup, 1) := by decide +kernel
theorem dX1_init_9 : decode cX1_init 9 = .ok (.invokespecial 11, 3) := by decide +kernel
theorem dX1_init_12 : decode cX1_init 12 = .ok (.putfield 12, 3) := by decide +kernel
theorem dX1_init_15 : decode cX1_init 15 = .ok (.aload_n 0, 1) := by decide +kernel
theorem dX1_init_16 : decode cX1_init 16 = .ok (.new 18, 3) := by decide +kernel
theorem dX1_init_19 : decode cX1_init 19 = .ok (.dup, 1) := by decide +kernel
theorem dX1_init_20 : decode cX1_init 20 = .ok (.invokespecial 20, 3) := by decide +kernel
theorem dX1_init_23 : decode cX1_init 23 = .ok (.putfield 21, 3) := by decide +kernel
theorem dX1_init_26 : decode cX1_init 26 = .ok (.return_, 1) := by decide +kernel
set_option maxRecDepth 20000 in
theorem ggX1_readAll_X5_empty : GoodIn wsX1_readAll wsX5_empty := goodIn_r _ [12, 13, 14, 15, 156, 157, 158, 159, 160, 161, 162, 163] (by decide +kernel) (by decide +kernel)
set_option maxRecDepth 20000 in
theorem gX1_readAll_X5_empty : GoodIn wsX1_readAll (wsV RX1 25 RX5 yX5_empty wsX5_empty) := goodIn_app (goodIn_of _ (by decide +kernel)) ggX1_readAll_X5_empty
set_option maxRecDepth 20000 in
theorem ggX1_readAll_X1_next : GoodIn wsX1_readAll wsX1_next := goodIn_r _ [20, 5, 7, 21, 22, 6, 23, 24, 25, 19, 26, 27, 28, 29, 30, 31, 32, 33, 34, 35, 36, 37, 38, 39, 40, 41, 42, 43, 44, 45, 2, 3, 148, 149, 150, 151, 152, 153, 154, 155, 164, 165] (by decide +kernel) (by decide +kernel)
set_option maxRecDepth 20000 in
theorem gX1_readAll_X1_next : GoodIn wsX1_readAll (wsV RX1 41 RX1 yX1_next wsX1_next) := goodIn_app (goodIn_of _ (by decide +kernel)) ggX1_readAll_X1_next
set_option maxRecDepth 20000 in
theorem ggX1_readAll_X1_lineOfToken : GoodIn wsX1_readAll wsX1_lineOfToken := goodIn_r _ [49, 6, 50, 51, 52, 19, 53, 5, 7, 54, 55, 56, 57, 58, 59, 60, 61, 62, 63, 64, 65, 23, 24, 25, 26, 21, 22, 27, 66, 67, 68, 69, 70, 71, 72, 73, 74, 75, 76, 77, 78, 79, 80, 81, 82, 83, 84, 85, 86, 87, 88, 89, 90, 91, 92, 93, 94, 95, 96, 97, 98, 99, 100, 101, 102, 148, 149, 150, 151, 152, 153, 154, 155, 164, 165] (by decide +kernel) (by decide +kernel)
set_option maxRecDepth 20000 in
theorem gX1_readAll_X1_lineOfToken : GoodIn wsX1_readAll (wsV RX1 47 RX1 yX1_lineOfToken wsX1_lineOfToken) := goodIn_app (goodIn_of _ (by decide +kernel)) ggX1_readAll_X1_lineOfToken
set_option maxRecDepth 20000 in
theorem ggX1_readAll_X1_fail : GoodIn wsX1_readAll wsX1_fail := goodIn_r _ [45, 2, 3, 148, 149, 150, 151, 152, 153, 154, 155] (by decide +kernel) (by decide +kernel)
set_option maxRecDepth 20000 in
theorem gX1_readAll_X1_fail : GoodIn wsX1_readAll (wsV RX1 54 RX1 yX1_fail wsX1_fail) := goodIn_app (goodIn_of _ (by decide +kernel)) ggX1_readAll_X1_fail
set_option maxRecDepth 20000 in
theorem ggX1_readAll_X1_readReal : GoodIn wsX1_readAll wsX1_readReal := goodIn_r _ [106, 1, 107, 7, 42, 43, 44, 19, 45, 2, 3, 16, 17, 18, 20, 5, 21, 22, 6, 23, 24, 25, 26, 27, 28, 29, 30, 31, 32, 33, 34, 35, 36, 37, 38, 39, 40, 41, 148, 149, 150, 151, 152, 153, 154, 155, 156, 157, 158, 159, 160, 161, 162, 163, 164, 165] (by decide +kernel) (by decide +kernel)
set_option maxRecDepth 20000 in
theorem gX1_readAll_X1_readReal : GoodIn wsX1_readAll (wsV RX1 58 RX1 yX1_readReal wsX1_readReal) := goodIn_app (goodIn_of _ (by decide +kernel)) ggX1_readAll_X1_readReal
set_option maxRecDepth 20000 in
theorem ggX1_readAll_X1_readBound : GoodIn wsX1_readAll wsX1_readBound := goodIn_r _ [111, 1, 112, 7, 2, 42, 43, 44, 19, 45, 3, 16, 17, 18, 20, 5, 21, 22, 6, 23, 24, 25, 26, 27, 28, 29, 30, 31, 32, 33, 34, 35, 36, 37, 38, 39, 40, 41, 113, 114, 115, 116, 117, 118, 119, 120, 121, 122, 123, 124, 125, 126, 127, 128, 129, 130, 131, 132, 133, 134, 135, 136, 137, 138, 11, 139, 13, 140, 141, 142, 143, 148, 149, 150, 151, 152, 153, 154, 155, 156, 157, 158, 159, 160, 161, 162, 163, 164, 165] (by decide +kernel) (by decide +kernel)
set_option maxRecDepth 20000 in
theorem gX1_readAll_X1_readBound : GoodIn wsX1_readAll (wsV RX1 61 RX1 yX1_readBound wsX1_readBound) := goodIn_app (goodIn_of _ (by decide +kernel)) ggX1_readAll_X1_readBound
set_option maxRecDepth 20000 in
theorem ggX1_readAll_X1_takeStop : GoodIn wsX1_readAll wsX1_takeStop := goodIn_r _ [147, 2, 6, 7, 4, 42, 43, 44, 19, 45, 3, 16, 17, 18, 20, 5, 21, 22, 23, 24, 25, 26, 27, 28, 29, 30, 31, 32, 33, 34, 35, 36, 37, 38, 39, 40, 41, 148, 149, 150, 151, 152, 153, 154, 155, 164, 165] (by decide +kernel) (by decide +kernel)
set_option maxRecDepth 20000 in
theorem gX1_readAll_X1_takeStop : GoodIn wsX1_readAll (wsV RX1 65 RX1 yX1_takeStop wsX1_takeStop) := goodIn_app (goodIn_of _ (by decide +kernel)) ggX1_readAll_X1_takeStop
theorem dX1_readAll_0 : decode cX1_readAll 0 = .ok (.aload_n 0, 1) := by decide +kernel
theorem dX1_readAll_1 : decode cX1_readAll 1 = .ok (.getfield 21, 3) := by decide +kernel
theorem dX1_readAll_4 : decode cX1_readAll 4 = .ok (.invokevirtual 25, 3) := by decide +kernel
theorem dX1_readAll_7 : decode cX1_readAll 7 = .ok (.aload_n 0, 1) := by decide +kernel
theorem dX1_readAll_8 : decode cX1_readAll 8 = .ok (.iconst 0, 1) := by decide +kernel
theorem dX1_readAll_9 : decode cX1_readAll 9 = .ok (.putfield 28, 3) := by decide +kernel
theorem dX1_readAll_12 : decode cX1_readAll 12 = .ok (.aload_n 0, 1) := by decide +kernel
theorem dX1_readAll_13 : decode cX1_readAll 13 = .ok (.iconst 0, 1) := by decide +kernel
theorem dX1_readAll_14 : decode cX1_readAll 14 = .ok (.putfield 32, 3) := by decide +kernel
theorem dX1_readAll_17 : decode cX1_readAll 17 = .ok (.aload_n 0, 1) := by decide +kernel
theorem dX1_readAll_18 : decode cX1_readAll 18 = .ok (.iconst 0, 1) := by decide +kernel
theorem dX1_readAll_19 : decode cX1_readAll 19 = .ok (.putfield 35, 3) := by decide +kernel
theorem dX1_readAll_22 : decode cX1_readAll 22 = .ok (.aload_n 0, 1) := by decide +kernel
theorem dX1_readAll_23 : decode cX1_readAll 23 = .ok (.iconst 0, 1) := by decide +kernel
theorem dX1_readAll_24 : decode cX1_readAll 24 = .ok (.putfield 38, 3) := by decide +kernel
theorem dX1_readAll_27 : decode cX1_readAll 27 = .ok (.aload_n 0, 1) := by decide +kernel
theorem dX1_readAll_28 : decode cX1_readAll 28 = .ok (.invokevirtual 41, 3) := by decide +kernel
theorem dX1_readAll_31 : decode cX1_readAll 31 = .ok (.iconst 0, 1) := by decide +kernel
theorem dX1_readAll_32 : decode cX1_readAll 32 = .ok (.istore_n 1, 1) := by decide +kernel
theorem dX1_readAll_33 : decode cX1_readAll 33 = .ok (.iload_n 1, 1) := by decide +kernel
theorem dX1_readAll_34 : decode cX1_readAll 34 = .ok (.sipush 320, 3) := by decide +kernel
theorem dX1_readAll_37 : decode cX1_readAll 37 = .ok (.if_icmp .gt 65, 3) := by decide +kernel
theorem dX1_readAll_40 : decode cX1_readAll 40 = .ok (.aload_n 0, 1) := by decide +kernel
theorem dX1_readAll_41 : decode cX1_readAll 41 = .ok (.getfield 28, 3) := by decide +kernel
theorem dX1_readAll_44 : decode cX1_readAll 44 = .ok (.ifCond .ne 58, 3) := by decide +kernel
theorem dX1_readAll_47 : decode cX1_readAll 47 = .ok (.aload_n 0, 1) := by decide +kernel
theorem dX1_readAll_48 : decode cX1_readAll 48 = .ok (.getfield 44, 3) := by decide +kernel
theorem dX1_readAll_51 : decode cX1_readAll 51 = .ok (.ifCond .eq 51, 3) := by decide +kernel
theorem dX1_readAll_54 : decode cX1_readAll 54 = .ok (.aload_n 0, 1) := by decide +kernel
theorem dX1_readAll_55 : decode cX1_readAll 55 = .ok (.invokevirtual 47, 3) := by decide +kernel
theorem dX1_readAll_58 : decode cX1_readAll 58 = .ok (.istore_n 2, 1) := by decide +kernel
theorem dX1_readAll_59 : decode cX1_readAll 59 = .ok (.iload_n 2, 1) := by decide +kernel
theorem dX1_readAll_60 : decode cX1_readAll 60 = .ok (.iconst (-1), 1) := by decide +kernel
theorem dX1_readAll_61 : decode cX1_readAll 61 = .ok (.if_icmp .ne 15, 3) := by decide +kernel
theorem dX1_readAll_64 : decode cX1_readAll 64 = .ok (.aload_n 0, 1) := by decide +kernel
theorem dX1_readAll_65 : decode cX1_readAll 65 = .ok (.iconst 2, 1) := by decide +kernel
theorem dX1_readAll_66 : decode cX1_readAll 66 = .ok (.aload_n 0, 1) := by decide +kernel
theorem dX1_readAll_67 : decode cX1_readAll 67 = .ok (.getfield 51, 3) := by decide +kernel
theorem dX1_readAll_70 : decode cX1_readAll 70 = .ok (.invokevirtual 54, 3) := by decide +kernel
theorem dX1_readAll_73 : decode cX1_readAll 73 = .ok (.goto 19, 3) := by decide +kernel
theorem dX1_readAll_76 : decode cX1_readAll 76 = .ok (.iload_n 2, 1) := by decide +kernel
theorem dX1_readAll_77 : decode cX1_readAll 77 = .ok (.ifCond .ne 10, 3) := by decide +kernel
theorem dX1_readAll_80 : decode cX1_readAll 80 = .ok (.aload_n 0, 1) := by decide +kernel
theorem dX1_readAll_81 : decode cX1_readAll 81 = .ok (.invokevirtual 58, 3) := by decide +kernel
theorem dX1_readAll_84 : decode cX1_readAll 84 = .ok (.goto 8, 3) := by decide +kernel
theorem dX1_readAll_87 : decode cX1_readAll 87 = .ok (.aload_n 0, 1) := by decide +kernel
theorem dX1_readAll_88 : decode cX1_readAll 88 = .ok (.iload_n 2, 1) := by decide +kernel
theorem dX1_readAll_89 : decode cX1_readAll 89 = .ok (.invokevirtual 61, 3) := by decide +kernel
theorem dX1_readAll_92 : decode cX1_readAll 92 = .ok (.aload_n 0, 1) := by decide +kernel
theorem dX1_readAll_93 : decode cX1_readAll 93 = .ok (.invokevirtual 65, 3) := by decide +kernel
theorem dX1_readAll_96 : decode cX1_readAll 96 = .ok (.iinc 1 1, 3) := by decide +kernel
theorem dX1_readAll_99 : decode cX1_readAll 99 = .ok (.goto (-66), 3) := by decide +kernel
theorem dX1_readAll_102 : decode cX1_readAll 102 = .ok (.return_, 1) := by decide +kernel
theorem dX1_fail_0 : decode cX1_fail 0 = .ok (.aload_n 0, 1) := by decide +kernel
theorem dX1_fail_1 : decode cX1_fail 1 = .ok (.getfield 28, 3) := by decide +kernel
theorem dX1_fail_4 : decode cX1_fail 4 = .ok (.ifCond .ne 13, 3) := by decide +kernel
theorem dX1_fail_7 : decode cX1_fail 7 = .ok (.aload_n 0, 1) := by decide +kernel
theorem dX1_fail_8 : decode cX1_fail 8 = .ok (.iload_n 1, 1) := by decide +kernel
theorem dX1_fail_9 : decode cX1_fail 9 = .ok (.putfield 28, 3) := by decide +kernel
theorem dX1_fail_12 : decode cX1_fail 12 = .ok (.aload_n 0, 1) := by decide +kernel
theorem dX1_fail_13 : decode cX1_fail 13 = .ok (.iload_n 2, 1) := by decide +kernel
theorem dX1_fail_14 : decode cX1_fail 14 = .ok (.putfield 32, 3) := by decide +kernel
theorem dX1_fail_17 : decode cX1_fail 17 = .ok (.return_, 1) := by decide +kernel
set_option maxRecDepth 20000 in
theorem ggX1_readReal_X1_fail : GoodIn wsX1_readReal wsX1_fail := goodIn_r _ [8, 9, 10, 38, 39, 40, 41, 42, 43, 44, 45] (by decide +kernel) (by decide +kernel)
set_option maxRecDepth 20000 in
theorem gX1_readReal_X1_fail : GoodIn wsX1_readReal (wsV RX1 54 RX1 yX1_fail wsX1_fail) := goodIn_app (goodIn_of _ (by decide +kernel)) ggX1_readReal_X1_fail
set_option maxRecDepth 20000 in
theorem ggX1_readReal_X1_next : GoodIn wsX1_readReal wsX1_next := goodIn_r _ [14, 15, 3, 16, 17, 18, 19, 20, 21, 7, 22, 23, 24, 25, 26, 27, 28, 29, 30, 31, 32, 33, 34, 35, 36, 37, 4, 5, 6, 8, 9, 10, 38, 39, 40, 41, 42, 43, 44, 45, 54, 55] (by decide +kernel) (by decide +kernel)
set_option maxRecDepth 20000 in
theorem gX1_readReal_X1_next : GoodIn wsX1_readReal (wsV RX1 41 RX1 yX1_next wsX1_next) := goodIn_app (goodIn_of _ (by decide +kernel)) ggX1_readReal_X1_next
theorem dX1_readReal_0 : decode cX1_readReal 0 = .ok (.aload_n 0, 1) := by decide +kernel
theorem dX1_readReal_1 : decode cX1_readReal 1 = .ok (.getfield 21, 3) := by decide +kernel
theorem dX1_readReal_4 : decode cX1_readReal 4 = .ok (.getfield 68, 3) := by decide +kernel
theorem dX1_readReal_7 : decode cX1_readReal 7 = .ok (.ifCond .ne 13, 3) := by decide +kernel
theorem dX1_readReal_10 : decode cX1_readReal 10 = .ok (.aload_n 0, 1) := by decide +kernel
theorem dX1_readReal_11 : decode cX1_readReal 11 = .ok (.iconst 4, 1) := by decide +kernel
theorem dX1_readReal_12 : decode cX1_readReal 12 = .ok (.aload_n 0, 1) := by decide +kernel
theorem dX1_readReal_13 : decode cX1_readReal 13 = .ok (.getfield 51, 3) := by decide +kernel
theorem dX1_readReal_16 : decode cX1_readReal 16 = .ok (.invokevirtual 54, 3) := by decide +kernel
theorem dX1_readReal_19 : decode cX1_readReal 19 = .ok (.return_, 1) := by decide +kernel
theorem dX1_readReal_20 : decode cX1_readReal 20 = .ok (.aload_n 0, 1) := by decide +kernel
theorem dX1_readReal_21 : decode cX1_readReal 21 = .ok (.getfield 21, 3) := by decide +kernel
theorem dX1_readReal_24 : decode cX1_readReal 24 = .ok (.iconst 0, 1) := by decide +kernel
theorem dX1_readReal_25 : decode cX1_readReal 25 = .ok (.putfield 68, 3) := by decide +kernel
theorem dX1_readReal_28 : decode cX1_readReal 28 = .ok (.aload_n 0, 1) := by decide +kernel
theorem dX1_readReal_29 : decode cX1_readReal 29 = .ok (.invokevirtual 41, 3) := by decide +kernel
theorem dX1_readReal_32 : decode cX1_readReal 32 = .ok (.return_, 1) := by decide +kernel
set_option maxRecDepth 20000 in
theorem ggX1_readBound_X1_fail : GoodIn wsX1_readBound wsX1_fail := goodIn_r _ [9, 4, 10, 71, 72, 73, 74, 75, 76, 77, 78] (by decide +kernel) (by decide +kernel)
set_option maxRecDepth 20000 in
theorem gX1_readBound_X1_fail : GoodIn wsX1_readBound (wsV RX1 54 RX1 yX1_fail wsX1_fail) := goodIn_app (goodIn_of _ (by decide +kernel)) ggX1_readBound_X1_fail
set_option maxRecDepth 20000 in
theorem ggX1_readBound_X1_next : GoodIn wsX1_readBound wsX1_next := goodIn_r _ [14, 15, 3, 16, 17, 18, 19, 20, 21, 8, 22, 23, 24, 25, 26, 27, 28, 29, 30, 31, 32, 33, 34, 35, 36, 37, 5, 6, 7, 9, 4, 10, 71, 72, 73, 74, 75, 76, 77, 78, 87, 88] (by decide +kernel) (by decide +kernel)
set_option maxRecDepth 20000 in
theorem gX1_readBound_X1_next : GoodIn wsX1_readBound (wsV RX1 41 RX1 yX1_next wsX1_next) := goodIn_app (goodIn_of _ (by decide +kernel)) ggX1_readBound_X1_next
set_option maxRecDepth 20000 in
theorem ggX1_readBound_X1_takeThing : GoodIn wsX1_readBound wsX1_takeThing := goodIn_r _ [41, 4, 3, 42, 43, 44, 8, 45, 18, 15, 19, 20, 21, 22, 16, 17, 23, 46, 47, 48, 5, 6, 7, 9, 10, 11, 12, 13, 14, 24, 25, 26, 27, 28, 29, 30, 31, 32, 33, 34, 35, 36, 37, 71, 72, 73, 74, 75, 76, 77, 78, 87, 88] (by decide +kernel) (by decide +kernel)
set_option maxRecDepth 20000 in
theorem gX1_readBound_X1_takeThing : GoodIn wsX1_readBound (wsV RX1 74 RX1 yX1_takeThing wsX1_takeThing) := goodIn_app (goodIn_of _ (by decide +kernel)) ggX1_readBound_X1_takeThing
set_option maxRecDepth 20000 in
theorem ggX1_readBound_X1_takeAmount : GoodIn wsX1_readBound wsX1_takeAmount := goodIn_r _ [52, 4, 18, 3, 11, 12, 13, 8, 14, 15, 16, 17, 19, 20, 21, 22, 23, 24, 25, 26, 27, 28, 29, 30, 31, 32, 33, 34, 35, 36, 37, 5, 6, 7, 9, 10, 53, 54, 55, 56, 71, 72, 73, 74, 75, 76, 77, 78, 87, 88] (by decide +kernel) (by decide +kernel)
set_option maxRecDepth 20000 in
theorem gX1_readBound_X1_takeAmount : GoodIn wsX1_readBound (wsV RX1 78 RX1 yX1_takeAmount wsX1_takeAmount) := goodIn_app (goodIn_of _ (by decide +kernel)) ggX1_readBound_X1_takeAmount
set_option maxRecDepth 20000 in
theorem ggX1_readBound_X1_putBounds : GoodIn wsX1_readBound wsX1_putBounds := goodIn_r _ [60, 1, 61, 62, 63, 64, 65, 66, 67, 68, 69, 70, 71, 72, 73, 74, 75, 76, 77, 78, 79, 80, 81, 82, 83, 84, 85, 86] (by decide +kernel) (by decide +kernel)
set_option maxRecDepth 20000 in
theorem gX1_readBound_X1_putBounds : GoodIn wsX1_readBound (wsV RX1 81 RX1 yX1_putBounds wsX1_putBounds) := goodIn_app (goodIn_of _ (by decide +kernel)) ggX1_readBound_X1_putBounds
theorem dX1_readBound_0 : decode cX1_readBound 0 = .ok (.iload_n 1, 1) := by decide +kernel
theorem dX1_readBound_1 : decode cX1_readBound 1 = .ok (.iconst 5, 1) := by decide +kernel
theorem dX1_readBound_2 : decode cX1_readBound 2 = .ok (.if_icmp .ne 7, 3) := by decide +kernel
theorem dX1_readBound_5 : decode cX1_readBound 5 = .ok (.iconst 2, 1) := by decide +kernel
theorem dX1_readBound_6 : decode cX1_readBound 6 = .ok (.goto 4, 3) := by decide +kernel
theorem dX1_readBound_9 : decode cX1_readBound 9 = .ok (.iconst 1, 1) := by decide +kernel
theorem dX1_readBound_10 : decode cX1_readBound 10 = .ok (.istore_n 2, 1) := by decide +kernel
theorem dX1_readBound_11 : decode cX1_readBound 11 = .ok (.aload_n 0, 1) := by decide +kernel
theorem dX1_readBound_12 : decode cX1_readBound 12 = .ok (.getfield 21, 3) := by decide +kernel
theorem dX1_readBound_15 : decode cX1_readBound 15 = .ok (.getfield 71, 3) := by decide +kernel
theorem dX1_readBound_18 : decode cX1_readBound 18 = .ok (.iload_n 2, 1) := by decide +kernel
theorem dX1_readBound_19 : decode cX1_readBound 19 = .ok (.iadd, 1) := by decide +kernel
theorem dX1_readBound_20 : decode cX1_readBound 20 = .ok (.bipush 24, 2) := by decide +kernel
theorem dX1_readBound_22 : decode cX1_readBound 22 = .ok (.if_icmp .le 13, 3) := by decide +kernel
theorem dX1_readBound_25 : decode cX1_readBound 25 = .ok (.aload_n 0, 1) := by decide +kernel
theorem dX1_readBound_26 : decode cX1_readBound 26 = .ok (.iconst 5, 1) := by decide +kernel
theorem dX1_readBound_27 : decode cX1_readBound 27 = .ok (.aload_n 0, 1) := by decide +kernel
theorem dX1_readBound_28 : decode cX1_readBound 28 = .ok (.getfield 51, 3) := by decide +kernel
theorem dX1_readBound_31 : decode cX1_readBound 31 = .ok (.invokevirtual 54, 3) := by decide +kernel
theorem dX1_readBound_34 : decode cX1_readBound 34 = .ok (.return_, 1) := by decide +kernel
theorem dX1_readBound_35 : decode cX1_readBound 35 = .ok (.aload_n 0, 1) := by decide +kernel
theorem dX1_readBound_36 : decode cX1_readBound 36 = .ok (.invokevirtual 41, 3) := by decide +kernel
theorem dX1_readBound_39 : decode cX1_readBound 39 = .ok (.aload_n 0, 1) := by decide +kernel
theorem dX1_readBound_40 : decode cX1_readBound 40 = .ok (.bipush (-4), 2) := by decide +kernel
theorem dX1_readBound_42 : decode cX1_readBound 42 = .ok (.invokevirtual 74, 3) := by decide +kernel
theorem dX1_readBound_45 : decode cX1_readBound 45 = .ok (.istore_n 3, 1) := by decide +kernel
theorem dX1_readBound_46 : decode cX1_readBound 46 = .ok (.aload_n 0, 1) := by decide +kernel
theorem dX1_readBound_47 : decode cX1_readBound 47 = .ok (.iload_n 3, 1) := by decide +kernel
theorem dX1_readBound_48 : decode cX1_readBound 48 = .ok (.invokevirtual 74, 3) := by decide +kernel
theorem dX1_readBound_51 : decode cX1_readBound 51 = .ok (.istore 4, 2) := by decide +kernel
theorem dX1_readBound_53 : decode cX1_readBound 53 = .ok (.aload_n 0, 1) := by decide +kernel
theorem dX1_readBound_54 : decode cX1_readBound 54 = .ok (.invokevirtual 78, 3) := by decide +kernel
theorem dX1_readBound_57 : decode cX1_readBound 57 = .ok (.istore 5, 2) := by decide +kernel
theorem dX1_readBound_59 : decode cX1_readBound 59 = .ok (.aload_n 0, 1) := by decide +kernel
theorem dX1_readBound_60 : decode cX1_readBound 60 = .ok (.getfield 28, 3) := by decide +kernel
theorem dX1_readBound_63 : decode cX1_readBound 63 = .ok (.ifCond .ne 13, 3) := by decide +kernel
theorem dX1_readBound_66 : decode cX1_readBound 66 = .ok (.aload_n 0, 1) := by decide +kernel
theorem dX1_readBound_67 : decode cX1_readBound 67 = .ok (.iload_n 1, 1) := by decide +kernel
theorem dX1_readBound_68 : decode cX1_readBound 68 = .ok (.iload_n 3, 1) := by decide +kernel
theorem dX1_readBound_69 : decode cX1_readBound 69 = .ok (.iload 4, 2) := by decide +kernel
theorem dX1_readBound_71 : decode cX1_readBound 71 = .ok (.iload 5, 2) := by decide +kernel
theorem dX1_readBound_73 : decode cX1_readBound 73 = .ok (.invokevirtual 81, 3) := by decide +kernel
theorem dX1_readBound_76 : decode cX1_readBound 76 = .ok (.return_, 1) := by decide +kernel
set_option maxRecDepth 20000 in
theorem ggX1_putBounds_X5_append : GoodIn wsX1_putBounds wsX5_append := goodIn_r _ [6, 7, 8, 9, 10, 11, 20, 21, 22, 23, 24, 25, 26, 27] (by decide +kernel) (by decide +kernel)
set_option maxRecDepth 20000 in
theorem gX1_putBounds_X5_append : GoodIn wsX1_putBounds (wsV RX1 85 RX5 yX5_append wsX5_append) := goodIn_app (goodIn_of _ (by decide +kernel)) ggX1_putBounds_X5_append
theorem dX1_putBounds_0 : decode cX1_putBounds 0 = .ok (.iload_n 1, 1) := by decide +kernel
theorem dX1_putBounds_1 : decode cX1_putBounds 1 = .ok (.iconst 1, 1) := by decide +kernel
theorem dX1_putBounds_2 : decode cX1_putBounds 2 = .ok (.if_icmp .eq 13, 3) := by decide +kernel
theorem dX1_putBounds_5 : decode cX1_putBounds 5 = .ok (.iload_n 1, 1) := by decide +kernel
theorem dX1_putBounds_6 : decode cX1_putBounds 6 = .ok (.iconst 2, 1) := by decide +kernel
theorem dX1_putBounds_7 : decode cX1_putBounds 7 = .ok (.if_icmp .eq 8, 3) := by decide +kernel
theorem dX1_putBounds_10 : decode cX1_putBounds 10 = .ok (.iload_n 1, 1) := by decide +kernel
theorem dX1_putBounds_11 : decode cX1_putBounds 11 = .ok (.iconst 5, 1) := by decide +kernel
theorem dX1_putBounds_12 : decode cX1_putBounds 12 = .ok (.if_icmp .ne 24, 3) := by decide +kernel
theorem dX1_putBounds_15 : decode cX1_putBounds 15 = .ok (.aload_n 0, 1) := by decide +kernel
theorem dX1_putBounds_16 : decode cX1_putBounds 16 = .ok (.getfield 21, 3) := by decide +kernel
theorem dX1_putBounds_19 : decode cX1_putBounds 19 = .ok (.iload_n 2, 1) := by decide +kernel
theorem dX1_putBounds_20 : decode cX1_putBounds 20 = .ok (.iload_n 3, 1) := by decide +kernel
theorem dX1_putBounds_21 : decode cX1_putBounds 21 = .ok (.iload 4, 2) := by decide +kernel
theorem dX1_putBounds_23 : decode cX1_putBounds 23 = .ok (.iload_n 1, 1) := by decide +kernel
theorem dX1_putBounds_24 : decode cX1_putBounds 24 = .ok (.iconst 2, 1) := by decide +kernel
theorem dX1_putBounds_25 : decode cX1_putBounds 25 = .ok (.if_icmp .ne 7, 3) := by decide +kernel
theorem dX1_putBounds_28 : decode cX1_putBounds 28 = .ok (.iconst 1, 1) := by decide +kernel
theorem dX1_putBounds_29 : decode cX1_putBounds 29 = .ok (.goto 4, 3) := by decide +kernel
theorem dX1_putBounds_32 : decode cX1_putBounds 32 = .ok (.iconst 0, 1) := by decide +kernel
theorem dX1_putBounds_33 : decode cX1_putBounds 33 = .ok (.invokevirtual 85, 3) := by decide +kernel
theorem dX1_putBounds_36 : decode cX1_putBounds 36 = .ok (.iload_n 1, 1) := by decide +kernel
theorem dX1_putBounds_37 : decode cX1_putBounds 37 = .ok (.iconst 3, 1) := by decide +kernel
theorem dX1_putBounds_38 : decode cX1_putBounds 38 = .ok (.if_icmp .eq 13, 3) := by decide +kernel
theorem dX1_putBounds_41 : decode cX1_putBounds 41 = .ok (.iload_n 1, 1) := by decide +kernel
theorem dX1_putBounds_42 : decode cX1_putBounds 42 = .ok (.iconst 4, 1) := by decide +kernel
theorem dX1_putBounds_43 : decode cX1_putBounds 43 = .ok (.if_icmp .eq 8, 3) := by decide +kernel
theorem dX1_putBounds_46 : decode cX1_putBounds 46 = .ok (.iload_n 1, 1) := by decide +kernel
theorem dX1_putBounds_47 : decode cX1_putBounds 47 = .ok (.iconst 5, 1) := by decide +kernel
theorem dX1_putBounds_48 : decode cX1_putBounds 48 = .ok (.if_icmp .ne 25, 3) := by decide +kernel
theorem dX1_putBounds_51 : decode cX1_putBounds 51 = .ok (.aload_n 0, 1) := by decide +kernel
theorem dX1_putBounds_52 : decode cX1_putBounds 52 = .ok (.getfield 21, 3) := by decide +kernel
theorem dX1_putBounds_55 : decode cX1_putBounds 55 = .ok (.iload_n 3, 1) := by decide +kernel
theorem dX1_putBounds_56 : decode cX1_putBounds 56 = .ok (.iload_n 2, 1) := by decide +kernel
theorem dX1_putBounds_57 : decode cX1_putBounds 57 = .ok (.iload 4, 2) := by decide +kernel
theorem dX1_putBounds_59 : decode cX1_putBounds 59 = .ok (.ineg, 1) := by decide +kernel
theorem dX1_putBounds_60 : decode cX1_putBounds 60 = .ok (.iload_n 1, 1) := by decide +kernel
theorem dX1_putBounds_61 : decode cX1_putBounds 61 = .ok (.iconst 4, 1) := by decide +kernel
theorem dX1_putBounds_62 : decode cX1_putBounds 62 = .ok (.if_icmp .ne 7, 3) := by decide +kernel
theorem dX1_putBounds_65 : decode cX1_putBounds 65 = .ok (.iconst 1, 1) := by decide +kernel
theorem dX1_putBounds_66 : decode cX1_putBounds 66 = .ok (.goto 4, 3) := by decide +kernel
theorem dX1_putBounds_69 : decode cX1_putBounds 69 = .ok (.iconst 0, 1) := by decide +kernel
theorem dX1_putBounds_70 : decode cX1_putBounds 70 = .ok (.invokevirtual 85, 3) := by decide +kernel
theorem dX1_putBounds_73 : decode cX1_putBounds 73 = .ok (.return_, 1) := by decide +kernel
set_option maxRecDepth 20000 in
theorem ggX1_takeThing_X1_thingOfToken : GoodIn wsX1_takeThing wsX1_thingOfToken := goodIn_r _ [7, 8, 9, 2, 10, 11, 12, 6, 13, 14, 15, 16, 17, 18, 19, 43, 44, 45, 46, 47, 48, 49, 50, 51, 52] (by decide +kernel) (by decide +kernel)
set_option maxRecDepth 20000 in
theorem gX1_takeThing_X1_thingOfToken : GoodIn wsX1_takeThing (wsV RX1 88 RX1 yX1_thingOfToken wsX1_thingOfToken) := goodIn_app (goodIn_of _ (by decide +kernel)) ggX1_takeThing_X1_thingOfToken
set_option maxRecDepth 20000 in
theorem ggX1_takeThing_X1_fail : GoodIn wsX1_takeThing wsX1_fail := goodIn_r _ [23, 1, 24, 43, 44, 45, 46, 47, 48, 49, 50] (by decide +kernel) (by decide +kernel)
set_option maxRecDepth 20000 in
theorem gX1_takeThing_X1_fail : GoodIn wsX1_takeThing (wsV RX1 54 RX1 yX1_fail wsX1_fail) := goodIn_app (goodIn_of _ (by decide +kernel)) ggX1_takeThing_X1_fail
set_option maxRecDepth 20000 in
theorem ggX1_takeThing_X1_next : GoodIn wsX1_takeThing wsX1_next := goodIn_r _ [28, 9, 2, 14, 15, 8, 10, 11, 12, 6, 13, 16, 29, 30, 31, 32, 33, 34, 35, 36, 37, 38, 39, 40, 41, 42, 20, 21, 22, 23, 1, 24, 43, 44, 45, 46, 47, 48, 49, 50, 51, 52] (by decide +kernel) (by decide +kernel)
set_option maxRecDepth 20000 in
theorem gX1_takeThing_X1_next : GoodIn wsX1_takeThing (wsV RX1 41 RX1 yX1_next wsX1_next) := goodIn_app (goodIn_of _ (by decide +kernel)) ggX1_takeThing_X1_next
theorem dX1_takeThing_0 : decode cX1_takeThing 0 = .ok (.aload_n 0, 1) := by decide +kernel
theorem dX1_takeThing_1 : decode cX1_takeThing 1 = .ok (.getfield 28, 3) := by decide +kernel
theorem dX1_takeThing_4 : decode cX1_takeThing 4 = .ok (.ifCond .eq 6, 3) := by decide +kernel
theorem dX1_takeThing_7 : decode cX1_takeThing 7 = .ok (.bipush (-4), 2) := by decide +kernel
theorem dX1_takeThing_9 : decode cX1_takeThing 9 = .ok (.ireturn, 1) := by decide +kernel
theorem dX1_takeThing_10 : decode cX1_takeThing 10 = .ok (.aload_n 0, 1) := by decide +kernel
theorem dX1_takeThing_11 : decode cX1_takeThing 11 = .ok (.invokevirtual 88, 3) := by decide +kernel
theorem dX1_takeThing_14 : decode cX1_takeThing 14 = .ok (.istore_n 2, 1) := by decide +kernel
theorem dX1_takeThing_15 : decode cX1_takeThing 15 = .ok (.iload_n 2, 1) := by decide +kernel
theorem dX1_takeThing_16 : decode cX1_takeThing 16 = .ok (.bipush (-4), 2) := by decide +kernel
theorem dX1_takeThing_18 : decode cX1_takeThing 18 = .ok (.if_icmp .ne 15, 3) := by decide +kernel
theorem dX1_takeThing_21 : decode cX1_takeThing 21 = .ok (.aload_n 0, 1) := by decide +kernel
theorem dX1_takeThing_22 : decode cX1_takeThing 22 = .ok (.iconst 2, 1) := by decide +kernel
theorem dX1_takeThing_23 : decode cX1_takeThing 23 = .ok (.aload_n 0, 1) := by decide +kernel
theorem dX1_takeThing_24 : decode cX1_takeThing 24 = .ok (.getfield 51, 3) := by decide +kernel
theorem dX1_takeThing_27 : decode cX1_takeThing 27 = .ok (.invokevirtual 54, 3) := by decide +kernel
theorem dX1_takeThing_30 : decode cX1_takeThing 30 = .ok (.bipush (-4), 2) := by decide +kernel
theorem dX1_takeThing_32 : decode cX1_takeThing 32 = .ok (.ireturn, 1) := by decide +kernel
theorem dX1_takeThing_33 : decode cX1_takeThing 33 = .ok (.iload_n 2, 1) := by decide +kernel
theorem dX1_takeThing_34 : decode cX1_takeThing 34 = .ok (.iload_n 1, 1) := by decide +kernel
theorem dX1_takeThing_35 : decode cX1_takeThing 35 = .ok (.if_icmp .ne 15, 3) := by decide +kernel
theorem dX1_takeThing_38 : decode cX1_takeThing 38 = .ok (.aload_n 0, 1) := by decide +kernel
theorem dX1_takeThing_39 : decode cX1_takeThing 39 = .ok (.iconst 4, 1) := by decide +kernel
theorem dX1_takeThing_40 : decode cX1_takeThing 40 = .ok (.aload_n 0, 1) := by decide +kernel
theorem dX1_takeThing_41 : decode cX1_takeThing 41 = .ok (.getfield 51, 3) := by decide +kernel
theorem dX1_takeThing_44 : decode cX1_takeThing 44 = .ok (.invokevirtual 54, 3) := by decide +kernel
theorem dX1_takeThing_47 : decode cX1_takeThing 47 = .ok (.bipush (-4), 2) := by decide +kernel
theorem dX1_takeThing_49 : decode cX1_takeThing 49 = .ok (.ireturn, 1) := by decide +kernel
theorem dX1_takeThing_50 : decode cX1_takeThing 50 = .ok (.aload_n 0, 1) := by decide +kernel
theorem dX1_takeThing_51 : decode cX1_takeThing 51 = .ok (.invokevirtual 41, 3) := by decide +kernel
theorem dX1_takeThing_54 : decode cX1_takeThing 54 = .ok (.iload_n 2, 1) := by decide +kernel
theorem dX1_takeThing_55 : decode cX1_takeThing 55 = .ok (.ireturn, 1) := by decide +kernel
set_option maxRecDepth 20000 in
theorem ggX1_takeAmount_X1_next : GoodIn wsX1_takeAmount wsX1_next := goodIn_r _ [8, 9, 3, 10, 11, 2, 12, 13, 14, 7, 15, 16, 17, 18, 19, 20, 21, 22, 23, 24, 25, 26, 27, 28, 29, 30, 31, 32, 33, 34, 1, 35, 40, 41, 42, 43, 44, 45, 46, 47, 48, 49] (by decide +kernel) (by decide +kernel)
set_option maxRecDepth 20000 in
theorem gX1_takeAmount_X1_next : GoodIn wsX1_takeAmount (wsV RX1 41 RX1 yX1_next wsX1_next) := goodIn_app (goodIn_of _ (by decide +kernel)) ggX1_takeAmount_X1_next
set_option maxRecDepth 20000 in
theorem ggX1_takeAmount_X1_fail : GoodIn wsX1_takeAmount wsX1_fail := goodIn_r _ [34, 1, 35, 40, 41, 42, 43, 44, 45, 46, 47] (by decide +kernel) (by decide +kernel)
set_option maxRecDepth 20000 in
theorem gX1_takeAmount_X1_fail : GoodIn wsX1_takeAmount (wsV RX1 54 RX1 yX1_fail wsX1_fail) := goodIn_app (goodIn_of _ (by decide +kernel)) ggX1_takeAmount_X1_fail
set_option maxRecDepth 20000 in
theorem ggX1_takeAmount_X1_figuresOfToken : GoodIn wsX1_takeAmount wsX1_figuresOfToken := goodIn_r _ [39, 3, 9, 12, 13, 14, 7, 15, 10, 11, 16, 40, 41, 42, 43, 44, 45, 46, 47, 48, 49] (by decide +kernel) (by decide +kernel)
set_option maxRecDepth 20000 in
theorem gX1_takeAmount_X1_figuresOfToken : GoodIn wsX1_takeAmount (wsV RX1 91 RX1 yX1_figuresOfToken wsX1_figuresOfToken) := goodIn_app (goodIn_of _ (by decide +kernel)) ggX1_takeAmount_X1_figuresOfToken
theorem dX1_takeAmount_0 : decode cX1_takeAmount 0 = .ok (.aload_n 0, 1) := by decide +kernel
theorem dX1_takeAmount_1 : decode cX1_takeAmount 1 = .ok (.getfield 28, 3) := by decide +kernel
theorem dX1_takeAmount_4 : decode cX1_takeAmount 4 = .ok (.ifCond .ne 15, 3) := by decide +kernel
theorem dX1_takeAmount_7 : decode cX1_takeAmount 7 = .ok (.aload_n 0, 1) := by decide +kernel
theorem dX1_takeAmount_8 : decode cX1_takeAmount 8 = .ok (.getfield 44, 3) := by decide +kernel
theorem dX1_takeAmount_11 : decode cX1_takeAmount 11 = .ok (.iconst 3, 1) := by decide +kernel
theorem dX1_takeAmount_12 : decode cX1_takeAmount 12 = .ok (.if_icmp .ne 7, 3) := by decide +kernel
theorem dX1_takeAmount_15 : decode cX1_takeAmount 15 = .ok (.iconst 1, 1) := by decide +kernel
theorem dX1_takeAmount_16 : decode cX1_takeAmount 16 = .ok (.goto 4, 3) := by decide +kernel
theorem dX1_takeAmount_19 : decode cX1_takeAmount 19 = .ok (.iconst 0, 1) := by decide +kernel
theorem dX1_takeAmount_20 : decode cX1_takeAmount 20 = .ok (.istore_n 1, 1) := by decide +kernel
theorem dX1_takeAmount_21 : decode cX1_takeAmount 21 = .ok (.iload_n 1, 1) := by decide +kernel
theorem dX1_takeAmount_22 : decode cX1_takeAmount 22 = .ok (.ifCond .eq 7, 3) := by decide +kernel
theorem dX1_takeAmount_25 : decode cX1_takeAmount 25 = .ok (.aload_n 0, 1) := by decide +kernel
theorem dX1_takeAmount_26 : decode cX1_takeAmount 26 = .ok (.invokevirtual 41, 3) := by decide +kernel
theorem dX1_takeAmount_29 : decode cX1_takeAmount 29 = .ok (.aload_n 0, 1) := by decide +kernel
theorem dX1_takeAmount_30 : decode cX1_takeAmount 30 = .ok (.getfield 28, 3) := by decide +kernel
theorem dX1_takeAmount_33 : decode cX1_takeAmount 33 = .ok (.ifCond .ne 11, 3) := by decide +kernel
theorem dX1_takeAmount_36 : decode cX1_takeAmount 36 = .ok (.aload_n 0, 1) := by decide +kernel
theorem dX1_takeAmount_37 : decode cX1_takeAmount 37 = .ok (.getfield 44, 3) := by decide +kernel
theorem dX1_takeAmount_40 : decode cX1_takeAmount 40 = .ok (.iconst 2, 1) := by decide +kernel
theorem dX1_takeAmount_41 : decode cX1_takeAmount 41 = .ok (.if_icmp .eq 14, 3) := by decide +kernel
theorem dX1_takeAmount_44 : decode cX1_takeAmount 44 = .ok (.aload_n 0, 1) := by decide +kernel
theorem dX1_takeAmount_45 : decode cX1_takeAmount 45 = .ok (.iconst 2, 1) := by decide +kernel
theorem dX1_takeAmount_46 : decode cX1_takeAmount 46 = .ok (.aload_n 0, 1) := by decide +kernel
theorem dX1_takeAmount_47 : decode cX1_takeAmount 47 = .ok (.getfield 51, 3) := by decide +kernel
theorem dX1_takeAmount_50 : decode cX1_takeAmount 50 = .ok (.invokevirtual 54, 3) := by decide +kernel
theorem dX1_takeAmount_53 : decode cX1_takeAmount 53 = .ok (.iconst 0, 1) := by decide +kernel
theorem dX1_takeAmount_54 : decode cX1_takeAmount 54 = .ok (.ireturn, 1) := by decide +kernel
theorem dX1_takeAmount_55 : decode cX1_takeAmount 55 = .ok (.aload_n 0, 1) := by decide +kernel
theorem dX1_takeAmount_56 : decode cX1_takeAmount 56 = .ok (.invokevirtual 91, 3) := by decide +kernel
theorem dX1_takeAmount_59 : decode cX1_takeAmount 59 = .ok (.istore_n 2, 1) := by decide +kernel
theorem dX1_takeAmount_60 : decode cX1_takeAmount 60 = .ok (.aload_n 0, 1) := by decide +kernel
theorem dX1_takeAmount_61 : decode cX1_takeAmount 61 = .ok (.invokevirtual 41, 3) := by decide +kernel
theorem dX1_takeAmount_64 : decode cX1_takeAmount 64 = .ok (.iload_n 1, 1) := by decide +kernel
theorem dX1_takeAmount_65 : decode cX1_takeAmount 65 = .ok (.ifCond .eq 8, 3) := by decide +kernel
theorem dX1_takeAmount_68 : decode cX1_takeAmount 68 = .ok (.iload_n 2, 1) := by decide +kernel
theorem dX1_takeAmount_69 : decode cX1_takeAmount 69 = .ok (.ineg, 1) := by decide +kernel
theorem dX1_takeAmount_70 : decode cX1_takeAmount 70 = .ok (.goto 4, 3) := by decide +kernel
theorem dX1_takeAmount_73 : decode cX1_takeAmount 73 = .ok (.iload_n 2, 1) := by decide +kernel
theorem dX1_takeAmount_74 : decode cX1_takeAmount 74 = .ok (.ireturn, 1) := by decide +kernel
set_option maxRecDepth 20000 in
theorem ggX1_takeStop_X1_fail : GoodIn wsX1_takeStop wsX1_fail := goodIn_r _ [9, 1, 10, 37, 38, 39, 40, 41, 42, 43, 44] (by decide +kernel) (by decide +kernel)
set_option maxRecDepth 20000 in
theorem gX1_takeStop_X1_fail : GoodIn wsX1_takeStop (wsV RX1 54 RX1 yX1_fail wsX1_fail) := goodIn_app (goodIn_of _ (by decide +kernel)) ggX1_takeStop_X1_fail
set_option maxRecDepth 20000 in
theorem ggX1_takeStop_X1_next : GoodIn wsX1_takeStop wsX1_next := goodIn_r _ [14, 15, 3, 16, 17, 2, 18, 19, 20, 8, 21, 22, 23, 24, 25, 26, 27, 28, 29, 30, 31, 32, 33, 34, 35, 36, 5, 6, 7, 9, 1, 10, 37, 38, 39, 40, 41, 42, 43, 44, 45, 46] (by decide +kernel) (by decide +kernel)
set_option maxRecDepth 20000 in
theorem gX1_takeStop_X1_next : GoodIn wsX1_takeStop (wsV RX1 41 RX1 yX1_next wsX1_next) := goodIn_app (goodIn_of _ (by decide +kernel)) ggX1_takeStop_X1_next
theorem dX1_takeStop_0 : decode cX1_takeStop 0 = .ok (.aload_n 0, 1) := by decide +kernel
theorem dX1_takeStop_1 : decode cX1_takeStop 1 = .ok (.getfield 28, 3) := by decide +kernel
theorem dX1_takeStop_4 : decode cX1_takeStop 4 = .ok (.ifCond .ne 11, 3) := by decide +kernel
theorem dX1_takeStop_7 : decode cX1_takeStop 7 = .ok (.aload_n 0, 1) := by decide +kernel
theorem dX1_takeStop_8 : decode cX1_takeStop 8 = .ok (.getfield 44, 3) := by decide +kernel
theorem dX1_takeStop_11 : decode cX1_takeStop 11 = .ok (.iconst 4, 1) := by decide +kernel
theorem dX1_takeStop_12 : decode cX1_takeStop 12 = .ok (.if_icmp .eq 13, 3) := by decide +kernel
theorem dX1_takeStop_15 : decode cX1_takeStop 15 = .ok (.aload_n 0, 1) := by decide +kernel
theorem dX1_takeStop_16 : decode cX1_takeStop 16 = .ok (.iconst 2, 1) := by decide +kernel
theorem dX1_takeStop_17 : decode cX1_takeStop 17 = .ok (.aload_n 0, 1) := by decide +kernel
theorem dX1_takeStop_18 : decode cX1_takeStop 18 = .ok (.getfield 51, 3) := by decide +kernel
theorem dX1_takeStop_21 : decode cX1_takeStop 21 = .ok (.invokevirtual 54, 3) := by decide +kernel
theorem dX1_takeStop_24 : decode cX1_takeStop 24 = .ok (.return_, 1) := by decide +kernel
theorem dX1_takeStop_25 : decode cX1_takeStop 25 = .ok (.aload_n 0, 1) := by decide +kernel
theorem dX1_takeStop_26 : decode cX1_takeStop 26 = .ok (.dup, 1) := by decide +kernel
theorem dX1_takeStop_27 : decode cX1_takeStop 27 = .ok (.getfield 35, 3) := by decide +kernel
theorem dX1_takeStop_30 : decode cX1_takeStop 30 = .ok (.iconst 1, 1) := by decide +kernel
theorem dX1_takeStop_31 : decode cX1_takeStop 31 = .ok (.iadd, 1) := by decide +kernel
theorem dX1_takeStop_32 : decode cX1_takeStop 32 = .ok (.putfield 35, 3) := by decide +kernel
theorem dX1_takeStop_35 : decode cX1_takeStop 35 = .ok (.aload_n 0, 1) := by decide +kernel
theorem dX1_takeStop_36 : decode cX1_takeStop 36 = .ok (.invokevirtual 41, 3) := by decide +kernel
theorem dX1_takeStop_39 : decode cX1_takeStop 39 = .ok (.return_, 1) := by decide +kernel
theorem dX1_byteAt_0 : decode cX1_byteAt 0 = .ok (.iload_n 1, 1) := by decide +kernel
theorem dX1_byteAt_1 : decode cX1_byteAt 1 = .ok (.ifCond .lt 26, 3) := by decide +kernel
theorem dX1_byteAt_4 : decode cX1_byteAt 4 = .ok (.iload_n 1, 1) := by decide +kernel
theorem dX1_byteAt_5 : decode cX1_byteAt 5 = .ok (.aload_n 0, 1) := by decide +kernel
theorem dX1_byteAt_6 : decode cX1_byteAt 6 = .ok (.getfield 12, 3) := by decide +kernel
theorem dX1_byteAt_9 : decode cX1_byteAt 9 = .ok (.getfield 94, 3) := by decide +kernel
theorem dX1_byteAt_12 : decode cX1_byteAt 12 = .ok (.if_icmp .ge 15, 3) := by decide +kernel
theorem dX1_byteAt_15 : decode cX1_byteAt 15 = .ok (.aload_n 0, 1) := by decide +kernel
theorem dX1_byteAt_16 : decode cX1_byteAt 16 = .ok (.getfield 12, 3) := by decide +kernel
theorem dX1_byteAt_19 : decode cX1_byteAt 19 = .ok (.getfield 95, 3) := by decide +kernel
theorem dX1_byteAt_22 : decode cX1_byteAt 22 = .ok (.iload_n 1, 1) := by decide +kernel
theorem dX1_byteAt_23 : decode cX1_byteAt 23 = .ok (.baload, 1) := by decide +kernel
theorem dX1_byteAt_24 : decode cX1_byteAt 24 = .ok (.goto 5, 3) := by decide +kernel
theorem dX1_byteAt_27 : decode cX1_byteAt 27 = .ok (.bipush (-4), 2) := by decide +kernel
theorem dX1_byteAt_29 : decode cX1_byteAt 29 = .ok (.ireturn, 1) := by decide +kernel
theorem dX1_isLetter_0 : decode cX1_isLetter 0 = .ok (.iload_n 0, 1) := by decide +kernel
theorem dX1_isLetter_1 : decode cX1_isLetter 1 = .ok (.bipush 97, 2) := by decide +kernel
theorem dX1_isLetter_3 : decode cX1_isLetter 3 = .ok (.if_icmp .lt 13, 3) := by decide +kernel
theorem dX1_isLetter_6 : decode cX1_isLetter 6 = .ok (.iload_n 0, 1) := by decide +kernel
theorem dX1_isLetter_7 : decode cX1_isLetter 7 = .ok (.bipush 122, 2) := by decide +kernel
theorem dX1_isLetter_9 : decode cX1_isLetter 9 = .ok (.if_icmp .gt 7, 3) := by decide +kernel
theorem dX1_isLetter_12 : decode cX1_isLetter 12 = .ok (.iconst 1, 1) := by decide +kernel
theorem dX1_isLetter_13 : decode cX1_isLetter 13 = .ok (.goto 4, 3) := by decide +kernel
theorem dX1_isLetter_16 : decode cX1_isLetter 16 = .ok (.iconst 0, 1) := by decide +kernel
theorem dX1_isLetter_17 : decode cX1_isLetter 17 = .ok (.ireturn, 1) := by decide +kernel
theorem dX1_isFigure_0 : decode cX1_isFigure 0 = .ok (.iload_n 0, 1) := by decide +kernel
theorem dX1_isFigure_1 : decode cX1_isFigure 1 = .ok (.bipush 48, 2) := by decide +kernel
theorem dX1_isFigure_3 : decode cX1_isFigure 3 = .ok (.if_icmp .lt 13, 3) := by decide +kernel
theorem dX1_isFigure_6 : decode cX1_isFigure 6 = .ok (.iload_n 0, 1) := by decide +kernel
theorem dX1_isFigure_7 : decode cX1_isFigure 7 = .ok (.bipush 57, 2) := by decide +kernel
theorem dX1_isFigure_9 : decode cX1_isFigure 9 = .ok (.if_icmp .gt 7, 3) := by decide +kernel
theorem dX1_isFigure_12 : decode cX1_isFigure 12 = .ok (.iconst 1, 1) := by decide +kernel
theorem dX1_isFigure_13 : decode cX1_isFigure 13 = .ok (.goto 4, 3) := by decide +kernel
theorem dX1_isFigure_16 : decode cX1_isFigure 16 = .ok (.iconst 0, 1) := by decide +kernel
theorem dX1_isFigure_17 : decode cX1_isFigure 17 = .ok (.ireturn, 1) := by decide +kernel
set_option maxRecDepth 20000 in
theorem ggX1_next_X1_byteAt : GoodIn wsX1_next wsX1_byteAt := goodIn_r _ [10, 3, 4, 11, 32, 33, 34, 35, 36, 37, 38, 39, 40, 41] (by decide +kernel) (by decide +kernel)
set_option maxRecDepth 20000 in
theorem gX1_next_X1_byteAt : GoodIn wsX1_next (wsV RX1 99 RX1 yX1_byteAt wsX1_byteAt) := goodIn_app (goodIn_of _ (by decide +kernel)) ggX1_next_X1_byteAt
set_option maxRecDepth 20000 in
theorem ggX1_next_X1_isLetter : GoodIn wsX1_next wsX1_isLetter := goodIn_r _ [14] (by decide +kernel) (by decide +kernel)
set_option maxRecDepth 20000 in
theorem gX1_next_X1_isLetter : GoodIn wsX1_next (va_wsS RX1 102 yX1_isLetter wsX1_isLetter) := goodIn_app (goodIn_of _ (by decide +kernel)) ggX1_next_X1_isLetter
set_option maxRecDepth 20000 in
theorem ggX1_next_X1_passLetters : GoodIn wsX1_next wsX1_passLetters := goodIn_r _ [18, 1, 3, 4, 6, 7, 8, 9, 10, 11, 12, 13, 14, 32, 33, 34, 35, 36, 37, 38, 39, 40, 41] (by decide +kernel) (by decide +kernel)
set_option maxRecDepth 20000 in
theorem gX1_next_X1_passLetters : GoodIn wsX1_next (wsV RX1 106 RX1 yX1_passLetters wsX1_passLetters) := goodIn_app (goodIn_of _ (by decide +kernel)) ggX1_next_X1_passLetters
set_option maxRecDepth 20000 in
theorem ggX1_next_X1_isFigure : GoodIn wsX1_next wsX1_isFigure := goodIn_r _ [21] (by decide +kernel) (by decide +kernel)
set_option maxRecDepth 20000 in
theorem gX1_next_X1_isFigure : GoodIn wsX1_next (va_wsS RX1 109 yX1_isFigure wsX1_isFigure) := goodIn_app (goodIn_of _ (by decide +kernel)) ggX1_next_X1_isFigure
set_option maxRecDepth 20000 in
theorem ggX1_next_X1_passFigures : GoodIn wsX1_next wsX1_passFigures := goodIn_r _ [25, 1, 3, 4, 6, 7, 8, 9, 10, 11, 19, 20, 21, 32, 33, 34, 35, 36, 37, 38, 39, 40, 41] (by decide +kernel) (by decide +kernel)
set_option maxRecDepth 20000 in
theorem gX1_next_X1_passFigures : GoodIn wsX1_next (wsV RX1 112 RX1 yX1_passFigures wsX1_passFigures) := goodIn_app (goodIn_of _ (by decide +kernel)) ggX1_next_X1_passFigures
set_option maxRecDepth 20000 in
theorem ggX1_next_X1_fail : GoodIn wsX1_next wsX1_fail := goodIn_r _ [29, 30, 31, 32, 33, 34, 35, 36, 37, 38, 39] (by decide +kernel) (by decide +kernel)
set_option maxRecDepth 20000 in
theorem gX1_next_X1_fail : GoodIn wsX1_next (wsV RX1 54 RX1 yX1_fail wsX1_fail) := goodIn_app (goodIn_of _ (by decide +kernel)) ggX1_next_X1_fail
theorem dX1_next_0 : decode cX1_next 0 = .ok (.aload_n 0, 1) := by decide +kernel
theorem dX1_next_1 : decode cX1_next 1 = .ok (.aload_n 0, 1) := by decide +kernel
theorem dX1_next_2 : decode cX1_next 2 = .ok (.getfield 38, 3) := by decide +kernel
theorem dX1_next_5 : decode cX1_next 5 = .ok (.putfield 51, 3) := by decide +kernel
theorem dX1_next_8 : decode cX1_next 8 = .ok (.aload_n 0, 1) := by decide +kernel
theorem dX1_next_9 : decode cX1_next 9 = .ok (.getfield 51, 3) := by decide +kernel
theorem dX1_next_12 : decode cX1_next 12 = .ok (.aload_n 0, 1) := by decide +kernel
theorem dX1_next_13 : decode cX1_next 13 = .ok (.getfield 12, 3) := by decide +kernel
theorem dX1_next_16 : decode cX1_next 16 = .ok (.getfield 94, 3) := by decide +kernel
theorem dX1_next_19 : decode cX1_next 19 = .ok (.if_icmp .ge 29, 3) := by decide +kernel
theorem dX1_next_22 : decode cX1_next 22 = .ok (.aload_n 0, 1) := by decide +kernel
theorem dX1_next_23 : decode cX1_next 23 = .ok (.aload_n 0, 1) := by decide +kernel
theorem dX1_next_24 : decode cX1_next 24 = .ok (.getfield 51, 3) := by decide +kernel
theorem dX1_next_27 : decode cX1_next 27 = .ok (.invokevirtual 99, 3) := by decide +kernel
theorem dX1_next_30 : decode cX1_next 30 = .ok (.bipush 32, 2) := by decide +kernel
theorem dX1_next_32 : decode cX1_next 32 = .ok (.if_icmp .ne 16, 3) := by decide +kernel
theorem dX1_next_35 : decode cX1_next 35 = .ok (.aload_n 0, 1) := by decide +kernel
theorem dX1_next_36 : decode cX1_next 36 = .ok (.dup, 1) := by decide +kernel
theorem dX1_next_37 : decode cX1_next 37 = .ok (.getfield 51, 3) := by decide +kernel
theorem dX1_next_40 : decode cX1_next 40 = .ok (.iconst 1, 1) := by decide +kernel
theorem dX1_next_41 : decode cX1_next 41 = .ok (.iadd, 1) := by decide +kernel
theorem dX1_next_42 : decode cX1_next 42 = .ok (.putfield 51, 3) := by decide +kernel
theorem dX1_next_45 : decode cX1_next 45 = .ok (.goto (-37), 3) := by decide +kernel
theorem dX1_next_48 : decode cX1_next 48 = .ok (.aload_n 0, 1) := by decide +kernel
theorem dX1_next_49 : decode cX1_next 49 = .ok (.aload_n 0, 1) := by decide +kernel
theorem dX1_next_50 : decode cX1_next 50 = .ok (.getfield 51, 3) := by decide +kernel
theorem dX1_next_53 : decode cX1_next 53 = .ok (.putfield 38, 3) := by decide +kernel
theorem dX1_next_56 : decode cX1_next 56 = .ok (.aload_n 0, 1) := by decide +kernel
theorem dX1_next_57 : decode cX1_next 57 = .ok (.aload_n 0, 1) := by decide +kernel
theorem dX1_next_58 : decode cX1_next 58 = .ok (.getfield 51, 3) := by decide +kernel
theorem dX1_next_61 : decode cX1_next 61 = .ok (.invokevirtual 99, 3) := by decide +kernel
theorem dX1_next_64 : decode cX1_next 64 = .ok (.istore_n 1, 1) := by decide +kernel
theorem dX1_next_65 : decode cX1_next 65 = .ok (.aload_n 0, 1) := by decide +kernel
theorem dX1_next_66 : decode cX1_next 66 = .ok (.getfield 51, 3) := by decide +kernel
theorem dX1_next_69 : decode cX1_next 69 = .ok (.aload_n 0, 1) := by decide +kernel
theorem dX1_next_70 : decode cX1_next 70 = .ok (.getfield 12, 3) := by decide +kernel
theorem dX1_next_73 : decode cX1_next 73 = .ok (.getfield 94, 3) := by decide +kernel
theorem dX1_next_76 : decode cX1_next 76 = .ok (.if_icmp .lt 11, 3) := by decide +kernel
theorem dX1_next_79 : decode cX1_next 79 = .ok (.aload_n 0, 1) := by decide +kernel
theorem dX1_next_80 : decode cX1_next 80 = .ok (.iconst 0, 1) := by decide +kernel
theorem dX1_next_81 : decode cX1_next 81 = .ok (.putfield 44, 3) := by decide +kernel
theorem dX1_next_84 : decode cX1_next 84 = .ok (.goto 93, 3) := by decide +kernel
theorem dX1_next_87 : decode cX1_next 87 = .ok (.iload_n 1, 1) := by decide +kernel
theorem dX1_next_88 : decode cX1_next 88 = .ok (.invokestatic 102, 3) := by decide +kernel
theorem dX1_next_91 : decode cX1_next 91 = .ok (.ifCond .eq 15, 3) := by decide +kernel
theorem dX1_next_94 : decode cX1_next 94 = .ok (.aload_n 0, 1) := by decide +kernel
theorem dX1_next_95 : decode cX1_next 95 = .ok (.iconst 1, 1) := by decide +kernel
theorem dX1_next_96 : decode cX1_next 96 = .ok (.putfield 44, 3) := by decide +kernel
theorem dX1_next_99 : decode cX1_next 99 = .ok (.aload_n 0, 1) := by decide +kernel
theorem dX1_next_100 : decode cX1_next 100 = .ok (.invokevirtual 106, 3) := by decide +kernel
theorem dX1_next_103 : decode cX1_next 103 = .ok (.goto 74, 3) := by decide +kernel
theorem dX1_next_106 : decode cX1_next 106 = .ok (.iload_n 1, 1) := by decide +kernel
theorem dX1_next_107 : decode cX1_next 107 = .ok (.invokestatic 109, 3) := by decide +kernel
theorem dX1_next_110 : decode cX1_next 110 = .ok (.ifCond .eq 32, 3) := by decide +kernel
theorem dX1_next_113 : decode cX1_next 113 = .ok (.aload_n 0, 1) := by decide +kernel
theorem dX1_next_114 : decode cX1_next 114 = .ok (.invokevirtual 112, 3) := by decide +kernel
theorem dX1_next_117 : decode cX1_next 117 = .ok (.aload_n 0, 1) := by decide +kernel
theorem dX1_next_118 : decode cX1_next 118 = .ok (.aload_n 0, 1) := by decide +kernel
theorem dX1_next_119 : decode cX1_next 119 = .ok (.getfield 38, 3) := by decide +kernel
theorem dX1_next_122 : decode cX1_next 122 = .ok (.aload_n 0, 1) := by decide +kernel
theorem dX1_next_123 : decode cX1_next 123 = .ok (.getfield 51, 3) := by decide +kernel
theorem dX1_next_126 : decode cX1_next 126 = .ok (.isub, 1) := by decide +kernel
theorem dX1_next_127 : decode cX1_next 127 = .ok (.iconst 4, 1) := by decide +kernel
theorem dX1_next_128 : decode cX1_next 128 = .ok (.if_icmp .le 7, 3) := by decide +kernel
theorem dX1_next_131 : decode cX1_next 131 = .ok (.iconst 5, 1) := by decide +kernel
theorem dX1_next_132 : decode cX1_next 132 = .ok (.goto 4, 3) := by decide +kernel
theorem dX1_next_135 : decode cX1_next 135 = .ok (.iconst 2, 1) := by decide +kernel
theorem dX1_next_136 : decode cX1_next 136 = .ok (.putfield 44, 3) := by decide +kernel
theorem dX1_next_139 : decode cX1_next 139 = .ok (.goto 38, 3) := by decide +kernel
theorem dX1_next_142 : decode cX1_next 142 = .ok (.aload_n 0, 1) := by decide +kernel
theorem dX1_next_143 : decode cX1_next 143 = .ok (.aload_n 0, 1) := by decide +kernel
theorem dX1_next_144 : decode cX1_next 144 = .ok (.getfield 51, 3) := by decide +kernel
theorem dX1_next_147 : decode cX1_next 147 = .ok (.iconst 1, 1) := by decide +kernel
theorem dX1_next_148 : decode cX1_next 148 = .ok (.iadd, 1) := by decide +kernel
theorem dX1_next_149 : decode cX1_next 149 = .ok (.putfield 38, 3) := by decide +kernel
theorem dX1_next_152 : decode cX1_next 152 = .ok (.aload_n 0, 1) := by decide +kernel
theorem dX1_next_153 : decode cX1_next 153 = .ok (.iload_n 1, 1) := by decide +kernel
theorem dX1_next_154 : decode cX1_next 154 = .ok (.bipush 45, 2) := by decide +kernel
theorem dX1_next_156 : decode cX1_next 156 = .ok (.if_icmp .ne 7, 3) := by decide +kernel
theorem dX1_next_159 : decode cX1_next 159 = .ok (.iconst 3, 1) := by decide +kernel
theorem dX1_next_160 : decode cX1_next 160 = .ok (.goto 14, 3) := by decide +kernel
theorem dX1_next_163 : decode cX1_next 163 = .ok (.iload_n 1, 1) := by decide +kernel
theorem dX1_next_164 : decode cX1_next 164 = .ok (.bipush 59, 2) := by decide +kernel
theorem dX1_next_166 : decode cX1_next 166 = .ok (.if_icmp .ne 7, 3) := by decide +kernel
theorem dX1_next_169 : decode cX1_next 169 = .ok (.iconst 4, 1) := by decide +kernel
theorem dX1_next_170 : decode cX1_next 170 = .ok (.goto 4, 3) := by decide +kernel
theorem dX1_next_173 : decode cX1_next 173 = .ok (.iconst 5, 1) := by decide +kernel
theorem dX1_next_174 : decode cX1_next 174 = .ok (.putfield 44, 3) := by decide +kernel
theorem dX1_next_177 : decode cX1_next 177 = .ok (.aload_n 0, 1) := by decide +kernel
theorem dX1_next_178 : decode cX1_next 178 = .ok (.getfield 44, 3) := by decide +kernel
theorem dX1_next_181 : decode cX1_next 181 = .ok (.iconst 5, 1) := by decide +kernel
theorem dX1_next_182 : decode cX1_next 182 = .ok (.if_icmp .ne 12, 3) := by decide +kernel
theorem dX1_next_185 : decode cX1_next 185 = .ok (.aload_n 0, 1) := by decide +kernel
theorem dX1_next_186 : decode cX1_next 186 = .ok (.iconst 1, 1) := by decide +kernel
theorem dX1_next_187 : decode cX1_next 187 = .ok (.aload_n 0, 1) := by decide +kernel
theorem dX1_next_188 : decode cX1_next 188 = .ok (.getfield 51, 3) := by decide +kernel
theorem dX1_next_191 : decode cX1_next 191 = .ok (.invokevirtual 54, 3) := by decide +kernel
theorem dX1_next_194 : decode cX1_next 194 = .ok (.return_, 1) := by decide +kernel
set_option maxRecDepth 20000 in
theorem ggX1_passLetters_X1_byteAt : GoodIn wsX1_passLetters wsX1_byteAt := goodIn_r _ [8, 2, 3, 9, 13, 14, 15, 16, 17, 18, 19, 20, 21, 22] (by decide +kernel) (by decide +kernel)
set_option maxRecDepth 20000 in
theorem gX1_passLetters_X1_byteAt : GoodIn wsX1_passLetters (wsV RX1 99 RX1 yX1_byteAt wsX1_byteAt) := goodIn_app (goodIn_of _ (by decide +kernel)) ggX1_passLetters_X1_byteAt
set_option maxRecDepth 20000 in
theorem ggX1_passLetters_X1_isLetter : GoodIn wsX1_passLetters wsX1_isLetter := goodIn_r _ [12] (by decide +kernel) (by decide +kernel)
set_option maxRecDepth 20000 in
theorem gX1_passLetters_X1_isLetter : GoodIn wsX1_passLetters (va_wsS RX1 102 yX1_isLetter wsX1_isLetter) := goodIn_app (goodIn_of _ (by decide +kernel)) ggX1_passLetters_X1_isLetter
theorem dX1_passLetters_0 : decode cX1_passLetters 0 = .ok (.aload_n 0, 1) := by decide +kernel
theorem dX1_passLetters_1 : decode cX1_passLetters 1 = .ok (.getfield 38, 3) := by decide +kernel
theorem dX1_passLetters_4 : decode cX1_passLetters 4 = .ok (.aload_n 0, 1) := by decide +kernel
theorem dX1_passLetters_5 : decode cX1_passLetters 5 = .ok (.getfield 12, 3) := by decide +kernel
theorem dX1_passLetters_8 : decode cX1_passLetters 8 = .ok (.getfield 94, 3) := by decide +kernel
theorem dX1_passLetters_11 : decode cX1_passLetters 11 = .ok (.if_icmp .ge 30, 3) := by decide +kernel
theorem dX1_passLetters_14 : decode cX1_passLetters 14 = .ok (.aload_n 0, 1) := by decide +kernel
theorem dX1_passLetters_15 : decode cX1_passLetters 15 = .ok (.aload_n 0, 1) := by decide +kernel
theorem dX1_passLetters_16 : decode cX1_passLetters 16 = .ok (.getfield 38, 3) := by decide +kernel
theorem dX1_passLetters_19 : decode cX1_passLetters 19 = .ok (.invokevirtual 99, 3) := by decide +kernel
theorem dX1_passLetters_22 : decode cX1_passLetters 22 = .ok (.invokestatic 102, 3) := by decide +kernel
theorem dX1_passLetters_25 : decode cX1_passLetters 25 = .ok (.ifCond .eq 16, 3) := by decide +kernel
theorem dX1_passLetters_28 : decode cX1_passLetters 28 = .ok (.aload_n 0, 1) := by decide +kernel
theorem dX1_passLetters_29 : decode cX1_passLetters 29 = .ok (.dup, 1) := by decide +kernel
theorem dX1_passLetters_30 : decode cX1_passLetters 30 = .ok (.getfield 38, 3) := by decide +kernel
theorem dX1_passLetters_33 : decode cX1_passLetters 33 = .ok (.iconst 1, 1) := by decide +kernel
theorem dX1_passLetters_34 : decode cX1_passLetters 34 = .ok (.iadd, 1) := by decide +kernel
theorem dX1_passLetters_35 : decode cX1_passLetters 35 = .ok (.putfield 38, 3) := by decide +kernel
theorem dX1_passLetters_38 : decode cX1_passLetters 38 = .ok (.goto (-38), 3) := by decide +kernel
theorem dX1_passLetters_41 : decode cX1_passLetters 41 = .ok (.return_, 1) := by decide +kernel
set_option maxRecDepth 20000 in
theorem ggX1_passFigures_X1_byteAt : GoodIn wsX1_passFigures wsX1_byteAt := goodIn_r _ [8, 2, 3, 9, 13, 14, 15, 16, 17, 18, 19, 20, 21, 22] (by decide +kernel) (by decide +kernel)
set_option maxRecDepth 20000 in
theorem gX1_passFigures_X1_byteAt : GoodIn wsX1_passFigures (wsV RX1 99 RX1 yX1_byteAt wsX1_byteAt) := goodIn_app (goodIn_of _ (by decide +kernel)) ggX1_passFigures_X1_byteAt
set_option maxRecDepth 20000 in
theorem ggX1_passFigures_X1_isFigure : GoodIn wsX1_passFigures wsX1_isFigure := goodIn_r _ [12] (by decide +kernel) (by decide +kernel)
set_option maxRecDepth 20000 in
theorem gX1_passFigures_X1_isFigure : GoodIn wsX1_passFigures (va_wsS RX1 109 yX1_isFigure wsX1_isFigure) := goodIn_app (goodIn_of _ (by decide +kernel)) ggX1_passFigures_X1_isFigure
theorem dX1_passFigures_0 : decode cX1_passFigures 0 = .ok (.aload_n 0, 1) := by decide +kernel
theorem dX1_passFigures_1 : decode cX1_passFigures 1 = .ok (.getfield 38, 3) := by decide +kernel
theorem dX1_passFigures_4 : decode cX1_passFigures 4 = .ok (.aload_n 0, 1) := by decide +kernel
theorem dX1_passFigures_5 : decode cX1_passFigures 5 = .ok (.getfield 12, 3) := by decide +kernel
theorem dX1_passFigures_8 : decode cX1_passFigures 8 = .ok (.getfield 94, 3) := by decide +kernel
theorem dX1_passFigures_11 : decode cX1_passFigures 11 = .ok (.if_icmp .ge 30, 3) := by decide +kernel
theorem dX1_passFigures_14 : decode cX1_passFigures 14 = .ok (.aload_n 0, 1) := by decide +kernel
theorem dX1_passFigures_15 : decode cX1_passFigures 15 = .ok (.aload_n 0, 1) := by decide +kernel
theorem dX1_passFigures_16 : decode cX1_passFigures 16 = .ok (.getfield 38, 3) := by decide +kernel
theorem dX1_passFigures_19 : decode cX1_passFigures 19 = .ok (.invokevirtual 99, 3) := by decide +kernel
theorem dX1_passFigures_22 : decode cX1_passFigures 22 = .ok (.invokestatic 109, 3) := by decide +kernel
theorem dX1_passFigures_25 : decode cX1_passFigures 25 = .ok (.ifCond .eq 16, 3) := by decide +kernel
theorem dX1_passFigures_28 : decode cX1_passFigures 28 = .ok (.aload_n 0, 1) := by decide +kernel
theorem dX1_passFigures_29 : decode cX1_passFigures 29 = .ok (.dup, 1) := by decide +kernel
theorem dX1_passFigures_30 : decode cX1_passFigures 30 = .ok (.getfield 38, 3) := by decide +kernel
theorem dX1_passFigures_33 : decode cX1_passFigures 33 = .ok (.iconst 1, 1) := by decide +kernel
theorem dX1_passFigures_34 : decode cX1_passFigures 34 = .ok (.iadd, 1) := by decide +kernel
theorem dX1_passFigures_35 : decode cX1_passFigures 35 = .ok (.putfield 38, 3) := by decide +kernel
theorem dX1_passFigures_38 : decode cX1_passFigures 38 = .ok (.goto (-38), 3) := by decide +kernel
theorem dX1_passFigures_41 : decode cX1_passFigures 41 = .ok (.return_, 1) := by decide +kernel
set_option maxRecDepth 20000 in
theorem ggX1_figuresOfToken_X1_byteAt : GoodIn wsX1_figuresOfToken wsX1_byteAt := goodIn_r _ [7, 8, 9, 10, 11, 12, 13, 14, 15, 16, 17, 18, 19, 20] (by decide +kernel) (by decide +kernel)
set_option maxRecDepth 20000 in
theorem gX1_figuresOfToken_X1_byteAt : GoodIn wsX1_figuresOfToken (wsV RX1 99 RX1 yX1_byteAt wsX1_byteAt) := goodIn_app (goodIn_of _ (by decide +kernel)) ggX1_figuresOfToken_X1_byteAt
theorem dX1_figuresOfToken_0 : decode cX1_figuresOfToken 0 = .ok (.iconst 0, 1) := by decide +kernel
theorem dX1_figuresOfToken_1 : decode cX1_figuresOfToken 1 = .ok (.istore_n 1, 1) := by decide +kernel
theorem dX1_figuresOfToken_2 : decode cX1_figuresOfToken 2 = .ok (.aload_n 0, 1) := by decide +kernel
theorem dX1_figuresOfToken_3 : decode cX1_figuresOfToken 3 = .ok (.getfield 51, 3) := by decide +kernel
theorem dX1_figuresOfToken_6 : decode cX1_figuresOfToken 6 = .ok (.istore_n 2, 1) := by decide +kernel
theorem dX1_figuresOfToken_7 : decode cX1_figuresOfToken 7 = .ok (.iload_n 2, 1) := by decide +kernel
theorem dX1_figuresOfToken_8 : decode cX1_figuresOfToken 8 = .ok (.aload_n 0, 1) := by decide +kernel
theorem dX1_figuresOfToken_9 : decode cX1_figuresOfToken 9 = .ok (.getfield 38, 3) := by decide +kernel
theorem dX1_figuresOfToken_12 : decode cX1_figuresOfToken 12 = .ok (.if_icmp .ge 23, 3) := by decide +kernel
theorem dX1_figuresOfToken_15 : decode cX1_figuresOfToken 15 = .ok (.bipush 10, 2) := by decide +kernel
theorem dX1_figuresOfToken_17 : decode cX1_figuresOfToken 17 = .ok (.iload_n 1, 1) := by decide +kernel
theorem dX1_figuresOfToken_18 : decode cX1_figuresOfToken 18 = .ok (.imul, 1) := by decide +kernel
theorem dX1_figuresOfToken_19 : decode cX1_figuresOfToken 19 = .ok (.aload_n 0, 1) := by decide +kernel
theorem dX1_figuresOfToken_20 : decode cX1_figuresOfToken 20 = .ok (.iload_n 2, 1) := by decide +kernel
theorem dX1_figuresOfToken_21 : decode cX1_figuresOfToken 21 = .ok (.invokevirtual 99, 3) := by decide +kernel
theorem dX1_figuresOfToken_24 : decode cX1_figuresOfToken 24 = .ok (.bipush 48, 2) := by decide +kernel
theorem dX1_figuresOfToken_26 : decode cX1_figuresOfToken 26 = .ok (.isub, 1) := by decide +kernel
theorem dX1_figuresOfToken_27 : decode cX1_figuresOfToken 27 = .ok (.iadd, 1) := by decide +kernel
theorem dX1_figuresOfToken_28 : decode cX1_figuresOfToken 28 = .ok (.istore_n 1, 1) := by decide +kernel
theorem dX1_figuresOfToken_29 : decode cX1_figuresOfToken 29 = .ok (.iinc 2 1, 3) := by decide +kernel
theorem dX1_figuresOfToken_32 : decode cX1_figuresOfToken 32 = .ok (.goto (-25), 3) := by decide +kernel
theorem dX1_figuresOfToken_35 : decode cX1_figuresOfToken 35 = .ok (.iload_n 1, 1) := by decide +kernel
theorem dX1_figuresOfToken_36 : decode cX1_figuresOfToken 36 = .ok (.ireturn, 1) := by decide +kernel
set_option maxRecDepth 20000 in
theorem ggX1_thingOfToken_X1_byteAt : GoodIn wsX1_thingOfToken wsX1_byteAt := goodIn_r _ [8, 9, 10, 11, 15, 16, 17, 18, 19, 20, 21, 22, 23, 24] (by decide +kernel) (by decide +kernel)
set_option maxRecDepth 20000 in
theorem gX1_thingOfToken_X1_byteAt : GoodIn wsX1_thingOfToken (wsV RX1 99 RX1 yX1_byteAt wsX1_byteAt) := goodIn_app (goodIn_of _ (by decide +kernel)) ggX1_thingOfToken_X1_byteAt
set_option maxRecDepth 20000 in
theorem ggX1_thingOfToken_X7_isThing : GoodIn wsX1_thingOfToken wsX7_isThing := goodIn_r _ [14] (by decide +kernel) (by decide +kernel)
set_option maxRecDepth 20000 in
theorem gX1_thingOfToken_X7_isThing_n115 : GoodIn wsX1_thingOfToken (wsX7_isThing) := ggX1_thingOfToken_X7_isThing
theorem dX1_thingOfToken_0 : decode cX1_thingOfToken 0 = .ok (.aload_n 0, 1) := by decide +kernel
theorem dX1_thingOfToken_1 : decode cX1_thingOfToken 1 = .ok (.getfield 44, 3) := by decide +kernel
theorem dX1_thingOfToken_4 : decode cX1_thingOfToken 4 = .ok (.iconst 1, 1) := by decide +kernel
theorem dX1_thingOfToken_5 : decode cX1_thingOfToken 5 = .ok (.if_icmp .ne 20, 3) := by decide +kernel
theorem dX1_thingOfToken_8 : decode cX1_thingOfToken 8 = .ok (.aload_n 0, 1) := by decide +kernel
theorem dX1_thingOfToken_9 : decode cX1_thingOfToken 9 = .ok (.getfield 38, 3) := by decide +kernel
theorem dX1_thingOfToken_12 : decode cX1_thingOfToken 12 = .ok (.aload_n 0, 1) := by decide +kernel
theorem dX1_thingOfToken_13 : decode cX1_thingOfToken 13 = .ok (.getfield 51, 3) := by decide +kernel
theorem dX1_thingOfToken_16 : decode cX1_thingOfToken 16 = .ok (.isub, 1) := by decide +kernel
theorem dX1_thingOfToken_17 : decode cX1_thingOfToken 17 = .ok (.iconst 1, 1) := by decide +kernel
theorem dX1_thingOfToken_18 : decode cX1_thingOfToken 18 = .ok (.if_icmp .ne 7, 3) := by decide +kernel
theorem dX1_thingOfToken_21 : decode cX1_thingOfToken 21 = .ok (.iconst 1, 1) := by decide +kernel
theorem dX1_thingOfToken_22 : decode cX1_thingOfToken 22 = .ok (.goto 4, 3) := by decide +kernel
theorem dX1_thingOfToken_25 : decode cX1_thingOfToken 25 = .ok (.iconst 0, 1) := by decide +kernel
theorem dX1_thingOfToken_26 : decode cX1_thingOfToken 26 = .ok (.istore_n 1, 1) := by decide +kernel
theorem dX1_thingOfToken_27 : decode cX1_thingOfToken 27 = .ok (.aload_n 0, 1) := by decide +kernel
theorem dX1_thingOfToken_28 : decode cX1_thingOfToken 28 = .ok (.aload_n 0, 1) := by decide +kernel
theorem dX1_thingOfToken_29 : decode cX1_thingOfToken 29 = .ok (.getfield 51, 3) := by decide +kernel
theorem dX1_thingOfToken_32 : decode cX1_thingOfToken 32 = .ok (.invokevirtual 99, 3) := by decide +kernel
theorem dX1_thingOfToken_35 : decode cX1_thingOfToken 35 = .ok (.bipush 97, 2) := by decide +kernel
theorem dX1_thingOfToken_37 : decode cX1_thingOfToken 37 = .ok (.isub, 1) := by decide +kernel
theorem dX1_thingOfToken_38 : decode cX1_thingOfToken 38 = .ok (.istore_n 2, 1) := by decide +kernel
theorem dX1_thingOfToken_39 : decode cX1_thingOfToken 39 = .ok (.iload_n 1, 1) := by decide +kernel
theorem dX1_thingOfToken_40 : decode cX1_thingOfToken 40 = .ok (.ifCond .eq 14, 3) := by decide +kernel
theorem dX1_thingOfToken_43 : decode cX1_thingOfToken 43 = .ok (.iload_n 2, 1) := by decide +kernel
theorem dX1_thingOfToken_44 : decode cX1_thingOfToken 44 = .ok (.invokestatic 115, 3) := by decide +kernel
theorem dX1_thingOfToken_47 : decode cX1_thingOfToken 47 = .ok (.ifCond .eq 7, 3) := by decide +kernel
theorem dX1_thingOfToken_50 : decode cX1_thingOfToken 50 = .ok (.iload_n 2, 1) := by decide +kernel
theorem dX1_thingOfToken_51 : decode cX1_thingOfToken 51 = .ok (.goto 5, 3) := by decide +kernel
theorem dX1_thingOfToken_54 : decode cX1_thingOfToken 54 = .ok (.bipush (-4), 2) := by decide +kernel
theorem dX1_thingOfToken_56 : decode cX1_thingOfToken 56 = .ok (.ireturn, 1) := by decide +kernel
set_option maxRecDepth 20000 in
theorem ggX1_lineOfToken_X1_tokenIs : GoodIn wsX1_lineOfToken wsX1_tokenIs := goodIn_r _ [6, 7, 8, 9, 10, 11, 12, 13, 14, 15, 16, 17, 18, 19, 20, 21, 22, 23, 5, 24, 25, 26, 27, 28, 29, 30, 31, 32, 33, 34, 35, 36, 37, 38, 39, 40, 41, 42, 43, 44, 45, 46, 47, 48, 49, 50, 51, 52, 53, 54, 55, 56, 57, 58, 59, 60, 61, 62, 63, 64, 65, 66, 67, 68, 69, 70, 71, 72, 73, 74] (by decide +kernel) (by decide +kernel)
set_option maxRecDepth 20000 in
theorem gX1_lineOfToken_X1_tokenIs : GoodIn wsX1_lineOfToken (wsV RX1 120 RX1 yX1_tokenIs wsX1_tokenIs) := goodIn_app (goodIn_of _ (by decide +kernel)) ggX1_lineOfToken_X1_tokenIs
theorem dX1_lineOfToken_0 : decode cX1_lineOfToken 0 = .ok (.aload_n 0, 1) := by decide +kernel
theorem dX1_lineOfToken_1 : decode cX1_lineOfToken 1 = .ok (.getfield 44, 3) := by decide +kernel
theorem dX1_lineOfToken_4 : decode cX1_lineOfToken 4 = .ok (.iconst 1, 1) := by decide +kernel
theorem dX1_lineOfToken_5 : decode cX1_lineOfToken 5 = .ok (.if_icmp .eq 5, 3) := by decide +kernel
theorem dX1_lineOfToken_8 : decode cX1_lineOfToken 8 = .ok (.iconst (-1), 1) := by decide +kernel
theorem dX1_lineOfToken_9 : decode cX1_lineOfToken 9 = .ok (.ireturn, 1) := by decide +kernel
theorem dX1_lineOfToken_10 : decode cX1_lineOfToken 10 = .ok (.aload_n 0, 1) := by decide +kernel
theorem dX1_lineOfToken_11 : decode cX1_lineOfToken 11 = .ok (.ldc 118, 2) := by decide +kernel
theorem dX1_lineOfToken_13 : decode cX1_lineOfToken 13 = .ok (.invokevirtual 120, 3) := by decide +kernel
theorem dX1_lineOfToken_16 : decode cX1_lineOfToken 16 = .ok (.ifCond .eq 5, 3) := by decide +kernel
theorem dX1_lineOfToken_19 : decode cX1_lineOfToken 19 = .ok (.iconst 0, 1) := by decide +kernel
theorem dX1_lineOfToken_20 : decode cX1_lineOfToken 20 = .ok (.ireturn, 1) := by decide +kernel
theorem dX1_lineOfToken_21 : decode cX1_lineOfToken 21 = .ok (.aload_n 0, 1) := by decide +kernel
theorem dX1_lineOfToken_22 : decode cX1_lineOfToken 22 = .ok (.ldc 124, 2) := by decide +kernel
theorem dX1_lineOfToken_24 : decode cX1_lineOfToken 24 = .ok (.invokevirtual 120, 3) := by decide +kernel
theorem dX1_lineOfToken_27 : decode cX1_lineOfToken 27 = .ok (.ifCond .eq 5, 3) := by decide +kernel
theorem dX1_lineOfToken_30 : decode cX1_lineOfToken 30 = .ok (.iconst 1, 1) := by decide +kernel
theorem dX1_lineOfToken_31 : decode cX1_lineOfToken 31 = .ok (.ireturn, 1) := by decide +kernel
theorem dX1_lineOfToken_32 : decode cX1_lineOfToken 32 = .ok (.aload_n 0, 1) := by decide +kernel
theorem dX1_lineOfToken_33 : decode cX1_lineOfToken 33 = .ok (.ldc 126, 2) := by decide +kernel
theorem dX1_lineOfToken_35 : decode cX1_lineOfToken 35 = .ok (.invokevirtual 120, 3) := by decide +kernel
theorem dX1_lineOfToken_38 : decode cX1_lineOfToken 38 = .ok (.ifCond .eq 5, 3) := by decide +kernel
theorem dX1_lineOfToken_41 : decode cX1_lineOfToken 41 = .ok (.iconst 2, 1) := by decide +kernel
theorem dX1_lineOfToken_42 : decode cX1_lineOfToken 42 = .ok (.ireturn, 1) := by decide +kernel
theorem dX1_lineOfToken_43 : decode cX1_lineOfToken 43 = .ok (.aload_n 0, 1) := by decide +kernel
theorem dX1_lineOfToken_44 : decode cX1_lineOfToken 44 = .ok (.ldc 128, 2) := by decide +kernel
theorem dX1_lineOfToken_46 : decode cX1_lineOfToken 46 = .ok (.invokevirtual 120, 3) := by decide +kernel
theorem dX1_lineOfToken_49 : decode cX1_lineOfToken 49 = .ok (.ifCond .eq 5, 3) := by decide +kernel
theorem dX1_lineOfToken_52 : decode cX1_lineOfToken 52 = .ok (.iconst 3, 1) := by decide +kernel
theorem dX1_lineOfToken_53 : decode cX1_lineOfToken 53 = .ok (.ireturn, 1) := by decide +kernel
theorem dX1_lineOfToken_54 : decode cX1_lineOfToken 54 = .ok (.aload_n 0, 1) := by decide +kernel
theorem dX1_lineOfToken_55 : decode cX1_lineOfToken 55 = .ok (.ldc 130, 2) := by decide +kernel
theorem dX1_lineOfToken_57 : decode cX1_lineOfToken 57 = .ok (.invokevirtual 120, 3) := by decide +kernel
theorem dX1_lineOfToken_60 : decode cX1_lineOfToken 60 = .ok (.ifCond .eq 5, 3) := by decide +kernel
theorem dX1_lineOfToken_63 : decode cX1_lineOfToken 63 = .ok (.iconst 4, 1) := by decide +kernel
theorem dX1_lineOfToken_64 : decode cX1_lineOfToken 64 = .ok (.ireturn, 1) := by decide +kernel
theorem dX1_lineOfToken_65 : decode cX1_lineOfToken 65 = .ok (.aload_n 0, 1) := by decide +kernel
theorem dX1_lineOfToken_66 : decode cX1_lineOfToken 66 = .ok (.ldc 132, 2) := by decide +kernel
theorem dX1_lineOfToken_68 : decode cX1_lineOfToken 68 = .ok (.invokevirtual 120, 3) := by decide +kernel
theorem dX1_lineOfToken_71 : decode cX1_lineOfToken 71 = .ok (.ifCond .eq 7, 3) := by decide +kernel
theorem dX1_lineOfToken_74 : decode cX1_lineOfToken 74 = .ok (.iconst 5, 1) := by decide +kernel
theorem dX1_lineOfToken_75 : decode cX1_lineOfToken 75 = .ok (.goto 4, 3) := by decide +kernel
theorem dX1_lineOfToken_78 : decode cX1_lineOfToken 78 = .ok (.iconst (-1), 1) := by decide +kernel
theorem dX1_lineOfToken_79 : decode cX1_lineOfToken 79 = .ok (.ireturn, 1) := by decide +kernel
set_option maxRecDepth 20000 in
theorem ggX1_tokenIs_J0_length_8abf5 : GoodIn wsX1_tokenIs wsJ0_length_8abf5 := goodIn_r _ [7, 8, 9, 10, 11, 6, 12, 13, 14] (by decide +kernel) (by decide +kernel)
set_option maxRecDepth 20000 in
theorem gX1_tokenIs_J0_length_8abf5 : GoodIn wsX1_tokenIs (wsV RX1 134 RJ0 yJ0_length_8abf5 wsJ0_length_8abf5) := goodIn_app (goodIn_of _ (by decide +kernel)) ggX1_tokenIs_J0_length_8abf5
set_option maxRecDepth 20000 in
theorem ggX1_tokenIs_X1_byteAt : GoodIn wsX1_tokenIs wsX1_byteAt := goodIn_r _ [19, 20, 21, 22, 60, 61, 62, 63, 64, 65, 66, 67, 68, 69] (by decide +kernel) (by decide +kernel)
set_option maxRecDepth 20000 in
theorem gX1_tokenIs_X1_byteAt : GoodIn wsX1_tokenIs (wsV RX1 99 RX1 yX1_byteAt wsX1_byteAt) := goodIn_app (goodIn_of _ (by decide +kernel)) ggX1_tokenIs_X1_byteAt
set_option maxRecDepth 20000 in
theorem ggX1_tokenIs_J0_charAt_5068e : GoodIn wsX1_tokenIs wsJ0_charAt_5068e := goodIn_r _ [26, 8, 27, 28, 29, 6, 30, 13, 14, 31, 32, 33, 34, 35, 36, 37, 38, 39, 40, 41, 42, 43, 44, 45, 46, 47, 48, 49, 50, 51, 52, 53, 54, 55, 56, 57, 58, 59] (by decide +kernel) (by decide +kernel)
set_option maxRecDepth 20000 in
theorem gX1_tokenIs_J0_charAt_5068e : GoodIn wsX1_tokenIs (wsV RX1 139 RJ0 yJ0_charAt_5068e wsJ0_charAt_5068e) := goodIn_app (goodIn_of _ (by decide +kernel)) ggX1_tokenIs_J0_charAt_5068e
theorem dX1_tokenIs_0 : decode cX1_tokenIs 0 = .ok (.aload_n 0, 1) := by decide +kernel
theorem dX1_tokenIs_1 : decode cX1_tokenIs 1 = .ok (.getfield 38, 3) := by decide +kernel
theorem dX1_tokenIs_4 : decode cX1_tokenIs 4 = .ok (.aload_n 0, 1) := by decide +kernel
theorem dX1_tokenIs_5 : decode cX1_tokenIs 5 = .ok (.getfield 51, 3) := by decide +kernel
theorem dX1_tokenIs_8 : decode cX1_tokenIs 8 = .ok (.isub, 1) := by decide +kernel
theorem dX1_tokenIs_9 : decode cX1_tokenIs 9 = .ok (.aload_n 1, 1) := by decide +kernel
theorem dX1_tokenIs_10 : decode cX1_tokenIs 10 = .ok (.invokevirtual 134, 3) := by decide +kernel
theorem dX1_tokenIs_13 : decode cX1_tokenIs 13 = .ok (.if_icmp .eq 5, 3) := by decide +kernel
theorem dX1_tokenIs_16 : decode cX1_tokenIs 16 = .ok (.iconst 0, 1) := by decide +kernel
theorem dX1_tokenIs_17 : decode cX1_tokenIs 17 = .ok (.ireturn, 1) := by decide +kernel
theorem dX1_tokenIs_18 : decode cX1_tokenIs 18 = .ok (.iconst 0, 1) := by decide +kernel
theorem dX1_tokenIs_19 : decode cX1_tokenIs 19 = .ok (.istore_n 2, 1) := by decide +kernel
theorem dX1_tokenIs_20 : decode cX1_tokenIs 20 = .ok (.iload_n 2, 1) := by decide +kernel
theorem dX1_tokenIs_21 : decode cX1_tokenIs 21 = .ok (.aload_n 1, 1) := by decide +kernel
theorem dX1_tokenIs_22 : decode cX1_tokenIs 22 = .ok (.invokevirtual 134, 3) := by decide +kernel
theorem dX1_tokenIs_25 : decode cX1_tokenIs 25 = .ok (.if_icmp .ge 29, 3) := by decide +kernel
theorem dX1_tokenIs_28 : decode cX1_tokenIs 28 = .ok (.aload_n 0, 1) := by decide +kernel
theorem dX1_tokenIs_29 : decode cX1_tokenIs 29 = .ok (.aload_n 0, 1) := by decide +kernel
theorem dX1_tokenIs_30 : decode cX1_tokenIs 30 = .ok (.getfield 51, 3) := by decide +kernel
theorem dX1_tokenIs_33 : decode cX1_tokenIs 33 = .ok (.iload_n 2, 1) := by decide +kernel
theorem dX1_tokenIs_34 : decode cX1_tokenIs 34 = .ok (.iadd, 1) := by decide +kernel
theorem dX1_tokenIs_35 : decode cX1_tokenIs 35 = .ok (.invokevirtual 99, 3) := by decide +kernel
theorem dX1_tokenIs_38 : decode cX1_tokenIs 38 = .ok (.aload_n 1, 1) := by decide +kernel
theorem dX1_tokenIs_39 : decode cX1_tokenIs 39 = .ok (.iload_n 2, 1) := by decide +kernel
theorem dX1_tokenIs_40 : decode cX1_tokenIs 40 = .ok (.invokevirtual 139, 3) := by decide +kernel
theorem dX1_tokenIs_43 : decode cX1_tokenIs 43 = .ok (.if_icmp .eq 5, 3) := by decide +kernel
theorem dX1_tokenIs_46 : decode cX1_tokenIs 46 = .ok (.iconst 0, 1) := by decide +kernel
theorem dX1_tokenIs_47 : decode cX1_tokenIs 47 = .ok (.ireturn, 1) := by decide +kernel
theorem dX1_tokenIs_48 : decode cX1_tokenIs 48 = .ok (.iinc 2 1, 3) := by decide +kernel
theorem dX1_tokenIs_51 : decode cX1_tokenIs 51 = .ok (.goto (-31), 3) := by decide +kernel
theorem dX1_tokenIs_54 : decode cX1_tokenIs 54 = .ok (.iconst 1, 1) := by decide +kernel
theorem dX1_tokenIs_55 : decode cX1_tokenIs 55 = .ok (.ireturn, 1) := by decide +kernel
theorem dX2_init_0 : decode cX2_init 0 = .ok (.aload_n 0, 1) := by decide +kernel
theorem dX2_init_1 : decode cX2_init 1 = .ok (.invokespecial 3, 3) := by decide +kernel
theorem dX2_init_4 : decode cX2_init 4 = .ok (.aload_n 0, 1) := by decide +kernel
theorem dX2_init_5 : decode cX2_init 5 = .ok (.bipush 10, 2) := by decide +kernel
theorem dX2_init_7 : decode cX2_init 7 = .ok (.newarray .long, 2) := by decide +kernel
theorem dX2_init_9 : decode cX2_init 9 = .ok (.putfield 9, 3) := by decide +kernel
theorem dX2_init_12 : decode cX2_init 12 = .ok (.aload_n 0, 1) := by decide +kernel
theorem dX2_init_13 : decode cX2_init 13 = .ok (.bipush 10, 2) := by decide +kernel
theorem dX2_init_15 : decode cX2_init 15 = .ok (.bipush 10, 2) := by decide +kernel
theorem dX2_init_17 : decode cX2_init 17 = .ok (.multianewarray 15 2, 4) := by decide +kernel
theorem dX2_init_21 : decode cX2_init 21 = .ok (.putfield 17, 3) := by decide +kernel
theorem dX2_init_24 : decode cX2_init 24 = .ok (.return_, 1) := by decide +kernel
set_option maxRecDepth 20000 in
theorem ggX2_between_J7_fill_d0a16 : GoodIn wsX2_between wsJ7_fill_d0a16 := goodIn_r _ [7] (by decide +kernel) (by decide +kernel)
set_option maxRecDepth 20000 in
theorem gX2_between_J7_fill_d0a16 : GoodIn wsX2_between (va_wsS RX2 22 yJ7_fill_d0a16 wsJ7_fill_d0a16) := goodIn_app (goodIn_of _ (by decide +kernel)) ggX2_between_J7_fill_d0a16
set_option maxRecDepth 20000 in
theorem ggX2_between_X2_goOver : GoodIn wsX2_between wsX2_goOver := goodIn_r _ [12, 13, 1, 14, 2, 15, 16, 17, 18, 19, 20, 21, 24, 25, 26, 27, 28, 29, 30, 31, 22, 23] (by decide +kernel) (by decide +kernel)
set_option maxRecDepth 20000 in
theorem gX2_between_X2_goOver : GoodIn wsX2_between (wsV RX2 34 RX2 yX2_goOver wsX2_goOver) := goodIn_app (goodIn_of _ (by decide +kernel)) ggX2_between_X2_goOver
theorem dX2_between_0 : decode cX2_between 0 = .ok (.aload_n 0, 1) := by decide +kernel
theorem dX2_between_1 : decode cX2_between 1 = .ok (.getfield 9, 3) := by decide +kernel
theorem dX2_between_4 : decode cX2_between 4 = .ok (.ldc2_w 20, 3) := by decide +kernel
theorem dX2_between_7 : decode cX2_between 7 = .ok (.invokestatic 22, 3) := by decide +kernel
theorem dX2_between_10 : decode cX2_between 10 = .ok (.aload_n 0, 1) := by decide +kernel
theorem dX2_between_11 : decode cX2_between 11 = .ok (.getfield 9, 3) := by decide +kernel
theorem dX2_between_14 : decode cX2_between 14 = .ok (.iload_n 2, 1) := by decide +kernel
theorem dX2_between_15 : decode cX2_between 15 = .ok (.lconst 0, 1) := by decide +kernel
theorem dX2_between_16 : decode cX2_between 16 = .ok (.lastore, 1) := by decide +kernel
theorem dX2_between_17 : decode cX2_between 17 = .ok (.iconst 1, 1) := by decide +kernel
theorem dX2_between_18 : decode cX2_between 18 = .ok (.istore 5, 2) := by decide +kernel
theorem dX2_between_20 : decode cX2_between 20 = .ok (.iconst 0, 1) := by decide +kernel
theorem dX2_between_21 : decode cX2_between 21 = .ok (.istore 6, 2) := by decide +kernel
theorem dX2_between_23 : decode cX2_between 23 = .ok (.iload 6, 2) := by decide +kernel
theorem dX2_between_25 : decode cX2_between 25 = .ok (.bipush 10, 2) := by decide +kernel
theorem dX2_between_27 : decode cX2_between 27 = .ok (.if_icmp .ge 27, 3) := by decide +kernel
theorem dX2_between_30 : decode cX2_between 30 = .ok (.iload 5, 2) := by decide +kernel
theorem dX2_between_32 : decode cX2_between 32 = .ok (.ifCond .eq 22, 3) := by decide +kernel
theorem dX2_between_35 : decode cX2_between 35 = .ok (.aload_n 0, 1) := by decide +kernel
theorem dX2_between_36 : decode cX2_between 36 = .ok (.aload_n 1, 1) := by decide +kernel
theorem dX2_between_37 : decode cX2_between 37 = .ok (.aload_n 1, 1) := by decide +kernel
theorem dX2_between_38 : decode cX2_between 38 = .ok (.getfield 28, 3) := by decide +kernel
theorem dX2_between_41 : decode cX2_between 41 = .ok (.iload 4, 2) := by decide +kernel
theorem dX2_between_43 : decode cX2_between 43 = .ok (.invokevirtual 34, 3) := by decide +kernel
theorem dX2_between_46 : decode cX2_between 46 = .ok (.istore 5, 2) := by decide +kernel
theorem dX2_between_48 : decode cX2_between 48 = .ok (.iinc 6 1, 3) := by decide +kernel
theorem dX2_between_51 : decode cX2_between 51 = .ok (.goto (-28), 3) := by decide +kernel
theorem dX2_between_54 : decode cX2_between 54 = .ok (.aload_n 0, 1) := by decide +kernel
theorem dX2_between_55 : decode cX2_between 55 = .ok (.getfield 9, 3) := by decide +kernel
theorem dX2_between_58 : decode cX2_between 58 = .ok (.iload_n 3, 1) := by decide +kernel
theorem dX2_between_59 : decode cX2_between 59 = .ok (.laload, 1) := by decide +kernel
theorem dX2_between_60 : decode cX2_between 60 = .ok (.lreturn, 1) := by decide +kernel
set_option maxRecDepth 20000 in
theorem ggX2_highOf_X2_canHold : GoodIn wsX2_highOf wsX2_canHold := goodIn_r _ [7, 2, 8, 9, 10, 11, 12, 13, 14, 6, 15, 16, 17, 18, 19, 20, 21, 22, 23, 24, 25, 34, 35, 26, 27, 28, 29, 30, 31, 32, 33] (by decide +kernel) (by decide +kernel)
set_option maxRecDepth 20000 in
theorem gX2_highOf_X2_canHold : GoodIn wsX2_highOf (wsV RX2 38 RX2 yX2_canHold wsX2_canHold) := goodIn_app (goodIn_of _ (by decide +kernel)) ggX2_highOf_X2_canHold
theorem dX2_highOf_0 : decode cX2_highOf 0 = .ok (.aload_n 0, 1) := by decide +kernel
theorem dX2_highOf_1 : decode cX2_highOf 1 = .ok (.aload_n 1, 1) := by decide +kernel
theorem dX2_highOf_2 : decode cX2_highOf 2 = .ok (.aload_n 1, 1) := by decide +kernel
theorem dX2_highOf_3 : decode cX2_highOf 3 = .ok (.getfield 28, 3) := by decide +kernel
theorem dX2_highOf_6 : decode cX2_highOf 6 = .ok (.invokevirtual 38, 3) := by decide +kernel
theorem dX2_highOf_9 : decode cX2_highOf 9 = .ok (.pop, 1) := by decide +kernel
theorem dX2_highOf_10 : decode cX2_highOf 10 = .ok (.aload_n 0, 1) := by decide +kernel
theorem dX2_highOf_11 : decode cX2_highOf 11 = .ok (.getfield 9, 3) := by decide +kernel
theorem dX2_highOf_14 : decode cX2_highOf 14 = .ok (.iload_n 2, 1) := by decide +kernel
theorem dX2_highOf_15 : decode cX2_highOf 15 = .ok (.laload, 1) := by decide +kernel
theorem dX2_highOf_16 : decode cX2_highOf 16 = .ok (.lreturn, 1) := by decide +kernel
set_option maxRecDepth 20000 in
theorem ggX2_canHold_J7_fill_d0a16 : GoodIn wsX2_canHold wsJ7_fill_d0a16 := goodIn_r _ [5] (by decide +kernel) (by decide +kernel)
set_option maxRecDepth 20000 in
theorem gX2_canHold_J7_fill_d0a16 : GoodIn wsX2_canHold (va_wsS RX2 22 yJ7_fill_d0a16 wsJ7_fill_d0a16) := goodIn_app (goodIn_of _ (by decide +kernel)) ggX2_canHold_J7_fill_d0a16
set_option maxRecDepth 20000 in
theorem ggX2_canHold_X2_goOver : GoodIn wsX2_canHold wsX2_goOver := goodIn_r _ [10, 11, 1, 12, 13, 14, 15, 16, 17, 18, 19, 20, 23, 24, 25, 26, 27, 28, 29, 30, 21, 22] (by decide +kernel) (by decide +kernel)
set_option maxRecDepth 20000 in
theorem gX2_canHold_X2_goOver : GoodIn wsX2_canHold (wsV RX2 34 RX2 yX2_goOver wsX2_goOver) := goodIn_app (goodIn_of _ (by decide +kernel)) ggX2_canHold_X2_goOver
theorem dX2_canHold_0 : decode cX2_canHold 0 = .ok (.aload_n 0, 1) := by decide +kernel
theorem dX2_canHold_1 : decode cX2_canHold 1 = .ok (.getfield 9, 3) := by decide +kernel
theorem dX2_canHold_4 : decode cX2_canHold 4 = .ok (.lconst 0, 1) := by decide +kernel
theorem dX2_canHold_5 : decode cX2_canHold 5 = .ok (.invokestatic 22, 3) := by decide +kernel
theorem dX2_canHold_8 : decode cX2_canHold 8 = .ok (.iconst 1, 1) := by decide +kernel
theorem dX2_canHold_9 : decode cX2_canHold 9 = .ok (.istore_n 3, 1) := by decide +kernel
theorem dX2_canHold_10 : decode cX2_canHold 10 = .ok (.iconst 0, 1) := by decide +kernel
theorem dX2_canHold_11 : decode cX2_canHold 11 = .ok (.istore 4, 2) := by decide +kernel
theorem dX2_canHold_13 : decode cX2_canHold 13 = .ok (.iload 4, 2) := by decide +kernel
theorem dX2_canHold_15 : decode cX2_canHold 15 = .ok (.bipush 10, 2) := by decide +kernel
theorem dX2_canHold_17 : decode cX2_canHold 17 = .ok (.if_icmp .ge 21, 3) := by decide +kernel
theorem dX2_canHold_20 : decode cX2_canHold 20 = .ok (.iload_n 3, 1) := by decide +kernel
theorem dX2_canHold_21 : decode cX2_canHold 21 = .ok (.ifCond .eq 17, 3) := by decide +kernel
theorem dX2_canHold_24 : decode cX2_canHold 24 = .ok (.aload_n 0, 1) := by decide +kernel
theorem dX2_canHold_25 : decode cX2_canHold 25 = .ok (.aload_n 1, 1) := by decide +kernel
theorem dX2_canHold_26 : decode cX2_canHold 26 = .ok (.iload_n 2, 1) := by decide +kernel
theorem dX2_canHold_27 : decode cX2_canHold 27 = .ok (.iconst (-1), 1) := by decide +kernel
theorem dX2_canHold_28 : decode cX2_canHold 28 = .ok (.invokevirtual 34, 3) := by decide +kernel
theorem dX2_canHold_31 : decode cX2_canHold 31 = .ok (.istore_n 3, 1) := by decide +kernel
theorem dX2_canHold_32 : decode cX2_canHold 32 = .ok (.iinc 4 1, 3) := by decide +kernel
theorem dX2_canHold_35 : decode cX2_canHold 35 = .ok (.goto (-22), 3) := by decide +kernel
theorem dX2_canHold_38 : decode cX2_canHold 38 = .ok (.iload_n 3, 1) := by decide +kernel
theorem dX2_canHold_39 : decode cX2_canHold 39 = .ok (.ifCond .ne 7, 3) := by decide +kernel
theorem dX2_canHold_42 : decode cX2_canHold 42 = .ok (.iconst 1, 1) := by decide +kernel
theorem dX2_canHold_43 : decode cX2_canHold 43 = .ok (.goto 4, 3) := by decide +kernel
theorem dX2_canHold_46 : decode cX2_canHold 46 = .ok (.iconst 0, 1) := by decide +kernel
theorem dX2_canHold_47 : decode cX2_canHold 47 = .ok (.ireturn, 1) := by decide +kernel
set_option maxRecDepth 20000 in
theorem ggX2_groups_X2_between : GoodIn wsX2_groups wsX2_between := goodIn_r _ [11, 1, 12, 13, 14, 15, 16, 17, 18, 19, 20, 10, 21, 22, 23, 24, 25, 26, 27, 28, 29, 30, 38, 39, 40, 41, 42, 43, 44, 45, 46, 47] (by decide +kernel) (by decide +kernel)
set_option maxRecDepth 20000 in
theorem gX2_groups_X2_between : GoodIn wsX2_groups (wsV RX2 42 RX2 yX2_between wsX2_between) := goodIn_app (goodIn_of _ (by decide +kernel)) ggX2_groups_X2_between
set_option maxRecDepth 20000 in
theorem ggX2_groups_X2_isFirstOfGroup : GoodIn wsX2_groups wsX2_isFirstOfGroup := goodIn_r _ [34, 2, 35, 28, 36, 37, 38, 39] (by decide +kernel) (by decide +kernel)
set_option maxRecDepth 20000 in
theorem gX2_groups_X2_isFirstOfGroup : GoodIn wsX2_groups (wsV RX2 52 RX2 yX2_isFirstOfGroup wsX2_isFirstOfGroup) := goodIn_app (goodIn_of _ (by decide +kernel)) ggX2_groups_X2_isFirstOfGroup
theorem dX2_groups_0 : decode cX2_groups 0 = .ok (.iconst 0, 1) := by decide +kernel
theorem dX2_groups_1 : decode cX2_groups 1 = .ok (.istore_n 2, 1) := by decide +kernel
theorem dX2_groups_2 : decode cX2_groups 2 = .ok (.iload_n 2, 1) := by decide +kernel
theorem dX2_groups_3 : decode cX2_groups 3 = .ok (.bipush 10, 2) := by decide +kernel
theorem dX2_groups_5 : decode cX2_groups 5 = .ok (.if_icmp .ge 35, 3) := by decide +kernel
theorem dX2_groups_8 : decode cX2_groups 8 = .ok (.aload_n 0, 1) := by decide +kernel
theorem dX2_groups_9 : decode cX2_groups 9 = .ok (.aload_n 1, 1) := by decide +kernel
theorem dX2_groups_10 : decode cX2_groups 10 = .ok (.iload_n 2, 1) := by decide +kernel
theorem dX2_groups_11 : decode cX2_groups 11 = .ok (.iload_n 2, 1) := by decide +kernel
theorem dX2_groups_12 : decode cX2_groups 12 = .ok (.iconst (-1), 1) := by decide +kernel
theorem dX2_groups_13 : decode cX2_groups 13 = .ok (.invokevirtual 42, 3) := by decide +kernel
theorem dX2_groups_16 : decode cX2_groups 16 = .ok (.pop2, 1) := by decide +kernel
theorem dX2_groups_17 : decode cX2_groups 17 = .ok (.aload_n 0, 1) := by decide +kernel
theorem dX2_groups_18 : decode cX2_groups 18 = .ok (.getfield 9, 3) := by decide +kernel
theorem dX2_groups_21 : decode cX2_groups 21 = .ok (.iconst 0, 1) := by decide +kernel
theorem dX2_groups_22 : decode cX2_groups 22 = .ok (.aload_n 0, 1) := by decide +kernel
theorem dX2_groups_23 : decode cX2_groups 23 = .ok (.getfield 17, 3) := by decide +kernel
theorem dX2_groups_26 : decode cX2_groups 26 = .ok (.iload_n 2, 1) := by decide +kernel
theorem dX2_groups_27 : decode cX2_groups 27 = .ok (.aaload, 1) := by decide +kernel
theorem dX2_groups_28 : decode cX2_groups 28 = .ok (.iconst 0, 1) := by decide +kernel
theorem dX2_groups_29 : decode cX2_groups 29 = .ok (.bipush 10, 2) := by decide +kernel
theorem dX2_groups_31 : decode cX2_groups 31 = .ok (.invokestatic 46, 3) := by decide +kernel
theorem dX2_groups_34 : decode cX2_groups 34 = .ok (.iinc 2 1, 3) := by decide +kernel
theorem dX2_groups_37 : decode cX2_groups 37 = .ok (.goto (-35), 3) := by decide +kernel
theorem dX2_groups_40 : decode cX2_groups 40 = .ok (.iconst 0, 1) := by decide +kernel
theorem dX2_groups_41 : decode cX2_groups 41 = .ok (.istore_n 2, 1) := by decide +kernel
theorem dX2_groups_42 : decode cX2_groups 42 = .ok (.iconst 0, 1) := by decide +kernel
theorem dX2_groups_43 : decode cX2_groups 43 = .ok (.istore_n 3, 1) := by decide +kernel
theorem dX2_groups_44 : decode cX2_groups 44 = .ok (.iload_n 3, 1) := by decide +kernel
theorem dX2_groups_45 : decode cX2_groups 45 = .ok (.bipush 10, 2) := by decide +kernel
theorem dX2_groups_47 : decode cX2_groups 47 = .ok (.if_icmp .ge 20, 3) := by decide +kernel
theorem dX2_groups_50 : decode cX2_groups 50 = .ok (.aload_n 0, 1) := by decide +kernel
theorem dX2_groups_51 : decode cX2_groups 51 = .ok (.iload_n 3, 1) := by decide +kernel
theorem dX2_groups_52 : decode cX2_groups 52 = .ok (.invokevirtual 52, 3) := by decide +kernel
theorem dX2_groups_55 : decode cX2_groups 55 = .ok (.ifCond .eq 6, 3) := by decide +kernel
theorem dX2_groups_58 : decode cX2_groups 58 = .ok (.iinc 2 1, 3) := by decide +kernel
theorem dX2_groups_61 : decode cX2_groups 61 = .ok (.iinc 3 1, 3) := by decide +kernel
theorem dX2_groups_64 : decode cX2_groups 64 = .ok (.goto (-20), 3) := by decide +kernel
theorem dX2_groups_67 : decode cX2_groups 67 = .ok (.iload_n 2, 1) := by decide +kernel
theorem dX2_groups_68 : decode cX2_groups 68 = .ok (.ireturn, 1) := by decide +kernel
set_option maxRecDepth 20000 in
theorem ggX2_isFirstOfGroup_X7_sumToNothing : GoodIn wsX2_isFirstOfGroup wsX7_sumToNothing := goodIn_r _ [4, 5] (by decide +kernel) (by decide +kernel)
set_option maxRecDepth 20000 in
theorem gX2_isFirstOfGroup_X7_sumToNothing_n56 : GoodIn wsX2_isFirstOfGroup (wsX7_sumToNothing) := ggX2_isFirstOfGroup_X7_sumToNothing
theorem dX2_isFirstOfGroup_0 : decode cX2_isFirstOfGroup 0 = .ok (.iconst 0, 1) := by decide +kernel
theorem dX2_isFirstOfGroup_1 : decode cX2_isFirstOfGroup 1 = .ok (.istore_n 2, 1) := by decide +kernel
theorem dX2_isFirstOfGroup_2 : decode cX2_isFirstOfGroup 2 = .ok (.iload_n 2, 1) := by decide +kernel
theorem dX2_isFirstOfGroup_3 : decode cX2_isFirstOfGroup 3 = .ok (.iload_n 1, 1) := by decide +kernel
theorem dX2_isFirstOfGroup_4 : decode cX2_isFirstOfGroup 4 = .ok (.if_icmp .ge 33, 3) := by decide +kernel
theorem dX2_isFirstOfGroup_7 : decode cX2_isFirstOfGroup 7 = .ok (.aload_n 0, 1) := by decide +kernel
theorem dX2_isFirstOfGroup_8 : decode cX2_isFirstOfGroup 8 = .ok (.getfield 17, 3) := by decide +kernel
theorem dX2_isFirstOfGroup_11 : decode cX2_isFirstOfGroup 11 = .ok (.iload_n 2, 1) := by decide +kernel
theorem dX2_isFirstOfGroup_12 : decode cX2_isFirstOfGroup 12 = .ok (.aaload, 1) := by decide +kernel
theorem dX2_isFirstOfGroup_13 : decode cX2_isFirstOfGroup 13 = .ok (.iload_n 1, 1) := by decide +kernel
theorem dX2_isFirstOfGroup_14 : decode cX2_isFirstOfGroup 14 = .ok (.laload, 1) := by decide +kernel
theorem dX2_isFirstOfGroup_15 : decode cX2_isFirstOfGroup 15 = .ok (.aload_n 0, 1) := by decide +kernel
theorem dX2_isFirstOfGroup_16 : decode cX2_isFirstOfGroup 16 = .ok (.getfield 17, 3) := by decide +kernel
theorem dX2_isFirstOfGroup_19 : decode cX2_isFirstOfGroup 19 = .ok (.iload_n 1, 1) := by decide +kernel
theorem dX2_isFirstOfGroup_20 : decode cX2_isFirstOfGroup 20 = .ok (.aaload, 1) := by decide +kernel
theorem dX2_isFirstOfGroup_21 : decode cX2_isFirstOfGroup 21 = .ok (.iload_n 2, 1) := by decide +kernel
theorem dX2_isFirstOfGroup_22 : decode cX2_isFirstOfGroup 22 = .ok (.laload, 1) := by decide +kernel
theorem dX2_isFirstOfGroup_23 : decode cX2_isFirstOfGroup 23 = .ok (.invokestatic 56, 3) := by decide +kernel
theorem dX2_isFirstOfGroup_26 : decode cX2_isFirstOfGroup 26 = .ok (.ifCond .eq 5, 3) := by decide +kernel
theorem dX2_isFirstOfGroup_29 : decode cX2_isFirstOfGroup 29 = .ok (.iconst 0, 1) := by decide +kernel
theorem dX2_isFirstOfGroup_30 : decode cX2_isFirstOfGroup 30 = .ok (.ireturn, 1) := by decide +kernel
theorem dX2_isFirstOfGroup_31 : decode cX2_isFirstOfGroup 31 = .ok (.iinc 2 1, 3) := by decide +kernel
theorem dX2_isFirstOfGroup_34 : decode cX2_isFirstOfGroup 34 = .ok (.goto (-32), 3) := by decide +kernel
theorem dX2_isFirstOfGroup_37 : decode cX2_isFirstOfGroup 37 = .ok (.iconst 1, 1) := by decide +kernel
theorem dX2_isFirstOfGroup_38 : decode cX2_isFirstOfGroup 38 = .ok (.ireturn, 1) := by decide +kernel
set_option maxRecDepth 20000 in
theorem ggX2_goOver_X7_weigh : GoodIn wsX2_goOver wsX7_weigh := goodIn_r _ [10, 11] (by decide +kernel) (by decide +kernel)
set_option maxRecDepth 20000 in
theorem gX2_goOver_X7_weigh_n73 : GoodIn wsX2_goOver (wsX7_weigh) := ggX2_goOver_X7_weigh
theorem dX2_goOver_0 : decode cX2_goOver 0 = .ok (.iconst 0, 1) := by decide +kernel
theorem dX2_goOver_1 : decode cX2_goOver 1 = .ok (.istore 4, 2) := by decide +kernel
theorem dX2_goOver_3 : decode cX2_goOver 3 = .ok (.iconst 0, 1) := by decide +kernel
theorem dX2_goOver_4 : decode cX2_goOver 4 = .ok (.istore 5, 2) := by decide +kernel
theorem dX2_goOver_6 : decode cX2_goOver 6 = .ok (.iload 5, 2) := by decide +kernel
theorem dX2_goOver_8 : decode cX2_goOver 8 = .ok (.aload_n 1, 1) := by decide +kernel
theorem dX2_goOver_9 : decode cX2_goOver 9 = .ok (.getfield 60, 3) := by decide +kernel
theorem dX2_goOver_12 : decode cX2_goOver 12 = .ok (.if_icmp .ge 96, 3) := by decide +kernel
theorem dX2_goOver_15 : decode cX2_goOver 15 = .ok (.aload_n 0, 1) := by decide +kernel
theorem dX2_goOver_16 : decode cX2_goOver 16 = .ok (.getfield 9, 3) := by decide +kernel
theorem dX2_goOver_19 : decode cX2_goOver 19 = .ok (.aload_n 1, 1) := by decide +kernel
theorem dX2_goOver_20 : decode cX2_goOver 20 = .ok (.getfield 63, 3) := by decide +kernel
theorem dX2_goOver_23 : decode cX2_goOver 23 = .ok (.iload 5, 2) := by decide +kernel
theorem dX2_goOver_25 : decode cX2_goOver 25 = .ok (.iaload, 1) := by decide +kernel
theorem dX2_goOver_26 : decode cX2_goOver 26 = .ok (.laload, 1) := by decide +kernel
theorem dX2_goOver_27 : decode cX2_goOver 27 = .ok (.lstore 6, 2) := by decide +kernel
theorem dX2_goOver_29 : decode cX2_goOver 29 = .ok (.iload 5, 2) := by decide +kernel
theorem dX2_goOver_31 : decode cX2_goOver 31 = .ok (.iload_n 3, 1) := by decide +kernel
theorem dX2_goOver_32 : decode cX2_goOver 32 = .ok (.if_icmp .eq 70, 3) := by decide +kernel
theorem dX2_goOver_35 : decode cX2_goOver 35 = .ok (.lload 6, 2) := by decide +kernel
theorem dX2_goOver_37 : decode cX2_goOver 37 = .ok (.ldc2_w 20, 3) := by decide +kernel
theorem dX2_goOver_40 : decode cX2_goOver 40 = .ok (.lcmp, 1) := by decide +kernel
theorem dX2_goOver_41 : decode cX2_goOver 41 = .ok (.ifCond .eq 61, 3) := by decide +kernel
theorem dX2_goOver_44 : decode cX2_goOver 44 = .ok (.lload 6, 2) := by decide +kernel
theorem dX2_goOver_46 : decode cX2_goOver 46 = .ok (.aload_n 1, 1) := by decide +kernel
theorem dX2_goOver_47 : decode cX2_goOver 47 = .ok (.getfield 67, 3) := by decide +kernel
theorem dX2_goOver_50 : decode cX2_goOver 50 = .ok (.iload 5, 2) := by decide +kernel
theorem dX2_goOver_52 : decode cX2_goOver 52 = .ok (.iaload, 1) := by decide +kernel
theorem dX2_goOver_53 : decode cX2_goOver 53 = .ok (.aload_n 1, 1) := by decide +kernel
theorem dX2_goOver_54 : decode cX2_goOver 54 = .ok (.getfield 70, 3) := by decide +kernel
theorem dX2_goOver_57 : decode cX2_goOver 57 = .ok (.iload 5, 2) := by decide +kernel
theorem dX2_goOver_59 : decode cX2_goOver 59 = .ok (.iaload, 1) := by decide +kernel
theorem dX2_goOver_60 : decode cX2_goOver 60 = .ok (.iload_n 2, 1) := by decide +kernel
theorem dX2_goOver_61 : decode cX2_goOver 61 = .ok (.invokestatic 73, 3) := by decide +kernel
theorem dX2_goOver_64 : decode cX2_goOver 64 = .ok (.ladd, 1) := by decide +kernel
theorem dX2_goOver_65 : decode cX2_goOver 65 = .ok (.lstore 8, 2) := by decide +kernel
theorem dX2_goOver_67 : decode cX2_goOver 67 = .ok (.lload 8, 2) := by decide +kernel
theorem dX2_goOver_69 : decode cX2_goOver 69 = .ok (.aload_n 0, 1) := by decide +kernel
theorem dX2_goOver_70 : decode cX2_goOver 70 = .ok (.getfield 9, 3) := by decide +kernel
theorem dX2_goOver_73 : decode cX2_goOver 73 = .ok (.aload_n 1, 1) := by decide +kernel
theorem dX2_goOver_74 : decode cX2_goOver 74 = .ok (.getfield 77, 3) := by decide +kernel
theorem dX2_goOver_77 : decode cX2_goOver 77 = .ok (.iload 5, 2) := by decide +kernel
theorem dX2_goOver_79 : decode cX2_goOver 79 = .ok (.iaload, 1) := by decide +kernel
theorem dX2_goOver_80 : decode cX2_goOver 80 = .ok (.laload, 1) := by decide +kernel
theorem dX2_goOver_81 : decode cX2_goOver 81 = .ok (.lcmp, 1) := by decide +kernel
theorem dX2_goOver_82 : decode cX2_goOver 82 = .ok (.ifCond .ge 20, 3) := by decide +kernel
theorem dX2_goOver_85 : decode cX2_goOver 85 = .ok (.aload_n 0, 1) := by decide +kernel
theorem dX2_goOver_86 : decode cX2_goOver 86 = .ok (.getfield 9, 3) := by decide +kernel
theorem dX2_goOver_89 : decode cX2_goOver 89 = .ok (.aload_n 1, 1) := by decide +kernel
theorem dX2_goOver_90 : decode cX2_goOver 90 = .ok (.getfield 77, 3) := by decide +kernel
theorem dX2_goOver_93 : decode cX2_goOver 93 = .ok (.iload 5, 2) := by decide +kernel
theorem dX2_goOver_95 : decode cX2_goOver 95 = .ok (.iaload, 1) := by decide +kernel
theorem dX2_goOver_96 : decode cX2_goOver 96 = .ok (.lload 8, 2) := by decide +kernel
theorem dX2_goOver_98 : decode cX2_goOver 98 = .ok (.lastore, 1) := by decide +kernel
theorem dX2_goOver_99 : decode cX2_goOver 99 = .ok (.iconst 1, 1) := by decide +kernel
theorem dX2_goOver_100 : decode cX2_goOver 100 = .ok (.istore 4, 2) := by decide +kernel
theorem dX2_goOver_102 : decode cX2_goOver 102 = .ok (.iinc 5 1, 3) := by decide +kernel
theorem dX2_goOver_105 : decode cX2_goOver 105 = .ok (.goto (-99), 3) := by decide +kernel
theorem dX2_goOver_108 : decode cX2_goOver 108 = .ok (.iload 4, 2) := by decide +kernel
theorem dX2_goOver_110 : decode cX2_goOver 110 = .ok (.ireturn, 1) := by decide +kernel
theorem dX3_init_0 : decode cX3_init 0 = .ok (.aload_n 0, 1) := by decide +kernel
theorem dX3_init_1 : decode cX3_init 1 = .ok (.invokespecial 3, 3) := by decide +kernel
theorem dX3_init_4 : decode cX3_init 4 = .ok (.aload_n 0, 1) := by decide +kernel
theorem dX3_init_5 : decode cX3_init 5 = .ok (.bipush 40, 2) := by decide +kernel
theorem dX3_init_7 : decode cX3_init 7 = .ok (.newarray .int, 2) := by decide +kernel
theorem dX3_init_9 : decode cX3_init 9 = .ok (.putfield 9, 3) := by decide +kernel
theorem dX3_init_12 : decode cX3_init 12 = .ok (.aload_n 0, 1) := by decide +kernel
theorem dX3_init_13 : decode cX3_init 13 = .ok (.iconst (-1), 1) := by decide +kernel
theorem dX3_init_14 : decode cX3_init 14 = .ok (.putfield 15, 3) := by decide +kernel
theorem dX3_init_17 : decode cX3_init 17 = .ok (.return_, 1) := by decide +kernel
set_option maxRecDepth 20000 in
theorem ggX3_renew_J7_fill_53178 : GoodIn wsX3_renew wsJ7_fill_53178 := goodIn_r _ [7] (by decide +kernel) (by decide +kernel)
set_option maxRecDepth 20000 in
theorem gX3_renew_J7_fill_53178 : GoodIn wsX3_renew (va_wsS RX3 19 yJ7_fill_53178 wsJ7_fill_53178) := goodIn_app (goodIn_of _ (by decide +kernel)) ggX3_renew_J7_fill_53178
theorem dX3_renew_0 : decode cX3_renew 0 = .ok (.aload_n 0, 1) := by decide +kernel
theorem dX3_renew_1 : decode cX3_renew 1 = .ok (.getfield 9, 3) := by decide +kernel
theorem dX3_renew_4 : decode cX3_renew 4 = .ok (.iconst 0, 1) := by decide +kernel
theorem dX3_renew_5 : decode cX3_renew 5 = .ok (.invokestatic 19, 3) := by decide +kernel
theorem dX3_renew_8 : decode cX3_renew 8 = .ok (.aload_n 0, 1) := by decide +kernel
theorem dX3_renew_9 : decode cX3_renew 9 = .ok (.iload_n 1, 1) := by decide +kernel
theorem dX3_renew_10 : decode cX3_renew 10 = .ok (.putfield 15, 3) := by decide +kernel
theorem dX3_renew_13 : decode cX3_renew 13 = .ok (.aload_n 0, 1) := by decide +kernel
theorem dX3_renew_14 : decode cX3_renew 14 = .ok (.iload_n 2, 1) := by decide +kernel
theorem dX3_renew_15 : decode cX3_renew 15 = .ok (.putfield 25, 3) := by decide +kernel
theorem dX3_renew_18 : decode cX3_renew 18 = .ok (.return_, 1) := by decide +kernel
theorem dX3_faultAt_0 : decode cX3_faultAt 0 = .ok (.aload_n 0, 1) := by decide +kernel
theorem dX3_faultAt_1 : decode cX3_faultAt 1 = .ok (.getfield 15, 3) := by decide +kernel
theorem dX3_faultAt_4 : decode cX3_faultAt 4 = .ok (.iconst (-1), 1) := by decide +kernel
theorem dX3_faultAt_5 : decode cX3_faultAt 5 = .ok (.if_icmp .ne 5, 3) := by decide +kernel
theorem dX3_faultAt_8 : decode cX3_faultAt 8 = .ok (.iconst 1, 1) := by decide +kernel
theorem dX3_faultAt_9 : decode cX3_faultAt 9 = .ok (.ireturn, 1) := by decide +kernel
theorem dX3_faultAt_10 : decode cX3_faultAt 10 = .ok (.aload_n 0, 1) := by decide +kernel
theorem dX3_faultAt_11 : decode cX3_faultAt 11 = .ok (.getfield 15, 3) := by decide +kernel
theorem dX3_faultAt_14 : decode cX3_faultAt 14 = .ok (.iload_n 1, 1) := by decide +kernel
theorem dX3_faultAt_15 : decode cX3_faultAt 15 = .ok (.if_icmp .eq 5, 3) := by decide +kernel
theorem dX3_faultAt_18 : decode cX3_faultAt 18 = .ok (.iconst 3, 1) := by decide +kernel
theorem dX3_faultAt_19 : decode cX3_faultAt 19 = .ok (.ireturn, 1) := by decide +kernel
theorem dX3_faultAt_20 : decode cX3_faultAt 20 = .ok (.lload_n 2, 1) := by decide +kernel
theorem dX3_faultAt_21 : decode cX3_faultAt 21 = .ok (.lconst 0, 1) := by decide +kernel
theorem dX3_faultAt_22 : decode cX3_faultAt 22 = .ok (.lcmp, 1) := by decide +kernel
theorem dX3_faultAt_23 : decode cX3_faultAt 23 = .ok (.ifCond .lt 17, 3) := by decide +kernel
theorem dX3_faultAt_26 : decode cX3_faultAt 26 = .ok (.lload_n 2, 1) := by decide +kernel
theorem dX3_faultAt_27 : decode cX3_faultAt 27 = .ok (.iload 4, 2) := by decide +kernel
theorem dX3_faultAt_29 : decode cX3_faultAt 29 = .ok (.i2l, 1) := by decide +kernel
theorem dX3_faultAt_30 : decode cX3_faultAt 30 = .ok (.ladd, 1) := by decide +kernel
theorem dX3_faultAt_31 : decode cX3_faultAt 31 = .ok (.aload_n 0, 1) := by decide +kernel
theorem dX3_faultAt_32 : decode cX3_faultAt 32 = .ok (.getfield 25, 3) := by decide +kernel
theorem dX3_faultAt_35 : decode cX3_faultAt 35 = .ok (.i2l, 1) := by decide +kernel
theorem dX3_faultAt_36 : decode cX3_faultAt 36 = .ok (.lcmp, 1) := by decide +kernel
theorem dX3_faultAt_37 : decode cX3_faultAt 37 = .ok (.ifCond .le 7, 3) := by decide +kernel
theorem dX3_faultAt_40 : decode cX3_faultAt 40 = .ok (.iconst 2, 1) := by decide +kernel
theorem dX3_faultAt_41 : decode cX3_faultAt 41 = .ok (.goto 4, 3) := by decide +kernel
theorem dX3_faultAt_44 : decode cX3_faultAt 44 = .ok (.iconst 0, 1) := by decide +kernel
theorem dX3_faultAt_45 : decode cX3_faultAt 45 = .ok (.ireturn, 1) := by decide +kernel
theorem dX3_put_0 : decode cX3_put 0 = .ok (.aload_n 0, 1) := by decide +kernel
theorem dX3_put_1 : decode cX3_put 1 = .ok (.getfield 15, 3) := by decide +kernel
theorem dX3_put_4 : decode cX3_put 4 = .ok (.lookupswitch 50 #[(0, 28), (1, 39)], 28) := by decide +kernel
theorem dX3_put_32 : decode cX3_put 32 = .ok (.aload_n 0, 1) := by decide +kernel
theorem dX3_put_33 : decode cX3_put 33 = .ok (.getfield 9, 3) := by decide +kernel
theorem dX3_put_36 : decode cX3_put 36 = .ok (.iload_n 1, 1) := by decide +kernel
theorem dX3_put_37 : decode cX3_put 37 = .ok (.iload_n 2, 1) := by decide +kernel
theorem dX3_put_38 : decode cX3_put 38 = .ok (.i2b, 1) := by decide +kernel
theorem dX3_put_39 : decode cX3_put 39 = .ok (.iastore, 1) := by decide +kernel
theorem dX3_put_40 : decode cX3_put 40 = .ok (.goto 21, 3) := by decide +kernel
theorem dX3_put_43 : decode cX3_put 43 = .ok (.aload_n 0, 1) := by decide +kernel
theorem dX3_put_44 : decode cX3_put 44 = .ok (.getfield 9, 3) := by decide +kernel
theorem dX3_put_47 : decode cX3_put 47 = .ok (.iload_n 1, 1) := by decide +kernel
theorem dX3_put_48 : decode cX3_put 48 = .ok (.iload_n 2, 1) := by decide +kernel
theorem dX3_put_49 : decode cX3_put 49 = .ok (.i2s, 1) := by decide +kernel
theorem dX3_put_50 : decode cX3_put 50 = .ok (.iastore, 1) := by decide +kernel
theorem dX3_put_51 : decode cX3_put 51 = .ok (.goto 10, 3) := by decide +kernel
theorem dX3_put_54 : decode cX3_put 54 = .ok (.aload_n 0, 1) := by decide +kernel
theorem dX3_put_55 : decode cX3_put 55 = .ok (.getfield 9, 3) := by decide +kernel
theorem dX3_put_58 : decode cX3_put 58 = .ok (.iload_n 1, 1) := by decide +kernel
theorem dX3_put_59 : decode cX3_put 59 = .ok (.iload_n 2, 1) := by decide +kernel
theorem dX3_put_60 : decode cX3_put 60 = .ok (.iastore, 1) := by decide +kernel
theorem dX3_put_61 : decode cX3_put 61 = .ok (.return_, 1) := by decide +kernel
theorem dX3_cellAt_0 : decode cX3_cellAt 0 = .ok (.lload_n 1, 1) := by decide +kernel
theorem dX3_cellAt_1 : decode cX3_cellAt 1 = .ok (.lconst 0, 1) := by decide +kernel
theorem dX3_cellAt_2 : decode cX3_cellAt 2 = .ok (.lcmp, 1) := by decide +kernel
theorem dX3_cellAt_3 : decode cX3_cellAt 3 = .ok (.ifCond .lt 23, 3) := by decide +kernel
theorem dX3_cellAt_6 : decode cX3_cellAt 6 = .ok (.lload_n 1, 1) := by decide +kernel
theorem dX3_cellAt_7 : decode cX3_cellAt 7 = .ok (.aload_n 0, 1) := by decide +kernel
theorem dX3_cellAt_8 : decode cX3_cellAt 8 = .ok (.getfield 25, 3) := by decide +kernel
theorem dX3_cellAt_11 : decode cX3_cellAt 11 = .ok (.i2l, 1) := by decide +kernel
theorem dX3_cellAt_12 : decode cX3_cellAt 12 = .ok (.lcmp, 1) := by decide +kernel
theorem dX3_cellAt_13 : decode cX3_cellAt 13 = .ok (.ifCond .ge 13, 3) := by decide +kernel
theorem dX3_cellAt_16 : decode cX3_cellAt 16 = .ok (.aload_n 0, 1) := by decide +kernel
theorem dX3_cellAt_17 : decode cX3_cellAt 17 = .ok (.getfield 9, 3) := by decide +kernel
theorem dX3_cellAt_20 : decode cX3_cellAt 20 = .ok (.lload_n 1, 1) := by decide +kernel
theorem dX3_cellAt_21 : decode cX3_cellAt 21 = .ok (.l2i, 1) := by decide +kernel
theorem dX3_cellAt_22 : decode cX3_cellAt 22 = .ok (.iaload, 1) := by decide +kernel
theorem dX3_cellAt_23 : decode cX3_cellAt 23 = .ok (.goto 4, 3) := by decide +kernel
theorem dX3_cellAt_26 : decode cX3_cellAt 26 = .ok (.iconst 0, 1) := by decide +kernel
theorem dX3_cellAt_27 : decode cX3_cellAt 27 = .ok (.ireturn, 1) := by decide +kernel
theorem dX4_init_0 : decode cX4_init 0 = .ok (.aload_n 0, 1) := by decide +kernel
theorem dX4_init_1 : decode cX4_init 1 = .ok (.invokespecial 3, 3) := by decide +kernel
theorem dX4_init_4 : decode cX4_init 4 = .ok (.aload_n 0, 1) := by decide +kernel
theorem dX4_init_5 : decode cX4_init 5 = .ok (.iconst 5, 1) := by decide +kernel
theorem dX4_init_6 : decode cX4_init 6 = .ok (.iconst 5, 1) := by decide +kernel
theorem dX4_init_7 : decode cX4_init 7 = .ok (.multianewarray 9 2, 4) := by decide +kernel
theorem dX4_init_11 : decode cX4_init 11 = .ok (.putfield 11, 3) := by decide +kernel
theorem dX4_init_14 : decode cX4_init 14 = .ok (.aload_n 0, 1) := by decide +kernel
theorem dX4_init_15 : decode cX4_init 15 = .ok (.iconst 5, 1) := by decide +kernel
theorem dX4_init_16 : decode cX4_init 16 = .ok (.newarray .long, 2) := by decide +kernel
theorem dX4_init_18 : decode cX4_init 18 = .ok (.putfield 16, 3) := by decide +kernel
theorem dX4_init_21 : decode cX4_init 21 = .ok (.return_, 1) := by decide +kernel
set_option maxRecDepth 20000 in
theorem ggX4_prepare_J7_fill_d0a16 : GoodIn wsX4_prepare wsJ7_fill_d0a16 := goodIn_r _ [17] (by decide +kernel) (by decide +kernel)
set_option maxRecDepth 20000 in
theorem gX4_prepare_J7_fill_d0a16 : GoodIn wsX4_prepare (va_wsS RX4 29 yJ7_fill_d0a16 wsJ7_fill_d0a16) := goodIn_app (goodIn_of _ (by decide +kernel)) ggX4_prepare_J7_fill_d0a16
theorem dX4_prepare_0 : decode cX4_prepare 0 = .ok (.aload_n 0, 1) := by decide +kernel
theorem dX4_prepare_1 : decode cX4_prepare 1 = .ok (.iload_n 2, 1) := by decide +kernel
theorem dX4_prepare_2 : decode cX4_prepare 2 = .ok (.putfield 20, 3) := by decide +kernel
theorem dX4_prepare_5 : decode cX4_prepare 5 = .ok (.aload_n 0, 1) := by decide +kernel
theorem dX4_prepare_6 : decode cX4_prepare 6 = .ok (.iload_n 3, 1) := by decide +kernel
theorem dX4_prepare_7 : decode cX4_prepare 7 = .ok (.putfield 24, 3) := by decide +kernel
theorem dX4_prepare_10 : decode cX4_prepare 10 = .ok (.iconst 0, 1) := by decide +kernel
theorem dX4_prepare_11 : decode cX4_prepare 11 = .ok (.istore 4, 2) := by decide +kernel
theorem dX4_prepare_13 : decode cX4_prepare 13 = .ok (.iload 4, 2) := by decide +kernel
theorem dX4_prepare_15 : decode cX4_prepare 15 = .ok (.iconst 5, 1) := by decide +kernel
theorem dX4_prepare_16 : decode cX4_prepare 16 = .ok (.if_icmp .ge 22, 3) := by decide +kernel
theorem dX4_prepare_19 : decode cX4_prepare 19 = .ok (.aload_n 0, 1) := by decide +kernel
theorem dX4_prepare_20 : decode cX4_prepare 20 = .ok (.getfield 11, 3) := by decide +kernel
theorem dX4_prepare_23 : decode cX4_prepare 23 = .ok (.iload 4, 2) := by decide +kernel
theorem dX4_prepare_25 : decode cX4_prepare 25 = .ok (.aaload, 1) := by decide +kernel
theorem dX4_prepare_26 : decode cX4_prepare 26 = .ok (.ldc2_w 27, 3) := by decide +kernel
theorem dX4_prepare_29 : decode cX4_prepare 29 = .ok (.invokestatic 29, 3) := by decide +kernel
theorem dX4_prepare_32 : decode cX4_prepare 32 = .ok (.iinc 4 1, 3) := by decide +kernel
theorem dX4_prepare_35 : decode cX4_prepare 35 = .ok (.goto (-22), 3) := by decide +kernel
theorem dX4_prepare_38 : decode cX4_prepare 38 = .ok (.iconst 0, 1) := by decide +kernel
theorem dX4_prepare_39 : decode cX4_prepare 39 = .ok (.istore 4, 2) := by decide +kernel
theorem dX4_prepare_41 : decode cX4_prepare 41 = .ok (.iload 4, 2) := by decide +kernel
theorem dX4_prepare_43 : decode cX4_prepare 43 = .ok (.aload_n 1, 1) := by decide +kernel
theorem dX4_prepare_44 : decode cX4_prepare 44 = .ok (.getfield 35, 3) := by decide +kernel
theorem dX4_prepare_47 : decode cX4_prepare 47 = .ok (.if_icmp .ge 79, 3) := by decide +kernel
theorem dX4_prepare_50 : decode cX4_prepare 50 = .ok (.aload_n 1, 1) := by decide +kernel
theorem dX4_prepare_51 : decode cX4_prepare 51 = .ok (.getfield 40, 3) := by decide +kernel
theorem dX4_prepare_54 : decode cX4_prepare 54 = .ok (.iload 4, 2) := by decide +kernel
theorem dX4_prepare_56 : decode cX4_prepare 56 = .ok (.iaload, 1) := by decide +kernel
theorem dX4_prepare_57 : decode cX4_prepare 57 = .ok (.istore 5, 2) := by decide +kernel
theorem dX4_prepare_59 : decode cX4_prepare 59 = .ok (.aload_n 1, 1) := by decide +kernel
theorem dX4_prepare_60 : decode cX4_prepare 60 = .ok (.getfield 44, 3) := by decide +kernel
theorem dX4_prepare_63 : decode cX4_prepare 63 = .ok (.iload 4, 2) := by decide +kernel
theorem dX4_prepare_65 : decode cX4_prepare 65 = .ok (.iaload, 1) := by decide +kernel
theorem dX4_prepare_66 : decode cX4_prepare 66 = .ok (.istore 6, 2) := by decide +kernel
theorem dX4_prepare_68 : decode cX4_prepare 68 = .ok (.iload 5, 2) := by decide +kernel
theorem dX4_prepare_70 : decode cX4_prepare 70 = .ok (.iload_n 2, 1) := by decide +kernel
theorem dX4_prepare_71 : decode cX4_prepare 71 = .ok (.if_icmp .ge 49, 3) := by decide +kernel
theorem dX4_prepare_74 : decode cX4_prepare 74 = .ok (.iload 6, 2) := by decide +kernel
theorem dX4_prepare_76 : decode cX4_prepare 76 = .ok (.iload_n 2, 1) := by decide +kernel
theorem dX4_prepare_77 : decode cX4_prepare 77 = .ok (.if_icmp .ge 43, 3) := by decide +kernel
theorem dX4_prepare_80 : decode cX4_prepare 80 = .ok (.aload_n 0, 1) := by decide +kernel
theorem dX4_prepare_81 : decode cX4_prepare 81 = .ok (.getfield 11, 3) := by decide +kernel
theorem dX4_prepare_84 : decode cX4_prepare 84 = .ok (.iload 5, 2) := by decide +kernel
theorem dX4_prepare_86 : decode cX4_prepare 86 = .ok (.aaload, 1) := by decide +kernel
theorem dX4_prepare_87 : decode cX4_prepare 87 = .ok (.iload 6, 2) := by decide +kernel
theorem dX4_prepare_89 : decode cX4_prepare 89 = .ok (.aload_n 0, 1) := by decide +kernel
theorem dX4_prepare_90 : decode cX4_prepare 90 = .ok (.getfield 11, 3) := by decide +kernel
theorem dX4_prepare_93 : decode cX4_prepare 93 = .ok (.iload 5, 2) := by decide +kernel
theorem dX4_prepare_95 : decode cX4_prepare 95 = .ok (.aaload, 1) := by decide +kernel
theorem dX4_prepare_96 : decode cX4_prepare 96 = .ok (.iload 6, 2) := by decide +kernel
theorem dX4_prepare_98 : decode cX4_prepare 98 = .ok (.laload, 1) := by decide +kernel
theorem dX4_prepare_99 : decode cX4_prepare 99 = .ok (.aload_n 1, 1) := by decide +kernel
theorem dX4_prepare_100 : decode cX4_prepare 100 = .ok (.getfield 47, 3) := by decide +kernel
theorem dX4_prepare_103 : decode cX4_prepare 103 = .ok (.iload 4, 2) := by decide +kernel
theorem dX4_prepare_105 : decode cX4_prepare 105 = .ok (.iaload, 1) := by decide +kernel
theorem dX4_prepare_106 : decode cX4_prepare 106 = .ok (.i2l, 1) := by decide +kernel
theorem dX4_prepare_107 : decode cX4_prepare 107 = .ok (.aload_n 1, 1) := by decide +kernel
theorem dX4_prepare_108 : decode cX4_prepare 108 = .ok (.getfield 50, 3) := by decide +kernel
theorem dX4_prepare_111 : decode cX4_prepare 111 = .ok (.iload 4, 2) := by decide +kernel
theorem dX4_prepare_113 : decode cX4_prepare 113 = .ok (.iaload, 1) := by decide +kernel
theorem dX4_prepare_114 : decode cX4_prepare 114 = .ok (.i2l, 1) := by decide +kernel
theorem dX4_prepare_115 : decode cX4_prepare 115 = .ok (.lsub, 1) := by decide +kernel
theorem dX4_prepare_116 : decode cX4_prepare 116 = .ok (.invokestatic 53, 3) := by decide +kernel
theorem dX4_prepare_119 : decode cX4_prepare 119 = .ok (.lastore, 1) := by decide +kernel
theorem dX4_prepare_120 : decode cX4_prepare 120 = .ok (.iinc 4 1, 3) := by decide +kernel
theorem dX4_prepare_123 : decode cX4_prepare 123 = .ok (.goto (-82), 3) := by decide +kernel
theorem dX4_prepare_126 : decode cX4_prepare 126 = .ok (.return_, 1) := by decide +kernel
set_option maxRecDepth 20000 in
theorem ggX4_waysFrom_X4_waysFrom : GoodIn wsX4_waysFrom wsX4_waysFrom := goodIn_r _ [0, 1, 2, 3, 4, 5, 6, 7, 8, 9, 10, 11, 12, 13, 14, 15, 16, 17, 18] (by decide +kernel) (by decide +kernel)
set_option maxRecDepth 20000 in
theorem gX4_waysFrom_X4_waysFrom : GoodIn wsX4_waysFrom (va_wsS RX4 62 yX4_waysFrom wsX4_waysFrom) := goodIn_app (goodIn_of _ (by decide +kernel)) ggX4_waysFrom_X4_waysFrom
theorem dX4_waysFrom_0 : decode cX4_waysFrom 0 = .ok (.iload_n 1, 1) := by decide +kernel
theorem dX4_waysFrom_1 : decode cX4_waysFrom 1 = .ok (.ifCond .lt 8, 3) := by decide +kernel
theorem dX4_waysFrom_4 : decode cX4_waysFrom 4 = .ok (.iload_n 1, 1) := by decide +kernel
theorem dX4_waysFrom_5 : decode cX4_waysFrom 5 = .ok (.iconst 5, 1) := by decide +kernel
theorem dX4_waysFrom_6 : decode cX4_waysFrom 6 = .ok (.if_icmp .lt 5, 3) := by decide +kernel
theorem dX4_waysFrom_9 : decode cX4_waysFrom 9 = .ok (.iconst 0, 1) := by decide +kernel
theorem dX4_waysFrom_10 : decode cX4_waysFrom 10 = .ok (.ireturn, 1) := by decide +kernel
theorem dX4_waysFrom_11 : decode cX4_waysFrom 11 = .ok (.lconst 0, 1) := by decide +kernel
theorem dX4_waysFrom_12 : decode cX4_waysFrom 12 = .ok (.lstore_n 2, 1) := by decide +kernel
theorem dX4_waysFrom_13 : decode cX4_waysFrom 13 = .ok (.aload_n 0, 1) := by decide +kernel
theorem dX4_waysFrom_14 : decode cX4_waysFrom 14 = .ok (.getfield 24, 3) := by decide +kernel
theorem dX4_waysFrom_17 : decode cX4_waysFrom 17 = .ok (.i2l, 1) := by decide +kernel
theorem dX4_waysFrom_18 : decode cX4_waysFrom 18 = .ok (.lstore 4, 2) := by decide +kernel
theorem dX4_waysFrom_20 : decode cX4_waysFrom 20 = .ok (.iconst 0, 1) := by decide +kernel
theorem dX4_waysFrom_21 : decode cX4_waysFrom 21 = .ok (.istore 6, 2) := by decide +kernel
theorem dX4_waysFrom_23 : decode cX4_waysFrom 23 = .ok (.iload 6, 2) := by decide +kernel
theorem dX4_waysFrom_25 : decode cX4_waysFrom 25 = .ok (.iload_n 1, 1) := by decide +kernel
theorem dX4_waysFrom_26 : decode cX4_waysFrom 26 = .ok (.if_icmp .ge 55, 3) := by decide +kernel
theorem dX4_waysFrom_29 : decode cX4_waysFrom 29 = .ok (.lload_n 2, 1) := by decide +kernel
theorem dX4_waysFrom_30 : decode cX4_waysFrom 30 = .ok (.aload_n 0, 1) := by decide +kernel
theorem dX4_waysFrom_31 : decode cX4_waysFrom 31 = .ok (.getfield 16, 3) := by decide +kernel
theorem dX4_waysFrom_34 : decode cX4_waysFrom 34 = .ok (.iload 6, 2) := by decide +kernel
theorem dX4_waysFrom_36 : decode cX4_waysFrom 36 = .ok (.laload, 1) := by decide +kernel
theorem dX4_waysFrom_37 : decode cX4_waysFrom 37 = .ok (.aload_n 0, 1) := by decide +kernel
theorem dX4_waysFrom_38 : decode cX4_waysFrom 38 = .ok (.getfield 11, 3) := by decide +kernel
theorem dX4_waysFrom_41 : decode cX4_waysFrom 41 = .ok (.iload 6, 2) := by decide +kernel
theorem dX4_waysFrom_43 : decode cX4_waysFrom 43 = .ok (.aaload, 1) := by decide +kernel
theorem dX4_waysFrom_44 : decode cX4_waysFrom 44 = .ok (.iload_n 1, 1) := by decide +kernel
theorem dX4_waysFrom_45 : decode cX4_waysFrom 45 = .ok (.laload, 1) := by decide +kernel
theorem dX4_waysFrom_46 : decode cX4_waysFrom 46 = .ok (.lsub, 1) := by decide +kernel
theorem dX4_waysFrom_47 : decode cX4_waysFrom 47 = .ok (.invokestatic 59, 3) := by decide +kernel
theorem dX4_waysFrom_50 : decode cX4_waysFrom 50 = .ok (.lstore_n 2, 1) := by decide +kernel
theorem dX4_waysFrom_51 : decode cX4_waysFrom 51 = .ok (.lload 4, 2) := by decide +kernel
theorem dX4_waysFrom_53 : decode cX4_waysFrom 53 = .ok (.aload_n 0, 1) := by decide +kernel
theorem dX4_waysFrom_54 : decode cX4_waysFrom 54 = .ok (.getfield 16, 3) := by decide +kernel
theorem dX4_waysFrom_57 : decode cX4_waysFrom 57 = .ok (.iload 6, 2) := by decide +kernel
theorem dX4_waysFrom_59 : decode cX4_waysFrom 59 = .ok (.laload, 1) := by decide +kernel
theorem dX4_waysFrom_60 : decode cX4_waysFrom 60 = .ok (.aload_n 0, 1) := by decide +kernel
theorem dX4_waysFrom_61 : decode cX4_waysFrom 61 = .ok (.getfield 11, 3) := by decide +kernel
theorem dX4_waysFrom_64 : decode cX4_waysFrom 64 = .ok (.iload_n 1, 1) := by decide +kernel
theorem dX4_waysFrom_65 : decode cX4_waysFrom 65 = .ok (.aaload, 1) := by decide +kernel
theorem dX4_waysFrom_66 : decode cX4_waysFrom 66 = .ok (.iload 6, 2) := by decide +kernel
theorem dX4_waysFrom_68 : decode cX4_waysFrom 68 = .ok (.laload, 1) := by decide +kernel
theorem dX4_waysFrom_69 : decode cX4_waysFrom 69 = .ok (.ladd, 1) := by decide +kernel
theorem dX4_waysFrom_70 : decode cX4_waysFrom 70 = .ok (.invokestatic 53, 3) := by decide +kernel
theorem dX4_waysFrom_73 : decode cX4_waysFrom 73 = .ok (.lstore 4, 2) := by decide +kernel
theorem dX4_waysFrom_75 : decode cX4_waysFrom 75 = .ok (.iinc 6 1, 3) := by decide +kernel
theorem dX4_waysFrom_78 : decode cX4_waysFrom 78 = .ok (.goto (-55), 3) := by decide +kernel
theorem dX4_waysFrom_81 : decode cX4_waysFrom 81 = .ok (.iload_n 1, 1) := by decide +kernel
theorem dX4_waysFrom_82 : decode cX4_waysFrom 82 = .ok (.aload_n 0, 1) := by decide +kernel
theorem dX4_waysFrom_83 : decode cX4_waysFrom 83 = .ok (.getfield 20, 3) := by decide +kernel
theorem dX4_waysFrom_86 : decode cX4_waysFrom 86 = .ok (.iconst 1, 1) := by decide +kernel
theorem dX4_waysFrom_87 : decode cX4_waysFrom 87 = .ok (.isub, 1) := by decide +kernel
theorem dX4_waysFrom_88 : decode cX4_waysFrom 88 = .ok (.if_icmp .ne 15, 3) := by decide +kernel
theorem dX4_waysFrom_91 : decode cX4_waysFrom 91 = .ok (.lconst 0, 1) := by decide +kernel
theorem dX4_waysFrom_92 : decode cX4_waysFrom 92 = .ok (.lload 4, 2) := by decide +kernel
theorem dX4_waysFrom_94 : decode cX4_waysFrom 94 = .ok (.lload_n 2, 1) := by decide +kernel
theorem dX4_waysFrom_95 : decode cX4_waysFrom 95 = .ok (.lsub, 1) := by decide +kernel
theorem dX4_waysFrom_96 : decode cX4_waysFrom 96 = .ok (.lconst 1, 1) := by decide +kernel
theorem dX4_waysFrom_97 : decode cX4_waysFrom 97 = .ok (.ladd, 1) := by decide +kernel
theorem dX4_waysFrom_98 : decode cX4_waysFrom 98 = .ok (.invokestatic 59, 3) := by decide +kernel
theorem dX4_waysFrom_101 : decode cX4_waysFrom 101 = .ok (.l2i, 1) := by decide +kernel
theorem dX4_waysFrom_102 : decode cX4_waysFrom 102 = .ok (.ireturn, 1) := by decide +kernel
theorem dX4_waysFrom_103 : decode cX4_waysFrom 103 = .ok (.iconst 0, 1) := by decide +kernel
theorem dX4_waysFrom_104 : decode cX4_waysFrom 104 = .ok (.istore 6, 2) := by decide +kernel
theorem dX4_waysFrom_106 : decode cX4_waysFrom 106 = .ok (.lload_n 2, 1) := by decide +kernel
theorem dX4_waysFrom_107 : decode cX4_waysFrom 107 = .ok (.lstore 7, 2) := by decide +kernel
theorem dX4_waysFrom_109 : decode cX4_waysFrom 109 = .ok (.lload 7, 2) := by decide +kernel
theorem dX4_waysFrom_111 : decode cX4_waysFrom 111 = .ok (.lload 4, 2) := by decide +kernel
theorem dX4_waysFrom_113 : decode cX4_waysFrom 113 = .ok (.lcmp, 1) := by decide +kernel
theorem dX4_waysFrom_114 : decode cX4_waysFrom 114 = .ok (.ifCond .gt 32, 3) := by decide +kernel
theorem dX4_waysFrom_117 : decode cX4_waysFrom 117 = .ok (.aload_n 0, 1) := by decide +kernel
theorem dX4_waysFrom_118 : decode cX4_waysFrom 118 = .ok (.getfield 16, 3) := by decide +kernel
theorem dX4_waysFrom_121 : decode cX4_waysFrom 121 = .ok (.iload_n 1, 1) := by decide +kernel
theorem dX4_waysFrom_122 : decode cX4_waysFrom 122 = .ok (.lload 7, 2) := by decide +kernel
theorem dX4_waysFrom_124 : decode cX4_waysFrom 124 = .ok (.lastore, 1) := by decide +kernel
theorem dX4_waysFrom_125 : decode cX4_waysFrom 125 = .ok (.iload 6, 2) := by decide +kernel
theorem dX4_waysFrom_127 : decode cX4_waysFrom 127 = .ok (.aload_n 0, 1) := by decide +kernel
theorem dX4_waysFrom_128 : decode cX4_waysFrom 128 = .ok (.iload_n 1, 1) := by decide +kernel
theorem dX4_waysFrom_129 : decode cX4_waysFrom 129 = .ok (.iconst 1, 1) := by decide +kernel
theorem dX4_waysFrom_130 : decode cX4_waysFrom 130 = .ok (.iadd, 1) := by decide +kernel
theorem dX4_waysFrom_131 : decode cX4_waysFrom 131 = .ok (.invokestatic 62, 3) := by decide +kernel
theorem dX4_waysFrom_134 : decode cX4_waysFrom 134 = .ok (.iadd, 1) := by decide +kernel
theorem dX4_waysFrom_135 : decode cX4_waysFrom 135 = .ok (.istore 6, 2) := by decide +kernel
theorem dX4_waysFrom_137 : decode cX4_waysFrom 137 = .ok (.lload 7, 2) := by decide +kernel
theorem dX4_waysFrom_139 : decode cX4_waysFrom 139 = .ok (.lconst 1, 1) := by decide +kernel
theorem dX4_waysFrom_140 : decode cX4_waysFrom 140 = .ok (.ladd, 1) := by decide +kernel
theorem dX4_waysFrom_141 : decode cX4_waysFrom 141 = .ok (.lstore 7, 2) := by decide +kernel
theorem dX4_waysFrom_143 : decode cX4_waysFrom 143 = .ok (.goto (-34), 3) := by decide +kernel
theorem dX4_waysFrom_146 : decode cX4_waysFrom 146 = .ok (.iload 6, 2) := by decide +kernel
theorem dX4_waysFrom_148 : decode cX4_waysFrom 148 = .ok (.ireturn, 1) := by decide +kernel
theorem dX5_init_0 : decode cX5_init 0 = .ok (.aload_n 0, 1) := by decide +kernel
theorem dX5_init_1 : decode cX5_init 1 = .ok (.invokespecial 3, 3) := by decide +kernel
theorem dX5_init_4 : decode cX5_init 4 = .ok (.aload_n 0, 1) := by decide +kernel
theorem dX5_init_5 : decode cX5_init 5 = .ok (.bipush 24, 2) := by decide +kernel
theorem dX5_init_7 : decode cX5_init 7 = .ok (.newarray .int, 2) := by decide +kernel
theorem dX5_init_9 : decode cX5_init 9 = .ok (.putfield 9, 3) := by decide +kernel
theorem dX5_init_12 : decode cX5_init 12 = .ok (.aload_n 0, 1) := by decide +kernel
theorem dX5_init_13 : decode cX5_init 13 = .ok (.bipush 24, 2) := by decide +kernel
theorem dX5_init_15 : decode cX5_init 15 = .ok (.newarray .int, 2) := by decide +kernel
theorem dX5_init_17 : decode cX5_init 17 = .ok (.putfield 15, 3) := by decide +kernel
theorem dX5_init_20 : decode cX5_init 20 = .ok (.aload_n 0, 1) := by decide +kernel
theorem dX5_init_21 : decode cX5_init 21 = .ok (.bipush 24, 2) := by decide +kernel
theorem dX5_init_23 : decode cX5_init 23 = .ok (.newarray .int, 2) := by decide +kernel
theorem dX5_init_25 : decode cX5_init 25 = .ok (.putfield 18, 3) := by decide +kernel
theorem dX5_init_28 : decode cX5_init 28 = .ok (.aload_n 0, 1) := by decide +kernel
theorem dX5_init_29 : decode cX5_init 29 = .ok (.bipush 24, 2) := by decide +kernel
theorem dX5_init_31 : decode cX5_init 31 = .ok (.newarray .int, 2) := by decide +kernel
theorem dX5_init_33 : decode cX5_init 33 = .ok (.putfield 21, 3) := by decide +kernel
theorem dX5_init_36 : decode cX5_init 36 = .ok (.aload_n 0, 1) := by decide +kernel
theorem dX5_init_37 : decode cX5_init 37 = .ok (.bipush 8, 2) := by decide +kernel
theorem dX5_init_39 : decode cX5_init 39 = .ok (.newarray .int, 2) := by decide +kernel
theorem dX5_init_41 : decode cX5_init 41 = .ok (.putfield 24, 3) := by decide +kernel
theorem dX5_init_44 : decode cX5_init 44 = .ok (.aload_n 0, 1) := by decide +kernel
theorem dX5_init_45 : decode cX5_init 45 = .ok (.iconst 1, 1) := by decide +kernel
theorem dX5_init_46 : decode cX5_init 46 = .ok (.putfield 27, 3) := by decide +kernel
theorem dX5_init_49 : decode cX5_init 49 = .ok (.return_, 1) := by decide +kernel
theorem dX5_empty_0 : decode cX5_empty 0 = .ok (.aload_n 0, 1) := by decide +kernel
theorem dX5_empty_1 : decode cX5_empty 1 = .ok (.iconst 0, 1) := by decide +kernel
theorem dX5_empty_2 : decode cX5_empty 2 = .ok (.putfield 31, 3) := by decide +kernel
theorem dX5_empty_5 : decode cX5_empty 5 = .ok (.aload_n 0, 1) := by decide +kernel
theorem dX5_empty_6 : decode cX5_empty 6 = .ok (.iconst 0, 1) := by decide +kernel
theorem dX5_empty_7 : decode cX5_empty 7 = .ok (.putfield 34, 3) := by decide +kernel
theorem dX5_empty_10 : decode cX5_empty 10 = .ok (.aload_n 0, 1) := by decide +kernel
theorem dX5_empty_11 : decode cX5_empty 11 = .ok (.iconst 1, 1) := by decide +kernel
theorem dX5_empty_12 : decode cX5_empty 12 = .ok (.putfield 27, 3) := by decide +kernel
theorem dX5_empty_15 : decode cX5_empty 15 = .ok (.return_, 1) := by decide +kernel
theorem dX5_takeFrom_0 : decode cX5_takeFrom 0 = .ok (.aload_n 1, 1) := by decide +kernel
theorem dX5_takeFrom_1 : decode cX5_takeFrom 1 = .ok (.getfield 9, 3) := by decide +kernel
theorem dX5_takeFrom_4 : decode cX5_takeFrom 4 = .ok (.iconst 0, 1) := by decide +kernel
theorem dX5_takeFrom_5 : decode cX5_takeFrom 5 = .ok (.aload_n 0, 1) := by decide +kernel
theorem dX5_takeFrom_6 : decode cX5_takeFrom 6 = .ok (.getfield 9, 3) := by decide +kernel
theorem dX5_takeFrom_9 : decode cX5_takeFrom 9 = .ok (.iconst 0, 1) := by decide +kernel
theorem dX5_takeFrom_10 : decode cX5_takeFrom 10 = .ok (.bipush 24, 2) := by decide +kernel
theorem dX5_takeFrom_12 : decode cX5_takeFrom 12 = .ok (.invokestatic 37, 3) := by decide +kernel
theorem dX5_takeFrom_15 : decode cX5_takeFrom 15 = .ok (.aload_n 1, 1) := by decide +kernel
theorem dX5_takeFrom_16 : decode cX5_takeFrom 16 = .ok (.getfield 15, 3) := by decide +kernel
theorem dX5_takeFrom_19 : decode cX5_takeFrom 19 = .ok (.iconst 0, 1) := by decide +kernel
theorem dX5_takeFrom_20 : decode cX5_takeFrom 20 = .ok (.aload_n 0, 1) := by decide +kernel
theorem dX5_takeFrom_21 : decode cX5_takeFrom 21 = .ok (.getfield 15, 3) := by decide +kernel
theorem dX5_takeFrom_24 : decode cX5_takeFrom 24 = .ok (.iconst 0, 1) := by decide +kernel
theorem dX5_takeFrom_25 : decode cX5_takeFrom 25 = .ok (.bipush 24, 2) := by decide +kernel
theorem dX5_takeFrom_27 : decode cX5_takeFrom 27 = .ok (.invokestatic 37, 3) := by decide +kernel
theorem dX5_takeFrom_30 : decode cX5_takeFrom 30 = .ok (.aload_n 1, 1) := by decide +kernel
theorem dX5_takeFrom_31 : decode cX5_takeFrom 31 = .ok (.getfield 18, 3) := by decide +kernel
theorem dX5_takeFrom_34 : decode cX5_takeFrom 34 = .ok (.iconst 0, 1) := by decide +kernel
theorem dX5_takeFrom_35 : decode cX5_takeFrom 35 = .ok (.aload_n 0, 1) := by decide +kernel
theorem dX5_takeFrom_36 : decode cX5_takeFrom 36 = .ok (.getfield 18, 3) := by decide +kernel
theorem dX5_takeFrom_39 : decode cX5_takeFrom 39 = .ok (.iconst 0, 1) := by decide +kernel
theorem dX5_takeFrom_40 : decode cX5_takeFrom 40 = .ok (.bipush 24, 2) := by decide +kernel
theorem dX5_takeFrom_42 : decode cX5_takeFrom 42 = .ok (.invokestatic 37, 3) := by decide +kernel
theorem dX5_takeFrom_45 : decode cX5_takeFrom 45 = .ok (.aload_n 1, 1) := by decide +kernel
theorem dX5_takeFrom_46 : decode cX5_takeFrom 46 = .ok (.getfield 21, 3) := by decide +kernel
theorem dX5_takeFrom_49 : decode cX5_takeFrom 49 = .ok (.iconst 0, 1) := by decide +kernel
theorem dX5_takeFrom_50 : decode cX5_takeFrom 50 = .ok (.aload_n 0, 1) := by decide +kernel
theorem dX5_takeFrom_51 : decode cX5_takeFrom 51 = .ok (.getfield 21, 3) := by decide +kernel
theorem dX5_takeFrom_54 : decode cX5_takeFrom 54 = .ok (.iconst 0, 1) := by decide +kernel
theorem dX5_takeFrom_55 : decode cX5_takeFrom 55 = .ok (.bipush 24, 2) := by decide +kernel
theorem dX5_takeFrom_57 : decode cX5_takeFrom 57 = .ok (.invokestatic 37, 3) := by decide +kernel
theorem dX5_takeFrom_60 : decode cX5_takeFrom 60 = .ok (.aload_n 1, 1) := by decide +kernel
theorem dX5_takeFrom_61 : decode cX5_takeFrom 61 = .ok (.getfield 24, 3) := by decide +kernel
theorem dX5_takeFrom_64 : decode cX5_takeFrom 64 = .ok (.iconst 0, 1) := by decide +kernel
theorem dX5_takeFrom_65 : decode cX5_takeFrom 65 = .ok (.aload_n 0, 1) := by decide +kernel
theorem dX5_takeFrom_66 : decode cX5_takeFrom 66 = .ok (.getfield 24, 3) := by decide +kernel
theorem dX5_takeFrom_69 : decode cX5_takeFrom 69 = .ok (.iconst 0, 1) := by decide +kernel
theorem dX5_takeFrom_70 : decode cX5_takeFrom 70 = .ok (.bipush 8, 2) := by decide +kernel
theorem dX5_takeFrom_72 : decode cX5_takeFrom 72 = .ok (.invokestatic 37, 3) := by decide +kernel
theorem dX5_takeFrom_75 : decode cX5_takeFrom 75 = .ok (.aload_n 0, 1) := by decide +kernel
theorem dX5_takeFrom_76 : decode cX5_takeFrom 76 = .ok (.aload_n 1, 1) := by decide +kernel
theorem dX5_takeFrom_77 : decode cX5_takeFrom 77 = .ok (.getfield 31, 3) := by decide +kernel
theorem dX5_takeFrom_80 : decode cX5_takeFrom 80 = .ok (.putfield 31, 3) := by decide +kernel
theorem dX5_takeFrom_83 : decode cX5_takeFrom 83 = .ok (.aload_n 0, 1) := by decide +kernel
theorem dX5_takeFrom_84 : decode cX5_takeFrom 84 = .ok (.aload_n 1, 1) := by decide +kernel
theorem dX5_takeFrom_85 : decode cX5_takeFrom 85 = .ok (.getfield 34, 3) := by decide +kernel
theorem dX5_takeFrom_88 : decode cX5_takeFrom 88 = .ok (.putfield 34, 3) := by decide +kernel
theorem dX5_takeFrom_91 : decode cX5_takeFrom 91 = .ok (.aload_n 0, 1) := by decide +kernel
theorem dX5_takeFrom_92 : decode cX5_takeFrom 92 = .ok (.aload_n 1, 1) := by decide +kernel
theorem dX5_takeFrom_93 : decode cX5_takeFrom 93 = .ok (.getfield 27, 3) := by decide +kernel
theorem dX5_takeFrom_96 : decode cX5_takeFrom 96 = .ok (.putfield 27, 3) := by decide +kernel
theorem dX5_takeFrom_99 : decode cX5_takeFrom 99 = .ok (.return_, 1) := by decide +kernel
theorem dX5_has_0 : decode cX5_has 0 = .ok (.iload_n 1, 1) := by decide +kernel
theorem dX5_has_1 : decode cX5_has 1 = .ok (.ifCond .lt 15, 3) := by decide +kernel
theorem dX5_has_4 : decode cX5_has 4 = .ok (.iload_n 1, 1) := by decide +kernel
theorem dX5_has_5 : decode cX5_has 5 = .ok (.aload_n 0, 1) := by decide +kernel
theorem dX5_has_6 : decode cX5_has 6 = .ok (.getfield 31, 3) := by decide +kernel
theorem dX5_has_9 : decode cX5_has 9 = .ok (.if_icmp .ge 7, 3) := by decide +kernel
theorem dX5_has_12 : decode cX5_has 12 = .ok (.iconst 1, 1) := by decide +kernel
theorem dX5_has_13 : decode cX5_has 13 = .ok (.goto 4, 3) := by decide +kernel
theorem dX5_has_16 : decode cX5_has 16 = .ok (.iconst 0, 1) := by decide +kernel
theorem dX5_has_17 : decode cX5_has 17 = .ok (.ireturn, 1) := by decide +kernel
theorem dX5_hasMark_0 : decode cX5_hasMark 0 = .ok (.iload_n 1, 1) := by decide +kernel
theorem dX5_hasMark_1 : decode cX5_hasMark 1 = .ok (.ifCond .lt 15, 3) := by decide +kernel
theorem dX5_hasMark_4 : decode cX5_hasMark 4 = .ok (.iload_n 1, 1) := by decide +kernel
theorem dX5_hasMark_5 : decode cX5_hasMark 5 = .ok (.aload_n 0, 1) := by decide +kernel
theorem dX5_hasMark_6 : decode cX5_hasMark 6 = .ok (.getfield 34, 3) := by decide +kernel
theorem dX5_hasMark_9 : decode cX5_hasMark 9 = .ok (.if_icmp .ge 7, 3) := by decide +kernel
theorem dX5_hasMark_12 : decode cX5_hasMark 12 = .ok (.iconst 1, 1) := by decide +kernel
theorem dX5_hasMark_13 : decode cX5_hasMark 13 = .ok (.goto 4, 3) := by decide +kernel
theorem dX5_hasMark_16 : decode cX5_hasMark 16 = .ok (.iconst 0, 1) := by decide +kernel
theorem dX5_hasMark_17 : decode cX5_hasMark 17 = .ok (.ireturn, 1) := by decide +kernel
theorem dX5_isOf_0 : decode cX5_isOf 0 = .ok (.aload_n 0, 1) := by decide +kernel
theorem dX5_isOf_1 : decode cX5_isOf 1 = .ok (.getfield 9, 3) := by decide +kernel
theorem dX5_isOf_4 : decode cX5_isOf 4 = .ok (.iload_n 1, 1) := by decide +kernel
theorem dX5_isOf_5 : decode cX5_isOf 5 = .ok (.iaload, 1) := by decide +kernel
theorem dX5_isOf_6 : decode cX5_isOf 6 = .ok (.iload_n 2, 1) := by decide +kernel
theorem dX5_isOf_7 : decode cX5_isOf 7 = .ok (.if_icmp .ne 17, 3) := by decide +kernel
theorem dX5_isOf_10 : decode cX5_isOf 10 = .ok (.aload_n 0, 1) := by decide +kernel
theorem dX5_isOf_11 : decode cX5_isOf 11 = .ok (.getfield 15, 3) := by decide +kernel
theorem dX5_isOf_14 : decode cX5_isOf 14 = .ok (.iload_n 1, 1) := by decide +kernel
theorem dX5_isOf_15 : decode cX5_isOf 15 = .ok (.iaload, 1) := by decide +kernel
theorem dX5_isOf_16 : decode cX5_isOf 16 = .ok (.iload_n 3, 1) := by decide +kernel
theorem dX5_isOf_17 : decode cX5_isOf 17 = .ok (.if_icmp .ne 7, 3) := by decide +kernel
theorem dX5_isOf_20 : decode cX5_isOf 20 = .ok (.iconst 1, 1) := by decide +kernel
theorem dX5_isOf_21 : decode cX5_isOf 21 = .ok (.goto 4, 3) := by decide +kernel
theorem dX5_isOf_24 : decode cX5_isOf 24 = .ok (.iconst 0, 1) := by decide +kernel
theorem dX5_isOf_25 : decode cX5_isOf 25 = .ok (.ireturn, 1) := by decide +kernel
set_option maxRecDepth 20000 in
theorem ggX5_weightOf_X7_weigh : GoodIn wsX5_weightOf wsX7_weigh := goodIn_r _ [6, 7] (by decide +kernel) (by decide +kernel)
set_option maxRecDepth 20000 in
theorem gX5_weightOf_X7_weigh_n43 : GoodIn wsX5_weightOf (wsX7_weigh) := ggX5_weightOf_X7_weigh
theorem dX5_weightOf_0 : decode cX5_weightOf 0 = .ok (.aload_n 0, 1) := by decide +kernel
theorem dX5_weightOf_1 : decode cX5_weightOf 1 = .ok (.getfield 18, 3) := by decide +kernel
theorem dX5_weightOf_4 : decode cX5_weightOf 4 = .ok (.iload_n 1, 1) := by decide +kernel
theorem dX5_weightOf_5 : decode cX5_weightOf 5 = .ok (.iaload, 1) := by decide +kernel
theorem dX5_weightOf_6 : decode cX5_weightOf 6 = .ok (.aload_n 0, 1) := by decide +kernel
theorem dX5_weightOf_7 : decode cX5_weightOf 7 = .ok (.getfield 21, 3) := by decide +kernel
theorem dX5_weightOf_10 : decode cX5_weightOf 10 = .ok (.iload_n 1, 1) := by decide +kernel
theorem dX5_weightOf_11 : decode cX5_weightOf 11 = .ok (.iaload, 1) := by decide +kernel
theorem dX5_weightOf_12 : decode cX5_weightOf 12 = .ok (.aload_n 0, 1) := by decide +kernel
theorem dX5_weightOf_13 : decode cX5_weightOf 13 = .ok (.getfield 27, 3) := by decide +kernel
theorem dX5_weightOf_16 : decode cX5_weightOf 16 = .ok (.invokestatic 43, 3) := by decide +kernel
theorem dX5_weightOf_19 : decode cX5_weightOf 19 = .ok (.lreturn, 1) := by decide +kernel
theorem dX5_append_0 : decode cX5_append 0 = .ok (.aload_n 0, 1) := by decide +kernel
theorem dX5_append_1 : decode cX5_append 1 = .ok (.getfield 31, 3) := by decide +kernel
theorem dX5_append_4 : decode cX5_append 4 = .ok (.bipush 24, 2) := by decide +kernel
theorem dX5_append_6 : decode cX5_append 6 = .ok (.if_icmp .ge 54, 3) := by decide +kernel
theorem dX5_append_9 : decode cX5_append 9 = .ok (.aload_n 0, 1) := by decide +kernel
theorem dX5_append_10 : decode cX5_append 10 = .ok (.getfield 9, 3) := by decide +kernel
theorem dX5_append_13 : decode cX5_append 13 = .ok (.aload_n 0, 1) := by decide +kernel
theorem dX5_append_14 : decode cX5_append 14 = .ok (.getfield 31, 3) := by decide +kernel
theorem dX5_append_17 : decode cX5_append 17 = .ok (.iload_n 1, 1) := by decide +kernel
theorem dX5_append_18 : decode cX5_append 18 = .ok (.iastore, 1) := by decide +kernel
theorem dX5_append_19 : decode cX5_append 19 = .ok (.aload_n 0, 1) := by decide +kernel
theorem dX5_append_20 : decode cX5_append 20 = .ok (.getfield 15, 3) := by decide +kernel
theorem dX5_append_23 : decode cX5_append 23 = .ok (.aload_n 0, 1) := by decide +kernel
theorem dX5_append_24 : decode cX5_append 24 = .ok (.getfield 31, 3) := by decide +kernel
theorem dX5_append_27 : decode cX5_append 27 = .ok (.iload_n 2, 1) := by decide +kernel
theorem dX5_append_28 : decode cX5_append 28 = .ok (.iastore, 1) := by decide +kernel
theorem dX5_append_29 : decode cX5_append 29 = .ok (.aload_n 0, 1) := by decide +kernel
theorem dX5_append_30 : decode cX5_append 30 = .ok (.getfield 18, 3) := by decide +kernel
theorem dX5_append_33 : decode cX5_append 33 = .ok (.aload_n 0, 1) := by decide +kernel
theorem dX5_append_34 : decode cX5_append 34 = .ok (.getfield 31, 3) := by decide +kernel
theorem dX5_append_37 : decode cX5_append 37 = .ok (.iload_n 3, 1) := by decide +kernel
theorem dX5_append_38 : decode cX5_append 38 = .ok (.iastore, 1) := by decide +kernel
theorem dX5_append_39 : decode cX5_append 39 = .ok (.aload_n 0, 1) := by decide +kernel
theorem dX5_append_40 : decode cX5_append 40 = .ok (.getfield 21, 3) := by decide +kernel
theorem dX5_append_43 : decode cX5_append 43 = .ok (.aload_n 0, 1) := by decide +kernel
theorem dX5_append_44 : decode cX5_append 44 = .ok (.getfield 31, 3) := by decide +kernel
theorem dX5_append_47 : decode cX5_append 47 = .ok (.iload 4, 2) := by decide +kernel
theorem dX5_append_49 : decode cX5_append 49 = .ok (.iastore, 1) := by decide +kernel
theorem dX5_append_50 : decode cX5_append 50 = .ok (.aload_n 0, 1) := by decide +kernel
theorem dX5_append_51 : decode cX5_append 51 = .ok (.dup, 1) := by decide +kernel
theorem dX5_append_52 : decode cX5_append 52 = .ok (.getfield 31, 3) := by decide +kernel
theorem dX5_append_55 : decode cX5_append 55 = .ok (.iconst 1, 1) := by decide +kernel
theorem dX5_append_56 : decode cX5_append 56 = .ok (.iadd, 1) := by decide +kernel
theorem dX5_append_57 : decode cX5_append 57 = .ok (.putfield 31, 3) := by decide +kernel
theorem dX5_append_60 : decode cX5_append 60 = .ok (.return_, 1) := by decide +kernel
theorem dX5_remove_0 : decode cX5_remove 0 = .ok (.iload_n 1, 1) := by decide +kernel
theorem dX5_remove_1 : decode cX5_remove 1 = .ok (.iconst 1, 1) := by decide +kernel
theorem dX5_remove_2 : decode cX5_remove 2 = .ok (.iadd, 1) := by decide +kernel
theorem dX5_remove_3 : decode cX5_remove 3 = .ok (.istore_n 2, 1) := by decide +kernel
theorem dX5_remove_4 : decode cX5_remove 4 = .ok (.iload_n 2, 1) := by decide +kernel
theorem dX5_remove_5 : decode cX5_remove 5 = .ok (.aload_n 0, 1) := by decide +kernel
theorem dX5_remove_6 : decode cX5_remove 6 = .ok (.getfield 31, 3) := by decide +kernel
