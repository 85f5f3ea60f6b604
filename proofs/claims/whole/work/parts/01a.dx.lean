theorem dX0_init_0 : decode cX0_init 0 = .ok (.aload_n 0, 1) := by decide +kernel
theorem dX0_init_1 : decode cX0_init 1 = .ok (.invokespecial 3, 3) := by decide +kernel
theorem dX0_init_4 : decode cX0_init 4 = .ok (.aload_n 0, 1) := by decide +kernel
theorem dX0_init_5 : decode cX0_init 5 = .ok (.sipush 256, 3) := by decide +kernel
theorem dX0_init_8 : decode cX0_init 8 = .ok (.newarray .boolean, 2) := by decide +kernel
theorem dX0_init_10 : decode cX0_init 10 = .ok (.putfield 9, 3) := by decide +kernel
theorem dX0_init_13 : decode cX0_init 13 = .ok (.aload_n 0, 1) := by decide +kernel
theorem dX0_init_14 : decode cX0_init 14 = .ok (.sipush 256, 3) := by decide +kernel
theorem dX0_init_17 : decode cX0_init 17 = .ok (.newarray .int, 2) := by decide +kernel
theorem dX0_init_19 : decode cX0_init 19 = .ok (.putfield 15, 3) := by decide +kernel
theorem dX0_init_22 : decode cX0_init 22 = .ok (.return_, 1) := by decide +kernel
set_option maxRecDepth 20000 in
theorem ggX0_waysToCross_X2_here : GoodIn wsX0_waysToCross wsX2_here := goodIn_r _ [7, 8, 9, 10, 11, 6, 12, 13, 91, 92, 93, 94, 95, 96, 97, 98, 99, 100, 101, 102, 103] (by decide +kernel) (by decide +kernel)
set_option maxRecDepth 20000 in
theorem gX0_waysToCross_X2_here : GoodIn wsX0_waysToCross (wsV RX0 19 RX2 yX2_here wsX2_here) := goodIn_app (goodIn_of _ (by decide +kernel)) ggX0_waysToCross_X2_here
set_option maxRecDepth 20000 in
theorem ggX0_waysToCross_J7_fill_53178 : GoodIn wsX0_waysToCross wsJ7_fill_53178 := goodIn_r _ [17] (by decide +kernel) (by decide +kernel)
set_option maxRecDepth 20000 in
theorem gX0_waysToCross_J7_fill_53178 : GoodIn wsX0_waysToCross (va_wsS RX0 29 yJ7_fill_53178 wsJ7_fill_53178) := goodIn_app (goodIn_of _ (by decide +kernel)) ggX0_waysToCross_J7_fill_53178
set_option maxRecDepth 20000 in
theorem ggX0_waysToCross_X6_at : GoodIn wsX0_waysToCross wsX6_at := goodIn_r _ [22, 23, 24, 25, 26, 21, 27, 28, 29, 30, 31, 32, 33, 34, 35, 36, 104, 105, 106] (by decide +kernel) (by decide +kernel)
set_option maxRecDepth 20000 in
theorem gX0_waysToCross_X6_at : GoodIn wsX0_waysToCross (wsV RX0 35 RX6 yX6_at wsX6_at) := goodIn_app (goodIn_of _ (by decide +kernel)) ggX0_waysToCross_X6_at
set_option maxRecDepth 20000 in
theorem ggX0_waysToCross_X0_markFits : GoodIn wsX0_waysToCross wsX0_markFits := goodIn_r _ [41, 42, 43, 44, 45, 46, 47, 48, 6, 49, 50, 34, 35, 36, 51, 52, 53, 54, 55, 56, 57, 58, 59, 60, 13, 61, 62, 63, 64, 65, 66, 67, 68, 69, 70, 71, 72, 73, 74, 75, 76, 77, 78, 79, 88, 89, 90, 91, 92, 93, 94, 95, 96, 97, 98, 99, 100, 101, 102, 103] (by decide +kernel) (by decide +kernel)
set_option maxRecDepth 20000 in
theorem gX0_waysToCross_X0_markFits : GoodIn wsX0_waysToCross (wsV RX0 41 RX0 yX0_markFits wsX0_markFits) := goodIn_app (goodIn_of _ (by decide +kernel)) ggX0_waysToCross_X0_markFits
set_option maxRecDepth 20000 in
theorem ggX0_waysToCross_X0_firstFit : GoodIn wsX0_waysToCross wsX0_firstFit := goodIn_r _ [83, 43, 2, 88, 89, 90] (by decide +kernel) (by decide +kernel)
set_option maxRecDepth 20000 in
theorem gX0_waysToCross_X0_firstFit : GoodIn wsX0_waysToCross (wsV RX0 45 RX0 yX0_firstFit wsX0_firstFit) := goodIn_app (goodIn_of _ (by decide +kernel)) ggX0_waysToCross_X0_firstFit
set_option maxRecDepth 20000 in
theorem ggX0_waysToCross_X0_waysFrom : GoodIn wsX0_waysToCross wsX0_waysFrom := goodIn_r _ [87, 43, 2, 88, 89, 90] (by decide +kernel) (by decide +kernel)
set_option maxRecDepth 20000 in
theorem gX0_waysToCross_X0_waysFrom : GoodIn wsX0_waysToCross (wsV RX0 49 RX0 yX0_waysFrom wsX0_waysFrom) := goodIn_app (goodIn_of _ (by decide +kernel)) ggX0_waysToCross_X0_waysFrom
theorem dX0_waysToCross_0 : decode cX0_waysToCross 0 = .ok (.aload_n 1, 1) := by decide +kernel
theorem dX0_waysToCross_1 : decode cX0_waysToCross 1 = .ok (.invokevirtual 19, 3) := by decide +kernel
theorem dX0_waysToCross_4 : decode cX0_waysToCross 4 = .ok (.istore 4, 2) := by decide +kernel
theorem dX0_waysToCross_6 : decode cX0_waysToCross 6 = .ok (.aload_n 0, 1) := by decide +kernel
theorem dX0_waysToCross_7 : decode cX0_waysToCross 7 = .ok (.iconst (-1), 1) := by decide +kernel
theorem dX0_waysToCross_8 : decode cX0_waysToCross 8 = .ok (.putfield 25, 3) := by decide +kernel
theorem dX0_waysToCross_11 : decode cX0_waysToCross 11 = .ok (.aload_n 0, 1) := by decide +kernel
theorem dX0_waysToCross_12 : decode cX0_waysToCross 12 = .ok (.getfield 15, 3) := by decide +kernel
theorem dX0_waysToCross_15 : decode cX0_waysToCross 15 = .ok (.iconst 1, 1) := by decide +kernel
theorem dX0_waysToCross_16 : decode cX0_waysToCross 16 = .ok (.invokestatic 29, 3) := by decide +kernel
theorem dX0_waysToCross_19 : decode cX0_waysToCross 19 = .ok (.iload_n 3, 1) := by decide +kernel
theorem dX0_waysToCross_20 : decode cX0_waysToCross 20 = .ok (.iconst 1, 1) := by decide +kernel
theorem dX0_waysToCross_21 : decode cX0_waysToCross 21 = .ok (.isub, 1) := by decide +kernel
theorem dX0_waysToCross_22 : decode cX0_waysToCross 22 = .ok (.istore 5, 2) := by decide +kernel
theorem dX0_waysToCross_24 : decode cX0_waysToCross 24 = .ok (.iload 5, 2) := by decide +kernel
theorem dX0_waysToCross_26 : decode cX0_waysToCross 26 = .ok (.ifCond .lt 79, 3) := by decide +kernel
theorem dX0_waysToCross_29 : decode cX0_waysToCross 29 = .ok (.aload_n 0, 1) := by decide +kernel
theorem dX0_waysToCross_30 : decode cX0_waysToCross 30 = .ok (.aload_n 1, 1) := by decide +kernel
theorem dX0_waysToCross_31 : decode cX0_waysToCross 31 = .ok (.iload 4, 2) := by decide +kernel
theorem dX0_waysToCross_33 : decode cX0_waysToCross 33 = .ok (.aload_n 2, 1) := by decide +kernel
theorem dX0_waysToCross_34 : decode cX0_waysToCross 34 = .ok (.iload 5, 2) := by decide +kernel
theorem dX0_waysToCross_36 : decode cX0_waysToCross 36 = .ok (.invokevirtual 35, 3) := by decide +kernel
theorem dX0_waysToCross_39 : decode cX0_waysToCross 39 = .ok (.invokevirtual 41, 3) := by decide +kernel
theorem dX0_waysToCross_42 : decode cX0_waysToCross 42 = .ok (.iload 5, 2) := by decide +kernel
theorem dX0_waysToCross_44 : decode cX0_waysToCross 44 = .ok (.ifCond .ne 13, 3) := by decide +kernel
theorem dX0_waysToCross_47 : decode cX0_waysToCross 47 = .ok (.aload_n 0, 1) := by decide +kernel
theorem dX0_waysToCross_48 : decode cX0_waysToCross 48 = .ok (.aload_n 0, 1) := by decide +kernel
theorem dX0_waysToCross_49 : decode cX0_waysToCross 49 = .ok (.iload 4, 2) := by decide +kernel
theorem dX0_waysToCross_51 : decode cX0_waysToCross 51 = .ok (.invokevirtual 45, 3) := by decide +kernel
theorem dX0_waysToCross_54 : decode cX0_waysToCross 54 = .ok (.putfield 25, 3) := by decide +kernel
theorem dX0_waysToCross_57 : decode cX0_waysToCross 57 = .ok (.iload 4, 2) := by decide +kernel
theorem dX0_waysToCross_59 : decode cX0_waysToCross 59 = .ok (.istore 6, 2) := by decide +kernel
theorem dX0_waysToCross_61 : decode cX0_waysToCross 61 = .ok (.iload 6, 2) := by decide +kernel
theorem dX0_waysToCross_63 : decode cX0_waysToCross 63 = .ok (.ifCond .lt 36, 3) := by decide +kernel
theorem dX0_waysToCross_66 : decode cX0_waysToCross 66 = .ok (.aload_n 0, 1) := by decide +kernel
theorem dX0_waysToCross_67 : decode cX0_waysToCross 67 = .ok (.getfield 15, 3) := by decide +kernel
theorem dX0_waysToCross_70 : decode cX0_waysToCross 70 = .ok (.iload 6, 2) := by decide +kernel
theorem dX0_waysToCross_72 : decode cX0_waysToCross 72 = .ok (.iload 6, 2) := by decide +kernel
theorem dX0_waysToCross_74 : decode cX0_waysToCross 74 = .ok (.iload 4, 2) := by decide +kernel
theorem dX0_waysToCross_76 : decode cX0_waysToCross 76 = .ok (.iconst (-1), 1) := by decide +kernel
theorem dX0_waysToCross_77 : decode cX0_waysToCross 77 = .ok (.ixor, 1) := by decide +kernel
theorem dX0_waysToCross_78 : decode cX0_waysToCross 78 = .ok (.iand, 1) := by decide +kernel
theorem dX0_waysToCross_79 : decode cX0_waysToCross 79 = .ok (.ifCond .ne 12, 3) := by decide +kernel
theorem dX0_waysToCross_82 : decode cX0_waysToCross 82 = .ok (.aload_n 0, 1) := by decide +kernel
theorem dX0_waysToCross_83 : decode cX0_waysToCross 83 = .ok (.iload 6, 2) := by decide +kernel
theorem dX0_waysToCross_85 : decode cX0_waysToCross 85 = .ok (.invokevirtual 49, 3) := by decide +kernel
theorem dX0_waysToCross_88 : decode cX0_waysToCross 88 = .ok (.goto 4, 3) := by decide +kernel
theorem dX0_waysToCross_91 : decode cX0_waysToCross 91 = .ok (.iconst 0, 1) := by decide +kernel
theorem dX0_waysToCross_92 : decode cX0_waysToCross 92 = .ok (.iastore, 1) := by decide +kernel
theorem dX0_waysToCross_93 : decode cX0_waysToCross 93 = .ok (.iinc 6 (-1), 3) := by decide +kernel
theorem dX0_waysToCross_96 : decode cX0_waysToCross 96 = .ok (.goto (-35), 3) := by decide +kernel
theorem dX0_waysToCross_99 : decode cX0_waysToCross 99 = .ok (.iinc 5 (-1), 3) := by decide +kernel
theorem dX0_waysToCross_102 : decode cX0_waysToCross 102 = .ok (.goto (-78), 3) := by decide +kernel
theorem dX0_waysToCross_105 : decode cX0_waysToCross 105 = .ok (.aload_n 0, 1) := by decide +kernel
theorem dX0_waysToCross_106 : decode cX0_waysToCross 106 = .ok (.getfield 15, 3) := by decide +kernel
theorem dX0_waysToCross_109 : decode cX0_waysToCross 109 = .ok (.iload 4, 2) := by decide +kernel
theorem dX0_waysToCross_111 : decode cX0_waysToCross 111 = .ok (.iaload, 1) := by decide +kernel
theorem dX0_waysToCross_112 : decode cX0_waysToCross 112 = .ok (.ireturn, 1) := by decide +kernel
set_option maxRecDepth 20000 in
theorem ggX0_markFits_X2_lets : GoodIn wsX0_markFits wsX2_lets := goodIn_r _ [9, 10, 11, 12, 13, 14, 15, 8, 16, 17, 18, 19, 47, 48, 49, 50, 51, 52, 53, 54, 55, 56, 57, 58, 59] (by decide +kernel) (by decide +kernel)
set_option maxRecDepth 20000 in
theorem gX0_markFits_X2_lets : GoodIn wsX0_markFits (wsV RX0 54 RX2 yX2_lets wsX2_lets) := goodIn_app (goodIn_of _ (by decide +kernel)) ggX0_markFits_X2_lets
set_option maxRecDepth 20000 in
theorem ggX0_markFits_X2_headsTogether : GoodIn wsX0_markFits wsX2_headsTogether := goodIn_r _ [23, 24, 25, 12, 26, 27, 28, 29, 8, 30, 31, 32, 33, 34, 35, 36, 10, 37, 47, 48, 49, 50, 51, 52, 53, 54, 55, 56, 57, 58, 59] (by decide +kernel) (by decide +kernel)
set_option maxRecDepth 20000 in
theorem gX0_markFits_X2_headsTogether : GoodIn wsX0_markFits (wsV RX0 58 RX2 yX2_headsTogether wsX2_headsTogether) := goodIn_app (goodIn_of _ (by decide +kernel)) ggX0_markFits_X2_headsTogether
set_option maxRecDepth 20000 in
theorem ggX0_markFits_X2_agrees : GoodIn wsX0_markFits wsX2_agrees := goodIn_r _ [41, 24, 42, 43, 25, 12, 26, 47, 48, 49, 50, 51, 52, 53, 54, 55, 56, 57, 58, 59] (by decide +kernel) (by decide +kernel)
set_option maxRecDepth 20000 in
theorem gX0_markFits_X2_agrees : GoodIn wsX0_markFits (wsV RX0 67 RX2 yX2_agrees wsX2_agrees) := goodIn_app (goodIn_of _ (by decide +kernel)) ggX0_markFits_X2_agrees
theorem dX0_markFits_0 : decode cX0_markFits 0 = .ok (.lload_n 3, 1) := by decide +kernel
theorem dX0_markFits_1 : decode cX0_markFits 1 = .ok (.lconst 1, 1) := by decide +kernel
theorem dX0_markFits_2 : decode cX0_markFits 2 = .ok (.lcmp, 1) := by decide +kernel
theorem dX0_markFits_3 : decode cX0_markFits 3 = .ok (.ifCond .lt 24, 3) := by decide +kernel
theorem dX0_markFits_6 : decode cX0_markFits 6 = .ok (.lload_n 3, 1) := by decide +kernel
theorem dX0_markFits_7 : decode cX0_markFits 7 = .ok (.ldc2_w 52, 3) := by decide +kernel
theorem dX0_markFits_10 : decode cX0_markFits 10 = .ok (.lcmp, 1) := by decide +kernel
theorem dX0_markFits_11 : decode cX0_markFits 11 = .ok (.ifCond .gt 16, 3) := by decide +kernel
theorem dX0_markFits_14 : decode cX0_markFits 14 = .ok (.aload_n 1, 1) := by decide +kernel
theorem dX0_markFits_15 : decode cX0_markFits 15 = .ok (.lload_n 3, 1) := by decide +kernel
theorem dX0_markFits_16 : decode cX0_markFits 16 = .ok (.l2i, 1) := by decide +kernel
theorem dX0_markFits_17 : decode cX0_markFits 17 = .ok (.invokevirtual 54, 3) := by decide +kernel
theorem dX0_markFits_20 : decode cX0_markFits 20 = .ok (.ifCond .eq 7, 3) := by decide +kernel
theorem dX0_markFits_23 : decode cX0_markFits 23 = .ok (.iconst 1, 1) := by decide +kernel
theorem dX0_markFits_24 : decode cX0_markFits 24 = .ok (.goto 4, 3) := by decide +kernel
theorem dX0_markFits_27 : decode cX0_markFits 27 = .ok (.iconst 0, 1) := by decide +kernel
theorem dX0_markFits_28 : decode cX0_markFits 28 = .ok (.istore 5, 2) := by decide +kernel
theorem dX0_markFits_30 : decode cX0_markFits 30 = .ok (.iconst 1, 1) := by decide +kernel
theorem dX0_markFits_31 : decode cX0_markFits 31 = .ok (.istore 6, 2) := by decide +kernel
theorem dX0_markFits_33 : decode cX0_markFits 33 = .ok (.iload 6, 2) := by decide +kernel
theorem dX0_markFits_35 : decode cX0_markFits 35 = .ok (.iload_n 2, 1) := by decide +kernel
theorem dX0_markFits_36 : decode cX0_markFits 36 = .ok (.if_icmp .gt 70, 3) := by decide +kernel
theorem dX0_markFits_39 : decode cX0_markFits 39 = .ok (.lload_n 3, 1) := by decide +kernel
theorem dX0_markFits_40 : decode cX0_markFits 40 = .ok (.aload_n 1, 1) := by decide +kernel
theorem dX0_markFits_41 : decode cX0_markFits 41 = .ok (.iload 6, 2) := by decide +kernel
theorem dX0_markFits_43 : decode cX0_markFits 43 = .ok (.invokevirtual 58, 3) := by decide +kernel
theorem dX0_markFits_46 : decode cX0_markFits 46 = .ok (.i2l, 1) := by decide +kernel
theorem dX0_markFits_47 : decode cX0_markFits 47 = .ok (.lsub, 1) := by decide +kernel
theorem dX0_markFits_48 : decode cX0_markFits 48 = .ok (.lstore 7, 2) := by decide +kernel
theorem dX0_markFits_50 : decode cX0_markFits 50 = .ok (.aload_n 0, 1) := by decide +kernel
theorem dX0_markFits_51 : decode cX0_markFits 51 = .ok (.getfield 9, 3) := by decide +kernel
theorem dX0_markFits_54 : decode cX0_markFits 54 = .ok (.iload 6, 2) := by decide +kernel
theorem dX0_markFits_56 : decode cX0_markFits 56 = .ok (.iload 5, 2) := by decide +kernel
theorem dX0_markFits_58 : decode cX0_markFits 58 = .ok (.ifCond .eq 40, 3) := by decide +kernel
theorem dX0_markFits_61 : decode cX0_markFits 61 = .ok (.lload 7, 2) := by decide +kernel
theorem dX0_markFits_63 : decode cX0_markFits 63 = .ok (.lconst 0, 1) := by decide +kernel
theorem dX0_markFits_64 : decode cX0_markFits 64 = .ok (.lcmp, 1) := by decide +kernel
theorem dX0_markFits_65 : decode cX0_markFits 65 = .ok (.ifCond .lt 33, 3) := by decide +kernel
theorem dX0_markFits_68 : decode cX0_markFits 68 = .ok (.lload 7, 2) := by decide +kernel
theorem dX0_markFits_70 : decode cX0_markFits 70 = .ok (.aload_n 1, 1) := by decide +kernel
theorem dX0_markFits_71 : decode cX0_markFits 71 = .ok (.getfield 61, 3) := by decide +kernel
theorem dX0_markFits_74 : decode cX0_markFits 74 = .ok (.iconst 3, 1) := by decide +kernel
theorem dX0_markFits_75 : decode cX0_markFits 75 = .ok (.iaload, 1) := by decide +kernel
theorem dX0_markFits_76 : decode cX0_markFits 76 = .ok (.i2l, 1) := by decide +kernel
theorem dX0_markFits_77 : decode cX0_markFits 77 = .ok (.lcmp, 1) := by decide +kernel
theorem dX0_markFits_78 : decode cX0_markFits 78 = .ok (.ifCond .gt 20, 3) := by decide +kernel
theorem dX0_markFits_81 : decode cX0_markFits 81 = .ok (.aload_n 1, 1) := by decide +kernel
theorem dX0_markFits_82 : decode cX0_markFits 82 = .ok (.iload 6, 2) := by decide +kernel
theorem dX0_markFits_84 : decode cX0_markFits 84 = .ok (.aload_n 1, 1) := by decide +kernel
theorem dX0_markFits_85 : decode cX0_markFits 85 = .ok (.getfield 64, 3) := by decide +kernel
theorem dX0_markFits_88 : decode cX0_markFits 88 = .ok (.invokevirtual 67, 3) := by decide +kernel
theorem dX0_markFits_91 : decode cX0_markFits 91 = .ok (.ifCond .eq 7, 3) := by decide +kernel
theorem dX0_markFits_94 : decode cX0_markFits 94 = .ok (.iconst 1, 1) := by decide +kernel
theorem dX0_markFits_95 : decode cX0_markFits 95 = .ok (.goto 4, 3) := by decide +kernel
theorem dX0_markFits_98 : decode cX0_markFits 98 = .ok (.iconst 0, 1) := by decide +kernel
theorem dX0_markFits_99 : decode cX0_markFits 99 = .ok (.bastore, 1) := by decide +kernel
theorem dX0_markFits_100 : decode cX0_markFits 100 = .ok (.iinc 6 1, 3) := by decide +kernel
theorem dX0_markFits_103 : decode cX0_markFits 103 = .ok (.goto (-70), 3) := by decide +kernel
theorem dX0_markFits_106 : decode cX0_markFits 106 = .ok (.return_, 1) := by decide +kernel
theorem dX0_firstFit_0 : decode cX0_firstFit 0 = .ok (.iconst 1, 1) := by decide +kernel
theorem dX0_firstFit_1 : decode cX0_firstFit 1 = .ok (.istore_n 2, 1) := by decide +kernel
theorem dX0_firstFit_2 : decode cX0_firstFit 2 = .ok (.iload_n 2, 1) := by decide +kernel
theorem dX0_firstFit_3 : decode cX0_firstFit 3 = .ok (.iload_n 1, 1) := by decide +kernel
theorem dX0_firstFit_4 : decode cX0_firstFit 4 = .ok (.if_icmp .gt 39, 3) := by decide +kernel
theorem dX0_firstFit_7 : decode cX0_firstFit 7 = .ok (.iload_n 2, 1) := by decide +kernel
theorem dX0_firstFit_8 : decode cX0_firstFit 8 = .ok (.iload_n 1, 1) := by decide +kernel
theorem dX0_firstFit_9 : decode cX0_firstFit 9 = .ok (.iconst (-1), 1) := by decide +kernel
theorem dX0_firstFit_10 : decode cX0_firstFit 10 = .ok (.ixor, 1) := by decide +kernel
theorem dX0_firstFit_11 : decode cX0_firstFit 11 = .ok (.iand, 1) := by decide +kernel
theorem dX0_firstFit_12 : decode cX0_firstFit 12 = .ok (.ifCond .ne 25, 3) := by decide +kernel
theorem dX0_firstFit_15 : decode cX0_firstFit 15 = .ok (.aload_n 0, 1) := by decide +kernel
theorem dX0_firstFit_16 : decode cX0_firstFit 16 = .ok (.getfield 9, 3) := by decide +kernel
theorem dX0_firstFit_19 : decode cX0_firstFit 19 = .ok (.iload_n 2, 1) := by decide +kernel
theorem dX0_firstFit_20 : decode cX0_firstFit 20 = .ok (.baload, 1) := by decide +kernel
theorem dX0_firstFit_21 : decode cX0_firstFit 21 = .ok (.ifCond .eq 16, 3) := by decide +kernel
theorem dX0_firstFit_24 : decode cX0_firstFit 24 = .ok (.aload_n 0, 1) := by decide +kernel
theorem dX0_firstFit_25 : decode cX0_firstFit 25 = .ok (.getfield 15, 3) := by decide +kernel
theorem dX0_firstFit_28 : decode cX0_firstFit 28 = .ok (.iload_n 1, 1) := by decide +kernel
theorem dX0_firstFit_29 : decode cX0_firstFit 29 = .ok (.iload_n 2, 1) := by decide +kernel
theorem dX0_firstFit_30 : decode cX0_firstFit 30 = .ok (.ixor, 1) := by decide +kernel
theorem dX0_firstFit_31 : decode cX0_firstFit 31 = .ok (.iaload, 1) := by decide +kernel
theorem dX0_firstFit_32 : decode cX0_firstFit 32 = .ok (.ifCond .le 5, 3) := by decide +kernel
theorem dX0_firstFit_35 : decode cX0_firstFit 35 = .ok (.iload_n 2, 1) := by decide +kernel
theorem dX0_firstFit_36 : decode cX0_firstFit 36 = .ok (.ireturn, 1) := by decide +kernel
theorem dX0_firstFit_37 : decode cX0_firstFit 37 = .ok (.iinc 2 1, 3) := by decide +kernel
theorem dX0_firstFit_40 : decode cX0_firstFit 40 = .ok (.goto (-38), 3) := by decide +kernel
theorem dX0_firstFit_43 : decode cX0_firstFit 43 = .ok (.iconst (-1), 1) := by decide +kernel
theorem dX0_firstFit_44 : decode cX0_firstFit 44 = .ok (.ireturn, 1) := by decide +kernel
theorem dX0_waysFrom_0 : decode cX0_waysFrom 0 = .ok (.iconst 0, 1) := by decide +kernel
theorem dX0_waysFrom_1 : decode cX0_waysFrom 1 = .ok (.istore_n 2, 1) := by decide +kernel
theorem dX0_waysFrom_2 : decode cX0_waysFrom 2 = .ok (.iload_n 1, 1) := by decide +kernel
theorem dX0_waysFrom_3 : decode cX0_waysFrom 3 = .ok (.istore_n 3, 1) := by decide +kernel
theorem dX0_waysFrom_4 : decode cX0_waysFrom 4 = .ok (.iload_n 3, 1) := by decide +kernel
theorem dX0_waysFrom_5 : decode cX0_waysFrom 5 = .ok (.ifCond .le 32, 3) := by decide +kernel
theorem dX0_waysFrom_8 : decode cX0_waysFrom 8 = .ok (.aload_n 0, 1) := by decide +kernel
theorem dX0_waysFrom_9 : decode cX0_waysFrom 9 = .ok (.getfield 9, 3) := by decide +kernel
theorem dX0_waysFrom_12 : decode cX0_waysFrom 12 = .ok (.iload_n 3, 1) := by decide +kernel
theorem dX0_waysFrom_13 : decode cX0_waysFrom 13 = .ok (.baload, 1) := by decide +kernel
theorem dX0_waysFrom_14 : decode cX0_waysFrom 14 = .ok (.ifCond .eq 14, 3) := by decide +kernel
theorem dX0_waysFrom_17 : decode cX0_waysFrom 17 = .ok (.iload_n 2, 1) := by decide +kernel
theorem dX0_waysFrom_18 : decode cX0_waysFrom 18 = .ok (.aload_n 0, 1) := by decide +kernel
theorem dX0_waysFrom_19 : decode cX0_waysFrom 19 = .ok (.getfield 15, 3) := by decide +kernel
theorem dX0_waysFrom_22 : decode cX0_waysFrom 22 = .ok (.iload_n 1, 1) := by decide +kernel
theorem dX0_waysFrom_23 : decode cX0_waysFrom 23 = .ok (.iload_n 3, 1) := by decide +kernel
theorem dX0_waysFrom_24 : decode cX0_waysFrom 24 = .ok (.ixor, 1) := by decide +kernel
theorem dX0_waysFrom_25 : decode cX0_waysFrom 25 = .ok (.iaload, 1) := by decide +kernel
theorem dX0_waysFrom_26 : decode cX0_waysFrom 26 = .ok (.iadd, 1) := by decide +kernel
theorem dX0_waysFrom_27 : decode cX0_waysFrom 27 = .ok (.istore_n 2, 1) := by decide +kernel
theorem dX0_waysFrom_28 : decode cX0_waysFrom 28 = .ok (.iload_n 3, 1) := by decide +kernel
theorem dX0_waysFrom_29 : decode cX0_waysFrom 29 = .ok (.iconst 1, 1) := by decide +kernel
theorem dX0_waysFrom_30 : decode cX0_waysFrom 30 = .ok (.isub, 1) := by decide +kernel
theorem dX0_waysFrom_31 : decode cX0_waysFrom 31 = .ok (.iload_n 1, 1) := by decide +kernel
theorem dX0_waysFrom_32 : decode cX0_waysFrom 32 = .ok (.iand, 1) := by decide +kernel
theorem dX0_waysFrom_33 : decode cX0_waysFrom 33 = .ok (.istore_n 3, 1) := by decide +kernel
theorem dX0_waysFrom_34 : decode cX0_waysFrom 34 = .ok (.goto (-30), 3) := by decide +kernel
theorem dX0_waysFrom_37 : decode cX0_waysFrom 37 = .ok (.iload_n 2, 1) := by decide +kernel
theorem dX0_waysFrom_38 : decode cX0_waysFrom 38 = .ok (.ireturn, 1) := by decide +kernel
theorem dX1_init_0 : decode cX1_init 0 = .ok (.aload_n 0, 1) := by decide +kernel
theorem dX1_init_1 : decode cX1_init 1 = .ok (.invokespecial 3, 3) := by decide +kernel
theorem dX1_init_4 : decode cX1_init 4 = .ok (.aload_n 0, 1) := by decide +kernel
theorem dX1_init_5 : decode cX1_init 5 = .ok (.sipush 200, 3) := by decide +kernel
theorem dX1_init_8 : decode cX1_init 8 = .ok (.newarray .boolean, 2) := by decide +kernel
theorem dX1_init_10 : decode cX1_init 10 = .ok (.putfield 9, 3) := by decide +kernel
theorem dX1_init_13 : decode cX1_init 13 = .ok (.aload_n 0, 1) := by decide +kernel
theorem dX1_init_14 : decode cX1_init 14 = .ok (.iconst 2, 1) := by decide +kernel
theorem dX1_init_15 : decode cX1_init 15 = .ok (.newarray .int, 2) := by decide +kernel
theorem dX1_init_17 : decode cX1_init 17 = .ok (.putfield 15, 3) := by decide +kernel
theorem dX1_init_20 : decode cX1_init 20 = .ok (.return_, 1) := by decide +kernel
set_option maxRecDepth 20000 in
theorem ggX1_firstBid_X1_winningStep : GoodIn wsX1_firstBid wsX1_winningStep := goodIn_r _ [7, 1, 8, 9, 10, 11, 2, 12, 13] (by decide +kernel) (by decide +kernel)
set_option maxRecDepth 20000 in
theorem gX1_firstBid_X1_winningStep : GoodIn wsX1_firstBid (wsV RX1 19 RX1 yX1_winningStep wsX1_winningStep) := goodIn_app (goodIn_of _ (by decide +kernel)) ggX1_firstBid_X1_winningStep
theorem dX1_firstBid_0 : decode cX1_firstBid 0 = .ok (.aload_n 0, 1) := by decide +kernel
theorem dX1_firstBid_1 : decode cX1_firstBid 1 = .ok (.getfield 15, 3) := by decide +kernel
theorem dX1_firstBid_4 : decode cX1_firstBid 4 = .ok (.iconst 0, 1) := by decide +kernel
theorem dX1_firstBid_5 : decode cX1_firstBid 5 = .ok (.iload_n 1, 1) := by decide +kernel
theorem dX1_firstBid_6 : decode cX1_firstBid 6 = .ok (.iastore, 1) := by decide +kernel
theorem dX1_firstBid_7 : decode cX1_firstBid 7 = .ok (.aload_n 0, 1) := by decide +kernel
theorem dX1_firstBid_8 : decode cX1_firstBid 8 = .ok (.getfield 15, 3) := by decide +kernel
theorem dX1_firstBid_11 : decode cX1_firstBid 11 = .ok (.iconst 1, 1) := by decide +kernel
theorem dX1_firstBid_12 : decode cX1_firstBid 12 = .ok (.iload_n 2, 1) := by decide +kernel
theorem dX1_firstBid_13 : decode cX1_firstBid 13 = .ok (.iastore, 1) := by decide +kernel
theorem dX1_firstBid_14 : decode cX1_firstBid 14 = .ok (.bipush 99, 2) := by decide +kernel
theorem dX1_firstBid_16 : decode cX1_firstBid 16 = .ok (.istore_n 3, 1) := by decide +kernel
theorem dX1_firstBid_17 : decode cX1_firstBid 17 = .ok (.iload_n 3, 1) := by decide +kernel
theorem dX1_firstBid_18 : decode cX1_firstBid 18 = .ok (.ifCond .lt 55, 3) := by decide +kernel
theorem dX1_firstBid_21 : decode cX1_firstBid 21 = .ok (.aload_n 0, 1) := by decide +kernel
theorem dX1_firstBid_22 : decode cX1_firstBid 22 = .ok (.getfield 9, 3) := by decide +kernel
theorem dX1_firstBid_25 : decode cX1_firstBid 25 = .ok (.iconst 2, 1) := by decide +kernel
theorem dX1_firstBid_26 : decode cX1_firstBid 26 = .ok (.iload_n 3, 1) := by decide +kernel
theorem dX1_firstBid_27 : decode cX1_firstBid 27 = .ok (.imul, 1) := by decide +kernel
theorem dX1_firstBid_28 : decode cX1_firstBid 28 = .ok (.aload_n 0, 1) := by decide +kernel
theorem dX1_firstBid_29 : decode cX1_firstBid 29 = .ok (.iload_n 3, 1) := by decide +kernel
theorem dX1_firstBid_30 : decode cX1_firstBid 30 = .ok (.iconst 0, 1) := by decide +kernel
theorem dX1_firstBid_31 : decode cX1_firstBid 31 = .ok (.invokevirtual 19, 3) := by decide +kernel
theorem dX1_firstBid_34 : decode cX1_firstBid 34 = .ok (.ifCond .le 7, 3) := by decide +kernel
theorem dX1_firstBid_37 : decode cX1_firstBid 37 = .ok (.iconst 1, 1) := by decide +kernel
theorem dX1_firstBid_38 : decode cX1_firstBid 38 = .ok (.goto 4, 3) := by decide +kernel
theorem dX1_firstBid_41 : decode cX1_firstBid 41 = .ok (.iconst 0, 1) := by decide +kernel
theorem dX1_firstBid_42 : decode cX1_firstBid 42 = .ok (.bastore, 1) := by decide +kernel
theorem dX1_firstBid_43 : decode cX1_firstBid 43 = .ok (.aload_n 0, 1) := by decide +kernel
theorem dX1_firstBid_44 : decode cX1_firstBid 44 = .ok (.getfield 9, 3) := by decide +kernel
theorem dX1_firstBid_47 : decode cX1_firstBid 47 = .ok (.iconst 2, 1) := by decide +kernel
theorem dX1_firstBid_48 : decode cX1_firstBid 48 = .ok (.iload_n 3, 1) := by decide +kernel
theorem dX1_firstBid_49 : decode cX1_firstBid 49 = .ok (.imul, 1) := by decide +kernel
theorem dX1_firstBid_50 : decode cX1_firstBid 50 = .ok (.iconst 1, 1) := by decide +kernel
theorem dX1_firstBid_51 : decode cX1_firstBid 51 = .ok (.iadd, 1) := by decide +kernel
theorem dX1_firstBid_52 : decode cX1_firstBid 52 = .ok (.aload_n 0, 1) := by decide +kernel
theorem dX1_firstBid_53 : decode cX1_firstBid 53 = .ok (.iload_n 3, 1) := by decide +kernel
theorem dX1_firstBid_54 : decode cX1_firstBid 54 = .ok (.iconst 1, 1) := by decide +kernel
theorem dX1_firstBid_55 : decode cX1_firstBid 55 = .ok (.invokevirtual 19, 3) := by decide +kernel
theorem dX1_firstBid_58 : decode cX1_firstBid 58 = .ok (.ifCond .le 7, 3) := by decide +kernel
theorem dX1_firstBid_61 : decode cX1_firstBid 61 = .ok (.iconst 1, 1) := by decide +kernel
theorem dX1_firstBid_62 : decode cX1_firstBid 62 = .ok (.goto 4, 3) := by decide +kernel
theorem dX1_firstBid_65 : decode cX1_firstBid 65 = .ok (.iconst 0, 1) := by decide +kernel
theorem dX1_firstBid_66 : decode cX1_firstBid 66 = .ok (.bastore, 1) := by decide +kernel
theorem dX1_firstBid_67 : decode cX1_firstBid 67 = .ok (.iinc 3 (-1), 3) := by decide +kernel
theorem dX1_firstBid_70 : decode cX1_firstBid 70 = .ok (.goto (-53), 3) := by decide +kernel
theorem dX1_firstBid_73 : decode cX1_firstBid 73 = .ok (.aload_n 0, 1) := by decide +kernel
theorem dX1_firstBid_74 : decode cX1_firstBid 74 = .ok (.iconst 0, 1) := by decide +kernel
theorem dX1_firstBid_75 : decode cX1_firstBid 75 = .ok (.iconst 0, 1) := by decide +kernel
theorem dX1_firstBid_76 : decode cX1_firstBid 76 = .ok (.invokevirtual 19, 3) := by decide +kernel
theorem dX1_firstBid_79 : decode cX1_firstBid 79 = .ok (.ireturn, 1) := by decide +kernel
theorem dX1_winningStep_0 : decode cX1_winningStep 0 = .ok (.aload_n 0, 1) := by decide +kernel
theorem dX1_winningStep_1 : decode cX1_winningStep 1 = .ok (.getfield 15, 3) := by decide +kernel
theorem dX1_winningStep_4 : decode cX1_winningStep 4 = .ok (.iload_n 2, 1) := by decide +kernel
theorem dX1_winningStep_5 : decode cX1_winningStep 5 = .ok (.iaload, 1) := by decide +kernel
theorem dX1_winningStep_6 : decode cX1_winningStep 6 = .ok (.bipush 99, 2) := by decide +kernel
theorem dX1_winningStep_8 : decode cX1_winningStep 8 = .ok (.invokestatic 23, 3) := by decide +kernel
theorem dX1_winningStep_11 : decode cX1_winningStep 11 = .ok (.iload_n 1, 1) := by decide +kernel
theorem dX1_winningStep_12 : decode cX1_winningStep 12 = .ok (.isub, 1) := by decide +kernel
theorem dX1_winningStep_13 : decode cX1_winningStep 13 = .ok (.istore_n 3, 1) := by decide +kernel
theorem dX1_winningStep_14 : decode cX1_winningStep 14 = .ok (.iconst 1, 1) := by decide +kernel
theorem dX1_winningStep_15 : decode cX1_winningStep 15 = .ok (.istore 4, 2) := by decide +kernel
theorem dX1_winningStep_17 : decode cX1_winningStep 17 = .ok (.iload 4, 2) := by decide +kernel
theorem dX1_winningStep_19 : decode cX1_winningStep 19 = .ok (.iconst 3, 1) := by decide +kernel
theorem dX1_winningStep_20 : decode cX1_winningStep 20 = .ok (.if_icmp .gt 36, 3) := by decide +kernel
theorem dX1_winningStep_23 : decode cX1_winningStep 23 = .ok (.iload 4, 2) := by decide +kernel
theorem dX1_winningStep_25 : decode cX1_winningStep 25 = .ok (.iload_n 3, 1) := by decide +kernel
theorem dX1_winningStep_26 : decode cX1_winningStep 26 = .ok (.if_icmp .gt 30, 3) := by decide +kernel
theorem dX1_winningStep_29 : decode cX1_winningStep 29 = .ok (.aload_n 0, 1) := by decide +kernel
theorem dX1_winningStep_30 : decode cX1_winningStep 30 = .ok (.getfield 9, 3) := by decide +kernel
theorem dX1_winningStep_33 : decode cX1_winningStep 33 = .ok (.iconst 2, 1) := by decide +kernel
theorem dX1_winningStep_34 : decode cX1_winningStep 34 = .ok (.iload_n 1, 1) := by decide +kernel
theorem dX1_winningStep_35 : decode cX1_winningStep 35 = .ok (.iload 4, 2) := by decide +kernel
theorem dX1_winningStep_37 : decode cX1_winningStep 37 = .ok (.iadd, 1) := by decide +kernel
theorem dX1_winningStep_38 : decode cX1_winningStep 38 = .ok (.imul, 1) := by decide +kernel
theorem dX1_winningStep_39 : decode cX1_winningStep 39 = .ok (.iconst 1, 1) := by decide +kernel
theorem dX1_winningStep_40 : decode cX1_winningStep 40 = .ok (.iadd, 1) := by decide +kernel
theorem dX1_winningStep_41 : decode cX1_winningStep 41 = .ok (.iload_n 2, 1) := by decide +kernel
theorem dX1_winningStep_42 : decode cX1_winningStep 42 = .ok (.isub, 1) := by decide +kernel
theorem dX1_winningStep_43 : decode cX1_winningStep 43 = .ok (.baload, 1) := by decide +kernel
theorem dX1_winningStep_44 : decode cX1_winningStep 44 = .ok (.ifCond .ne 6, 3) := by decide +kernel
theorem dX1_winningStep_47 : decode cX1_winningStep 47 = .ok (.iload 4, 2) := by decide +kernel
theorem dX1_winningStep_49 : decode cX1_winningStep 49 = .ok (.ireturn, 1) := by decide +kernel
theorem dX1_winningStep_50 : decode cX1_winningStep 50 = .ok (.iinc 4 1, 3) := by decide +kernel
theorem dX1_winningStep_53 : decode cX1_winningStep 53 = .ok (.goto (-36), 3) := by decide +kernel
theorem dX1_winningStep_56 : decode cX1_winningStep 56 = .ok (.iconst 0, 1) := by decide +kernel
theorem dX1_winningStep_57 : decode cX1_winningStep 57 = .ok (.ireturn, 1) := by decide +kernel
theorem dX2_init_0 : decode cX2_init 0 = .ok (.aload_n 0, 1) := by decide +kernel
theorem dX2_init_1 : decode cX2_init 1 = .ok (.invokespecial 3, 3) := by decide +kernel
theorem dX2_init_4 : decode cX2_init 4 = .ok (.aload_n 0, 1) := by decide +kernel
theorem dX2_init_5 : decode cX2_init 5 = .ok (.bipush 8, 2) := by decide +kernel
theorem dX2_init_7 : decode cX2_init 7 = .ok (.newarray .int, 2) := by decide +kernel
theorem dX2_init_9 : decode cX2_init 9 = .ok (.putfield 9, 3) := by decide +kernel
theorem dX2_init_12 : decode cX2_init 12 = .ok (.aload_n 0, 1) := by decide +kernel
theorem dX2_init_13 : decode cX2_init 13 = .ok (.bipush 8, 2) := by decide +kernel
theorem dX2_init_15 : decode cX2_init 15 = .ok (.newarray .int, 2) := by decide +kernel
theorem dX2_init_17 : decode cX2_init 17 = .ok (.putfield 15, 3) := by decide +kernel
theorem dX2_init_20 : decode cX2_init 20 = .ok (.aload_n 0, 1) := by decide +kernel
theorem dX2_init_21 : decode cX2_init 21 = .ok (.bipush 8, 2) := by decide +kernel
theorem dX2_init_23 : decode cX2_init 23 = .ok (.newarray .int, 2) := by decide +kernel
theorem dX2_init_25 : decode cX2_init 25 = .ok (.putfield 18, 3) := by decide +kernel
theorem dX2_init_28 : decode cX2_init 28 = .ok (.aload_n 0, 1) := by decide +kernel
theorem dX2_init_29 : decode cX2_init 29 = .ok (.bipush 8, 2) := by decide +kernel
theorem dX2_init_31 : decode cX2_init 31 = .ok (.newarray .int, 2) := by decide +kernel
theorem dX2_init_33 : decode cX2_init 33 = .ok (.putfield 21, 3) := by decide +kernel
theorem dX2_init_36 : decode cX2_init 36 = .ok (.aload_n 0, 1) := by decide +kernel
theorem dX2_init_37 : decode cX2_init 37 = .ok (.bipush 8, 2) := by decide +kernel
theorem dX2_init_39 : decode cX2_init 39 = .ok (.newarray .int, 2) := by decide +kernel
theorem dX2_init_41 : decode cX2_init 41 = .ok (.putfield 24, 3) := by decide +kernel
theorem dX2_init_44 : decode cX2_init 44 = .ok (.aload_n 0, 1) := by decide +kernel
theorem dX2_init_45 : decode cX2_init 45 = .ok (.bipush 8, 2) := by decide +kernel
theorem dX2_init_47 : decode cX2_init 47 = .ok (.newarray .int, 2) := by decide +kernel
theorem dX2_init_49 : decode cX2_init 49 = .ok (.putfield 27, 3) := by decide +kernel
theorem dX2_init_52 : decode cX2_init 52 = .ok (.aload_n 0, 1) := by decide +kernel
theorem dX2_init_53 : decode cX2_init 53 = .ok (.iconst 5, 1) := by decide +kernel
theorem dX2_init_54 : decode cX2_init 54 = .ok (.newarray .int, 2) := by decide +kernel
theorem dX2_init_56 : decode cX2_init 56 = .ok (.putfield 30, 3) := by decide +kernel
theorem dX2_init_59 : decode cX2_init 59 = .ok (.aload_n 0, 1) := by decide +kernel
theorem dX2_init_60 : decode cX2_init 60 = .ok (.iconst 1, 1) := by decide +kernel
theorem dX2_init_61 : decode cX2_init 61 = .ok (.putfield 33, 3) := by decide +kernel
theorem dX2_init_64 : decode cX2_init 64 = .ok (.getstatic 37, 3) := by decide +kernel
theorem dX2_init_67 : decode cX2_init 67 = .ok (.iconst 0, 1) := by decide +kernel
theorem dX2_init_68 : decode cX2_init 68 = .ok (.aload_n 0, 1) := by decide +kernel
theorem dX2_init_69 : decode cX2_init 69 = .ok (.getfield 30, 3) := by decide +kernel
theorem dX2_init_72 : decode cX2_init 72 = .ok (.iconst 0, 1) := by decide +kernel
theorem dX2_init_73 : decode cX2_init 73 = .ok (.iconst 5, 1) := by decide +kernel
theorem dX2_init_74 : decode cX2_init 74 = .ok (.invokestatic 40, 3) := by decide +kernel
theorem dX2_init_77 : decode cX2_init 77 = .ok (.return_, 1) := by decide +kernel
theorem dX2_become_0 : decode cX2_become 0 = .ok (.aload_n 1, 1) := by decide +kernel
theorem dX2_become_1 : decode cX2_become 1 = .ok (.getfield 9, 3) := by decide +kernel
theorem dX2_become_4 : decode cX2_become 4 = .ok (.iconst 0, 1) := by decide +kernel
theorem dX2_become_5 : decode cX2_become 5 = .ok (.aload_n 0, 1) := by decide +kernel
theorem dX2_become_6 : decode cX2_become 6 = .ok (.getfield 9, 3) := by decide +kernel
theorem dX2_become_9 : decode cX2_become 9 = .ok (.iconst 0, 1) := by decide +kernel
theorem dX2_become_10 : decode cX2_become 10 = .ok (.bipush 8, 2) := by decide +kernel
theorem dX2_become_12 : decode cX2_become 12 = .ok (.invokestatic 40, 3) := by decide +kernel
theorem dX2_become_15 : decode cX2_become 15 = .ok (.aload_n 1, 1) := by decide +kernel
theorem dX2_become_16 : decode cX2_become 16 = .ok (.getfield 15, 3) := by decide +kernel
theorem dX2_become_19 : decode cX2_become 19 = .ok (.iconst 0, 1) := by decide +kernel
theorem dX2_become_20 : decode cX2_become 20 = .ok (.aload_n 0, 1) := by decide +kernel
theorem dX2_become_21 : decode cX2_become 21 = .ok (.getfield 15, 3) := by decide +kernel
theorem dX2_become_24 : decode cX2_become 24 = .ok (.iconst 0, 1) := by decide +kernel
theorem dX2_become_25 : decode cX2_become 25 = .ok (.bipush 8, 2) := by decide +kernel
theorem dX2_become_27 : decode cX2_become 27 = .ok (.invokestatic 40, 3) := by decide +kernel
theorem dX2_become_30 : decode cX2_become 30 = .ok (.aload_n 1, 1) := by decide +kernel
theorem dX2_become_31 : decode cX2_become 31 = .ok (.getfield 18, 3) := by decide +kernel
theorem dX2_become_34 : decode cX2_become 34 = .ok (.iconst 0, 1) := by decide +kernel
theorem dX2_become_35 : decode cX2_become 35 = .ok (.aload_n 0, 1) := by decide +kernel
theorem dX2_become_36 : decode cX2_become 36 = .ok (.getfield 18, 3) := by decide +kernel
theorem dX2_become_39 : decode cX2_become 39 = .ok (.iconst 0, 1) := by decide +kernel
theorem dX2_become_40 : decode cX2_become 40 = .ok (.bipush 8, 2) := by decide +kernel
theorem dX2_become_42 : decode cX2_become 42 = .ok (.invokestatic 40, 3) := by decide +kernel
theorem dX2_become_45 : decode cX2_become 45 = .ok (.aload_n 1, 1) := by decide +kernel
theorem dX2_become_46 : decode cX2_become 46 = .ok (.getfield 21, 3) := by decide +kernel
theorem dX2_become_49 : decode cX2_become 49 = .ok (.iconst 0, 1) := by decide +kernel
theorem dX2_become_50 : decode cX2_become 50 = .ok (.aload_n 0, 1) := by decide +kernel
theorem dX2_become_51 : decode cX2_become 51 = .ok (.getfield 21, 3) := by decide +kernel
theorem dX2_become_54 : decode cX2_become 54 = .ok (.iconst 0, 1) := by decide +kernel
theorem dX2_become_55 : decode cX2_become 55 = .ok (.bipush 8, 2) := by decide +kernel
theorem dX2_become_57 : decode cX2_become 57 = .ok (.invokestatic 40, 3) := by decide +kernel
theorem dX2_become_60 : decode cX2_become 60 = .ok (.aload_n 1, 1) := by decide +kernel
theorem dX2_become_61 : decode cX2_become 61 = .ok (.getfield 24, 3) := by decide +kernel
theorem dX2_become_64 : decode cX2_become 64 = .ok (.iconst 0, 1) := by decide +kernel
theorem dX2_become_65 : decode cX2_become 65 = .ok (.aload_n 0, 1) := by decide +kernel
theorem dX2_become_66 : decode cX2_become 66 = .ok (.getfield 24, 3) := by decide +kernel
theorem dX2_become_69 : decode cX2_become 69 = .ok (.iconst 0, 1) := by decide +kernel
theorem dX2_become_70 : decode cX2_become 70 = .ok (.bipush 8, 2) := by decide +kernel
theorem dX2_become_72 : decode cX2_become 72 = .ok (.invokestatic 40, 3) := by decide +kernel
theorem dX2_become_75 : decode cX2_become 75 = .ok (.aload_n 1, 1) := by decide +kernel
theorem dX2_become_76 : decode cX2_become 76 = .ok (.getfield 27, 3) := by decide +kernel
theorem dX2_become_79 : decode cX2_become 79 = .ok (.iconst 0, 1) := by decide +kernel
theorem dX2_become_80 : decode cX2_become 80 = .ok (.aload_n 0, 1) := by decide +kernel
theorem dX2_become_81 : decode cX2_become 81 = .ok (.getfield 27, 3) := by decide +kernel
theorem dX2_become_84 : decode cX2_become 84 = .ok (.iconst 0, 1) := by decide +kernel
theorem dX2_become_85 : decode cX2_become 85 = .ok (.bipush 8, 2) := by decide +kernel
theorem dX2_become_87 : decode cX2_become 87 = .ok (.invokestatic 40, 3) := by decide +kernel
theorem dX2_become_90 : decode cX2_become 90 = .ok (.aload_n 1, 1) := by decide +kernel
theorem dX2_become_91 : decode cX2_become 91 = .ok (.getfield 30, 3) := by decide +kernel
theorem dX2_become_94 : decode cX2_become 94 = .ok (.iconst 0, 1) := by decide +kernel
theorem dX2_become_95 : decode cX2_become 95 = .ok (.aload_n 0, 1) := by decide +kernel
theorem dX2_become_96 : decode cX2_become 96 = .ok (.getfield 30, 3) := by decide +kernel
theorem dX2_become_99 : decode cX2_become 99 = .ok (.iconst 0, 1) := by decide +kernel
theorem dX2_become_100 : decode cX2_become 100 = .ok (.iconst 5, 1) := by decide +kernel
theorem dX2_become_101 : decode cX2_become 101 = .ok (.invokestatic 40, 3) := by decide +kernel
theorem dX2_become_104 : decode cX2_become 104 = .ok (.aload_n 0, 1) := by decide +kernel
theorem dX2_become_105 : decode cX2_become 105 = .ok (.aload_n 1, 1) := by decide +kernel
theorem dX2_become_106 : decode cX2_become 106 = .ok (.getfield 46, 3) := by decide +kernel
theorem dX2_become_109 : decode cX2_become 109 = .ok (.putfield 46, 3) := by decide +kernel
theorem dX2_become_112 : decode cX2_become 112 = .ok (.aload_n 0, 1) := by decide +kernel
theorem dX2_become_113 : decode cX2_become 113 = .ok (.aload_n 1, 1) := by decide +kernel
theorem dX2_become_114 : decode cX2_become 114 = .ok (.getfield 49, 3) := by decide +kernel
theorem dX2_become_117 : decode cX2_become 117 = .ok (.putfield 49, 3) := by decide +kernel
theorem dX2_become_120 : decode cX2_become 120 = .ok (.aload_n 0, 1) := by decide +kernel
theorem dX2_become_121 : decode cX2_become 121 = .ok (.aload_n 1, 1) := by decide +kernel
theorem dX2_become_122 : decode cX2_become 122 = .ok (.getfield 52, 3) := by decide +kernel
theorem dX2_become_125 : decode cX2_become 125 = .ok (.putfield 52, 3) := by decide +kernel
theorem dX2_become_128 : decode cX2_become 128 = .ok (.aload_n 0, 1) := by decide +kernel
theorem dX2_become_129 : decode cX2_become 129 = .ok (.aload_n 1, 1) := by decide +kernel
theorem dX2_become_130 : decode cX2_become 130 = .ok (.getfield 55, 3) := by decide +kernel
theorem dX2_become_133 : decode cX2_become 133 = .ok (.putfield 55, 3) := by decide +kernel
theorem dX2_become_136 : decode cX2_become 136 = .ok (.aload_n 0, 1) := by decide +kernel
theorem dX2_become_137 : decode cX2_become 137 = .ok (.aload_n 1, 1) := by decide +kernel
theorem dX2_become_138 : decode cX2_become 138 = .ok (.getfield 58, 3) := by decide +kernel
theorem dX2_become_141 : decode cX2_become 141 = .ok (.putfield 58, 3) := by decide +kernel
theorem dX2_become_144 : decode cX2_become 144 = .ok (.aload_n 0, 1) := by decide +kernel
theorem dX2_become_145 : decode cX2_become 145 = .ok (.aload_n 1, 1) := by decide +kernel
theorem dX2_become_146 : decode cX2_become 146 = .ok (.getfield 33, 3) := by decide +kernel
theorem dX2_become_149 : decode cX2_become 149 = .ok (.putfield 33, 3) := by decide +kernel
theorem dX2_become_152 : decode cX2_become 152 = .ok (.return_, 1) := by decide +kernel
theorem dX2_hasRoom_0 : decode cX2_hasRoom 0 = .ok (.aload_n 0, 1) := by decide +kernel
theorem dX2_hasRoom_1 : decode cX2_hasRoom 1 = .ok (.getfield 46, 3) := by decide +kernel
theorem dX2_hasRoom_4 : decode cX2_hasRoom 4 = .ok (.bipush 8, 2) := by decide +kernel
theorem dX2_hasRoom_6 : decode cX2_hasRoom 6 = .ok (.if_icmp .ge 7, 3) := by decide +kernel
theorem dX2_hasRoom_9 : decode cX2_hasRoom 9 = .ok (.iconst 1, 1) := by decide +kernel
theorem dX2_hasRoom_10 : decode cX2_hasRoom 10 = .ok (.goto 4, 3) := by decide +kernel
theorem dX2_hasRoom_13 : decode cX2_hasRoom 13 = .ok (.iconst 0, 1) := by decide +kernel
theorem dX2_hasRoom_14 : decode cX2_hasRoom 14 = .ok (.ireturn, 1) := by decide +kernel
set_option maxRecDepth 20000 in
theorem ggX2_add_X2_hasRoom : GoodIn wsX2_add wsX2_hasRoom := goodIn_r _ [10, 1, 11, 12, 13, 14, 15, 16, 17, 18, 19, 20, 21, 22, 23] (by decide +kernel) (by decide +kernel)
set_option maxRecDepth 20000 in
theorem gX2_add_X2_hasRoom : GoodIn wsX2_add (wsV RX2 61 RX2 yX2_hasRoom wsX2_hasRoom) := goodIn_app (goodIn_of _ (by decide +kernel)) ggX2_add_X2_hasRoom
theorem dX2_add_0 : decode cX2_add 0 = .ok (.aload_n 0, 1) := by decide +kernel
theorem dX2_add_1 : decode cX2_add 1 = .ok (.invokevirtual 61, 3) := by decide +kernel
theorem dX2_add_4 : decode cX2_add 4 = .ok (.ifCond .ne 5, 3) := by decide +kernel
theorem dX2_add_7 : decode cX2_add 7 = .ok (.iconst (-1), 1) := by decide +kernel
theorem dX2_add_8 : decode cX2_add 8 = .ok (.ireturn, 1) := by decide +kernel
theorem dX2_add_9 : decode cX2_add 9 = .ok (.aload_n 0, 1) := by decide +kernel
theorem dX2_add_10 : decode cX2_add 10 = .ok (.getfield 46, 3) := by decide +kernel
theorem dX2_add_13 : decode cX2_add 13 = .ok (.istore 5, 2) := by decide +kernel
theorem dX2_add_15 : decode cX2_add 15 = .ok (.aload_n 0, 1) := by decide +kernel
theorem dX2_add_16 : decode cX2_add 16 = .ok (.getfield 9, 3) := by decide +kernel
theorem dX2_add_19 : decode cX2_add 19 = .ok (.iload 5, 2) := by decide +kernel
theorem dX2_add_21 : decode cX2_add 21 = .ok (.iload_n 1, 1) := by decide +kernel
theorem dX2_add_22 : decode cX2_add 22 = .ok (.iastore, 1) := by decide +kernel
theorem dX2_add_23 : decode cX2_add 23 = .ok (.aload_n 0, 1) := by decide +kernel
theorem dX2_add_24 : decode cX2_add 24 = .ok (.getfield 15, 3) := by decide +kernel
theorem dX2_add_27 : decode cX2_add 27 = .ok (.iload 5, 2) := by decide +kernel
theorem dX2_add_29 : decode cX2_add 29 = .ok (.iload_n 2, 1) := by decide +kernel
theorem dX2_add_30 : decode cX2_add 30 = .ok (.iastore, 1) := by decide +kernel
theorem dX2_add_31 : decode cX2_add 31 = .ok (.aload_n 0, 1) := by decide +kernel
theorem dX2_add_32 : decode cX2_add 32 = .ok (.getfield 18, 3) := by decide +kernel
theorem dX2_add_35 : decode cX2_add 35 = .ok (.iload 5, 2) := by decide +kernel
theorem dX2_add_37 : decode cX2_add 37 = .ok (.iload_n 3, 1) := by decide +kernel
theorem dX2_add_38 : decode cX2_add 38 = .ok (.iastore, 1) := by decide +kernel
theorem dX2_add_39 : decode cX2_add 39 = .ok (.aload_n 0, 1) := by decide +kernel
theorem dX2_add_40 : decode cX2_add 40 = .ok (.getfield 21, 3) := by decide +kernel
theorem dX2_add_43 : decode cX2_add 43 = .ok (.iload 5, 2) := by decide +kernel
theorem dX2_add_45 : decode cX2_add 45 = .ok (.iload 4, 2) := by decide +kernel
theorem dX2_add_47 : decode cX2_add 47 = .ok (.iastore, 1) := by decide +kernel
theorem dX2_add_48 : decode cX2_add 48 = .ok (.aload_n 0, 1) := by decide +kernel
theorem dX2_add_49 : decode cX2_add 49 = .ok (.dup, 1) := by decide +kernel
theorem dX2_add_50 : decode cX2_add 50 = .ok (.getfield 46, 3) := by decide +kernel
theorem dX2_add_53 : decode cX2_add 53 = .ok (.iconst 1, 1) := by decide +kernel
theorem dX2_add_54 : decode cX2_add 54 = .ok (.iadd, 1) := by decide +kernel
theorem dX2_add_55 : decode cX2_add 55 = .ok (.putfield 46, 3) := by decide +kernel
theorem dX2_add_58 : decode cX2_add 58 = .ok (.iload 5, 2) := by decide +kernel
theorem dX2_add_60 : decode cX2_add 60 = .ok (.ireturn, 1) := by decide +kernel
set_option maxRecDepth 20000 in
theorem ggX2_hasParty_X8_within : GoodIn wsX2_hasParty wsX8_within := goodIn_r _ [4] (by decide +kernel) (by decide +kernel)
set_option maxRecDepth 20000 in
theorem gX2_hasParty_X8_within_n65 : GoodIn wsX2_hasParty (wsX8_within) := ggX2_hasParty_X8_within
theorem dX2_hasParty_0 : decode cX2_hasParty 0 = .ok (.iload_n 1, 1) := by decide +kernel
theorem dX2_hasParty_1 : decode cX2_hasParty 1 = .ok (.iconst 0, 1) := by decide +kernel
theorem dX2_hasParty_2 : decode cX2_hasParty 2 = .ok (.aload_n 0, 1) := by decide +kernel
theorem dX2_hasParty_3 : decode cX2_hasParty 3 = .ok (.getfield 46, 3) := by decide +kernel
theorem dX2_hasParty_6 : decode cX2_hasParty 6 = .ok (.iconst 1, 1) := by decide +kernel
theorem dX2_hasParty_7 : decode cX2_hasParty 7 = .ok (.isub, 1) := by decide +kernel
theorem dX2_hasParty_8 : decode cX2_hasParty 8 = .ok (.invokestatic 65, 3) := by decide +kernel
theorem dX2_hasParty_11 : decode cX2_hasParty 11 = .ok (.ireturn, 1) := by decide +kernel
set_option maxRecDepth 20000 in
theorem ggX2_hasTwo_X2_hasParty : GoodIn wsX2_hasTwo wsX2_hasParty := goodIn_r _ [5, 6, 7, 8, 9, 10, 11, 12, 13, 14, 15, 16, 17, 18, 19, 20, 21, 22] (by decide +kernel) (by decide +kernel)
set_option maxRecDepth 20000 in
theorem gX2_hasTwo_X2_hasParty : GoodIn wsX2_hasTwo (wsV RX2 69 RX2 yX2_hasParty wsX2_hasParty) := goodIn_app (goodIn_of _ (by decide +kernel)) ggX2_hasTwo_X2_hasParty
theorem dX2_hasTwo_0 : decode cX2_hasTwo 0 = .ok (.aload_n 0, 1) := by decide +kernel
theorem dX2_hasTwo_1 : decode cX2_hasTwo 1 = .ok (.iload_n 1, 1) := by decide +kernel
theorem dX2_hasTwo_2 : decode cX2_hasTwo 2 = .ok (.invokevirtual 69, 3) := by decide +kernel
theorem dX2_hasTwo_5 : decode cX2_hasTwo 5 = .ok (.ifCond .eq 20, 3) := by decide +kernel
theorem dX2_hasTwo_8 : decode cX2_hasTwo 8 = .ok (.aload_n 0, 1) := by decide +kernel
theorem dX2_hasTwo_9 : decode cX2_hasTwo 9 = .ok (.iload_n 2, 1) := by decide +kernel
theorem dX2_hasTwo_10 : decode cX2_hasTwo 10 = .ok (.invokevirtual 69, 3) := by decide +kernel
theorem dX2_hasTwo_13 : decode cX2_hasTwo 13 = .ok (.ifCond .eq 12, 3) := by decide +kernel
theorem dX2_hasTwo_16 : decode cX2_hasTwo 16 = .ok (.iload_n 1, 1) := by decide +kernel
theorem dX2_hasTwo_17 : decode cX2_hasTwo 17 = .ok (.iload_n 2, 1) := by decide +kernel
theorem dX2_hasTwo_18 : decode cX2_hasTwo 18 = .ok (.if_icmp .eq 7, 3) := by decide +kernel
theorem dX2_hasTwo_21 : decode cX2_hasTwo 21 = .ok (.iconst 1, 1) := by decide +kernel
theorem dX2_hasTwo_22 : decode cX2_hasTwo 22 = .ok (.goto 4, 3) := by decide +kernel
theorem dX2_hasTwo_25 : decode cX2_hasTwo 25 = .ok (.iconst 0, 1) := by decide +kernel
theorem dX2_hasTwo_26 : decode cX2_hasTwo 26 = .ok (.ireturn, 1) := by decide +kernel
set_option maxRecDepth 20000 in
theorem ggX2_hasGroup_X2_everybody : GoodIn wsX2_hasGroup wsX2_everybody := goodIn_r _ [5, 6, 10, 11, 12, 13, 14, 15, 16, 17, 18, 19, 20, 21, 22] (by decide +kernel) (by decide +kernel)
set_option maxRecDepth 20000 in
theorem gX2_hasGroup_X2_everybody : GoodIn wsX2_hasGroup (wsV RX2 73 RX2 yX2_everybody wsX2_everybody) := goodIn_app (goodIn_of _ (by decide +kernel)) ggX2_hasGroup_X2_everybody
set_option maxRecDepth 20000 in
theorem ggX2_hasGroup_X8_within : GoodIn wsX2_hasGroup wsX8_within := goodIn_r _ [9] (by decide +kernel) (by decide +kernel)
set_option maxRecDepth 20000 in
theorem gX2_hasGroup_X8_within_n65 : GoodIn wsX2_hasGroup (wsX8_within) := ggX2_hasGroup_X8_within
theorem dX2_hasGroup_0 : decode cX2_hasGroup 0 = .ok (.iload_n 1, 1) := by decide +kernel
theorem dX2_hasGroup_1 : decode cX2_hasGroup 1 = .ok (.iconst 0, 1) := by decide +kernel
theorem dX2_hasGroup_2 : decode cX2_hasGroup 2 = .ok (.aload_n 0, 1) := by decide +kernel
theorem dX2_hasGroup_3 : decode cX2_hasGroup 3 = .ok (.invokevirtual 73, 3) := by decide +kernel
theorem dX2_hasGroup_6 : decode cX2_hasGroup 6 = .ok (.invokestatic 65, 3) := by decide +kernel
theorem dX2_hasGroup_9 : decode cX2_hasGroup 9 = .ok (.ireturn, 1) := by decide +kernel
theorem dX2_everybody_0 : decode cX2_everybody 0 = .ok (.iconst 1, 1) := by decide +kernel
theorem dX2_everybody_1 : decode cX2_everybody 1 = .ok (.aload_n 0, 1) := by decide +kernel
theorem dX2_everybody_2 : decode cX2_everybody 2 = .ok (.getfield 46, 3) := by decide +kernel
theorem dX2_everybody_5 : decode cX2_everybody 5 = .ok (.ishl, 1) := by decide +kernel
theorem dX2_everybody_6 : decode cX2_everybody 6 = .ok (.iconst 1, 1) := by decide +kernel
theorem dX2_everybody_7 : decode cX2_everybody 7 = .ok (.isub, 1) := by decide +kernel
theorem dX2_everybody_8 : decode cX2_everybody 8 = .ok (.ireturn, 1) := by decide +kernel
set_option maxRecDepth 20000 in
theorem ggX2_here_X2_everybody : GoodIn wsX2_here wsX2_everybody := goodIn_r _ [6, 7, 8, 9, 10, 11, 12, 13, 14, 15, 16, 17, 18, 19, 20] (by decide +kernel) (by decide +kernel)
set_option maxRecDepth 20000 in
theorem gX2_here_X2_everybody : GoodIn wsX2_here (wsV RX2 73 RX2 yX2_everybody wsX2_everybody) := goodIn_app (goodIn_of _ (by decide +kernel)) ggX2_here_X2_everybody
theorem dX2_here_0 : decode cX2_here 0 = .ok (.aload_n 0, 1) := by decide +kernel
theorem dX2_here_1 : decode cX2_here 1 = .ok (.invokevirtual 73, 3) := by decide +kernel
theorem dX2_here_4 : decode cX2_here 4 = .ok (.aload_n 0, 1) := by decide +kernel
theorem dX2_here_5 : decode cX2_here 5 = .ok (.getfield 49, 3) := by decide +kernel
theorem dX2_here_8 : decode cX2_here 8 = .ok (.iconst (-1), 1) := by decide +kernel
theorem dX2_here_9 : decode cX2_here 9 = .ok (.ixor, 1) := by decide +kernel
theorem dX2_here_10 : decode cX2_here 10 = .ok (.iand, 1) := by decide +kernel
theorem dX2_here_11 : decode cX2_here 11 = .ok (.ireturn, 1) := by decide +kernel
set_option maxRecDepth 20000 in
theorem ggX2_isOver_X8_has : GoodIn wsX2_isOver wsX8_has := goodIn_r _ [4] (by decide +kernel) (by decide +kernel)
set_option maxRecDepth 20000 in
theorem gX2_isOver_X8_has_n77 : GoodIn wsX2_isOver (wsX8_has) := ggX2_isOver_X8_has
theorem dX2_isOver_0 : decode cX2_isOver 0 = .ok (.aload_n 0, 1) := by decide +kernel
theorem dX2_isOver_1 : decode cX2_isOver 1 = .ok (.getfield 49, 3) := by decide +kernel
theorem dX2_isOver_4 : decode cX2_isOver 4 = .ok (.iload_n 1, 1) := by decide +kernel
theorem dX2_isOver_5 : decode cX2_isOver 5 = .ok (.invokestatic 77, 3) := by decide +kernel
theorem dX2_isOver_8 : decode cX2_isOver 8 = .ok (.ireturn, 1) := by decide +kernel
set_option maxRecDepth 20000 in
theorem ggX2_relation_X2_hasTwo : GoodIn wsX2_relation wsX2_hasTwo := goodIn_r _ [7, 8, 9, 10, 6, 11, 12, 13, 14, 15, 18, 19, 20, 21, 22, 23, 24, 25, 26, 27, 28, 29, 30] (by decide +kernel) (by decide +kernel)
set_option maxRecDepth 20000 in
theorem gX2_relation_X2_hasTwo : GoodIn wsX2_relation (wsV RX2 81 RX2 yX2_hasTwo wsX2_hasTwo) := goodIn_app (goodIn_of _ (by decide +kernel)) ggX2_relation_X2_hasTwo
set_option maxRecDepth 20000 in
theorem ggX2_relation_X8_has : GoodIn wsX2_relation wsX8_has := goodIn_r _ [17] (by decide +kernel) (by decide +kernel)
set_option maxRecDepth 20000 in
theorem gX2_relation_X8_has_n77 : GoodIn wsX2_relation (wsX8_has) := ggX2_relation_X8_has
theorem dX2_relation_0 : decode cX2_relation 0 = .ok (.aload_n 0, 1) := by decide +kernel
theorem dX2_relation_1 : decode cX2_relation 1 = .ok (.iload_n 1, 1) := by decide +kernel
theorem dX2_relation_2 : decode cX2_relation 2 = .ok (.iload_n 2, 1) := by decide +kernel
theorem dX2_relation_3 : decode cX2_relation 3 = .ok (.invokevirtual 81, 3) := by decide +kernel
theorem dX2_relation_6 : decode cX2_relation 6 = .ok (.ifCond .ne 5, 3) := by decide +kernel
theorem dX2_relation_9 : decode cX2_relation 9 = .ok (.iconst 0, 1) := by decide +kernel
theorem dX2_relation_10 : decode cX2_relation 10 = .ok (.ireturn, 1) := by decide +kernel
theorem dX2_relation_11 : decode cX2_relation 11 = .ok (.aload_n 0, 1) := by decide +kernel
theorem dX2_relation_12 : decode cX2_relation 12 = .ok (.getfield 24, 3) := by decide +kernel
theorem dX2_relation_15 : decode cX2_relation 15 = .ok (.iload_n 1, 1) := by decide +kernel
theorem dX2_relation_16 : decode cX2_relation 16 = .ok (.iaload, 1) := by decide +kernel
theorem dX2_relation_17 : decode cX2_relation 17 = .ok (.iload_n 2, 1) := by decide +kernel
theorem dX2_relation_18 : decode cX2_relation 18 = .ok (.invokestatic 77, 3) := by decide +kernel
theorem dX2_relation_21 : decode cX2_relation 21 = .ok (.ifCond .eq 5, 3) := by decide +kernel
theorem dX2_relation_24 : decode cX2_relation 24 = .ok (.iconst 1, 1) := by decide +kernel
theorem dX2_relation_25 : decode cX2_relation 25 = .ok (.ireturn, 1) := by decide +kernel
theorem dX2_relation_26 : decode cX2_relation 26 = .ok (.aload_n 0, 1) := by decide +kernel
theorem dX2_relation_27 : decode cX2_relation 27 = .ok (.getfield 27, 3) := by decide +kernel
theorem dX2_relation_30 : decode cX2_relation 30 = .ok (.iload_n 1, 1) := by decide +kernel
theorem dX2_relation_31 : decode cX2_relation 31 = .ok (.iaload, 1) := by decide +kernel
theorem dX2_relation_32 : decode cX2_relation 32 = .ok (.iload_n 2, 1) := by decide +kernel
theorem dX2_relation_33 : decode cX2_relation 33 = .ok (.invokestatic 77, 3) := by decide +kernel
theorem dX2_relation_36 : decode cX2_relation 36 = .ok (.ifCond .eq 7, 3) := by decide +kernel
theorem dX2_relation_39 : decode cX2_relation 39 = .ok (.iconst 2, 1) := by decide +kernel
theorem dX2_relation_40 : decode cX2_relation 40 = .ok (.goto 4, 3) := by decide +kernel
theorem dX2_relation_43 : decode cX2_relation 43 = .ok (.iconst 0, 1) := by decide +kernel
theorem dX2_relation_44 : decode cX2_relation 44 = .ok (.ireturn, 1) := by decide +kernel
set_option maxRecDepth 20000 in
theorem ggX2_relate_X2_hasTwo : GoodIn wsX2_relate wsX2_hasTwo := goodIn_r _ [7, 8, 9, 10, 6, 11, 12, 13, 14, 15, 19, 20, 21, 22, 23, 24, 25, 26, 27, 28, 29, 30, 31] (by decide +kernel) (by decide +kernel)
set_option maxRecDepth 20000 in
theorem gX2_relate_X2_hasTwo : GoodIn wsX2_relate (wsV RX2 81 RX2 yX2_hasTwo wsX2_hasTwo) := goodIn_app (goodIn_of _ (by decide +kernel)) ggX2_relate_X2_hasTwo
set_option maxRecDepth 20000 in
theorem ggX2_relate_X2_mark : GoodIn wsX2_relate wsX2_mark := goodIn_r _ [18] (by decide +kernel) (by decide +kernel)
set_option maxRecDepth 20000 in
theorem gX2_relate_X2_mark : GoodIn wsX2_relate (va_wsS RX2 84 yX2_mark wsX2_mark) := goodIn_app (goodIn_of _ (by decide +kernel)) ggX2_relate_X2_mark
theorem dX2_relate_0 : decode cX2_relate 0 = .ok (.aload_n 0, 1) := by decide +kernel
theorem dX2_relate_1 : decode cX2_relate 1 = .ok (.iload_n 1, 1) := by decide +kernel
theorem dX2_relate_2 : decode cX2_relate 2 = .ok (.iload_n 2, 1) := by decide +kernel
theorem dX2_relate_3 : decode cX2_relate 3 = .ok (.invokevirtual 81, 3) := by decide +kernel
theorem dX2_relate_6 : decode cX2_relate 6 = .ok (.ifCond .eq 41, 3) := by decide +kernel
theorem dX2_relate_9 : decode cX2_relate 9 = .ok (.aload_n 0, 1) := by decide +kernel
theorem dX2_relate_10 : decode cX2_relate 10 = .ok (.getfield 24, 3) := by decide +kernel
theorem dX2_relate_13 : decode cX2_relate 13 = .ok (.iload_n 1, 1) := by decide +kernel
theorem dX2_relate_14 : decode cX2_relate 14 = .ok (.iload_n 2, 1) := by decide +kernel
theorem dX2_relate_15 : decode cX2_relate 15 = .ok (.iload_n 3, 1) := by decide +kernel
theorem dX2_relate_16 : decode cX2_relate 16 = .ok (.iconst 1, 1) := by decide +kernel
theorem dX2_relate_17 : decode cX2_relate 17 = .ok (.if_icmp .ne 7, 3) := by decide +kernel
theorem dX2_relate_20 : decode cX2_relate 20 = .ok (.iconst 1, 1) := by decide +kernel
theorem dX2_relate_21 : decode cX2_relate 21 = .ok (.goto 4, 3) := by decide +kernel
theorem dX2_relate_24 : decode cX2_relate 24 = .ok (.iconst 0, 1) := by decide +kernel
theorem dX2_relate_25 : decode cX2_relate 25 = .ok (.invokestatic 84, 3) := by decide +kernel
theorem dX2_relate_28 : decode cX2_relate 28 = .ok (.aload_n 0, 1) := by decide +kernel
theorem dX2_relate_29 : decode cX2_relate 29 = .ok (.getfield 27, 3) := by decide +kernel
theorem dX2_relate_32 : decode cX2_relate 32 = .ok (.iload_n 1, 1) := by decide +kernel
theorem dX2_relate_33 : decode cX2_relate 33 = .ok (.iload_n 2, 1) := by decide +kernel
theorem dX2_relate_34 : decode cX2_relate 34 = .ok (.iload_n 3, 1) := by decide +kernel
theorem dX2_relate_35 : decode cX2_relate 35 = .ok (.iconst 2, 1) := by decide +kernel
theorem dX2_relate_36 : decode cX2_relate 36 = .ok (.if_icmp .ne 7, 3) := by decide +kernel
theorem dX2_relate_39 : decode cX2_relate 39 = .ok (.iconst 1, 1) := by decide +kernel
theorem dX2_relate_40 : decode cX2_relate 40 = .ok (.goto 4, 3) := by decide +kernel
theorem dX2_relate_43 : decode cX2_relate 43 = .ok (.iconst 0, 1) := by decide +kernel
theorem dX2_relate_44 : decode cX2_relate 44 = .ok (.invokestatic 84, 3) := by decide +kernel
theorem dX2_relate_47 : decode cX2_relate 47 = .ok (.return_, 1) := by decide +kernel
theorem dX2_mark_0 : decode cX2_mark 0 = .ok (.aload_n 0, 1) := by decide +kernel
theorem dX2_mark_1 : decode cX2_mark 1 = .ok (.iload_n 1, 1) := by decide +kernel
theorem dX2_mark_2 : decode cX2_mark 2 = .ok (.iload_n 3, 1) := by decide +kernel
theorem dX2_mark_3 : decode cX2_mark 3 = .ok (.ifCond .eq 13, 3) := by decide +kernel
theorem dX2_mark_6 : decode cX2_mark 6 = .ok (.aload_n 0, 1) := by decide +kernel
theorem dX2_mark_7 : decode cX2_mark 7 = .ok (.iload_n 1, 1) := by decide +kernel
theorem dX2_mark_8 : decode cX2_mark 8 = .ok (.iaload, 1) := by decide +kernel
theorem dX2_mark_9 : decode cX2_mark 9 = .ok (.iconst 1, 1) := by decide +kernel
theorem dX2_mark_10 : decode cX2_mark 10 = .ok (.iload_n 2, 1) := by decide +kernel
theorem dX2_mark_11 : decode cX2_mark 11 = .ok (.ishl, 1) := by decide +kernel
theorem dX2_mark_12 : decode cX2_mark 12 = .ok (.ior, 1) := by decide +kernel
theorem dX2_mark_13 : decode cX2_mark 13 = .ok (.goto 12, 3) := by decide +kernel
theorem dX2_mark_16 : decode cX2_mark 16 = .ok (.aload_n 0, 1) := by decide +kernel
theorem dX2_mark_17 : decode cX2_mark 17 = .ok (.iload_n 1, 1) := by decide +kernel
theorem dX2_mark_18 : decode cX2_mark 18 = .ok (.iaload, 1) := by decide +kernel
theorem dX2_mark_19 : decode cX2_mark 19 = .ok (.iconst 1, 1) := by decide +kernel
theorem dX2_mark_20 : decode cX2_mark 20 = .ok (.iload_n 2, 1) := by decide +kernel
theorem dX2_mark_21 : decode cX2_mark 21 = .ok (.ishl, 1) := by decide +kernel
theorem dX2_mark_22 : decode cX2_mark 22 = .ok (.iconst (-1), 1) := by decide +kernel
theorem dX2_mark_23 : decode cX2_mark 23 = .ok (.ixor, 1) := by decide +kernel
theorem dX2_mark_24 : decode cX2_mark 24 = .ok (.iand, 1) := by decide +kernel
theorem dX2_mark_25 : decode cX2_mark 25 = .ok (.iastore, 1) := by decide +kernel
theorem dX2_mark_26 : decode cX2_mark 26 = .ok (.aload_n 0, 1) := by decide +kernel
theorem dX2_mark_27 : decode cX2_mark 27 = .ok (.iload_n 2, 1) := by decide +kernel
theorem dX2_mark_28 : decode cX2_mark 28 = .ok (.iload_n 3, 1) := by decide +kernel
theorem dX2_mark_29 : decode cX2_mark 29 = .ok (.ifCond .eq 13, 3) := by decide +kernel
theorem dX2_mark_32 : decode cX2_mark 32 = .ok (.aload_n 0, 1) := by decide +kernel
theorem dX2_mark_33 : decode cX2_mark 33 = .ok (.iload_n 2, 1) := by decide +kernel
theorem dX2_mark_34 : decode cX2_mark 34 = .ok (.iaload, 1) := by decide +kernel
theorem dX2_mark_35 : decode cX2_mark 35 = .ok (.iconst 1, 1) := by decide +kernel
theorem dX2_mark_36 : decode cX2_mark 36 = .ok (.iload_n 1, 1) := by decide +kernel
theorem dX2_mark_37 : decode cX2_mark 37 = .ok (.ishl, 1) := by decide +kernel
theorem dX2_mark_38 : decode cX2_mark 38 = .ok (.ior, 1) := by decide +kernel
theorem dX2_mark_39 : decode cX2_mark 39 = .ok (.goto 12, 3) := by decide +kernel
theorem dX2_mark_42 : decode cX2_mark 42 = .ok (.aload_n 0, 1) := by decide +kernel
theorem dX2_mark_43 : decode cX2_mark 43 = .ok (.iload_n 2, 1) := by decide +kernel
theorem dX2_mark_44 : decode cX2_mark 44 = .ok (.iaload, 1) := by decide +kernel
theorem dX2_mark_45 : decode cX2_mark 45 = .ok (.iconst 1, 1) := by decide +kernel
theorem dX2_mark_46 : decode cX2_mark 46 = .ok (.iload_n 1, 1) := by decide +kernel
theorem dX2_mark_47 : decode cX2_mark 47 = .ok (.ishl, 1) := by decide +kernel
theorem dX2_mark_48 : decode cX2_mark 48 = .ok (.iconst (-1), 1) := by decide +kernel
theorem dX2_mark_49 : decode cX2_mark 49 = .ok (.ixor, 1) := by decide +kernel
theorem dX2_mark_50 : decode cX2_mark 50 = .ok (.iand, 1) := by decide +kernel
theorem dX2_mark_51 : decode cX2_mark 51 = .ok (.iastore, 1) := by decide +kernel
theorem dX2_mark_52 : decode cX2_mark 52 = .ok (.return_, 1) := by decide +kernel
set_option maxRecDepth 20000 in
theorem ggX2_knotOf_X8_has : GoodIn wsX2_knotOf wsX8_has := goodIn_r _ [5] (by decide +kernel) (by decide +kernel)
set_option maxRecDepth 20000 in
theorem gX2_knotOf_X8_has_n77 : GoodIn wsX2_knotOf (wsX8_has) := ggX2_knotOf_X8_has
theorem dX2_knotOf_0 : decode cX2_knotOf 0 = .ok (.iconst 1, 1) := by decide +kernel
theorem dX2_knotOf_1 : decode cX2_knotOf 1 = .ok (.iload_n 1, 1) := by decide +kernel
theorem dX2_knotOf_2 : decode cX2_knotOf 2 = .ok (.ishl, 1) := by decide +kernel
theorem dX2_knotOf_3 : decode cX2_knotOf 3 = .ok (.istore_n 2, 1) := by decide +kernel
theorem dX2_knotOf_4 : decode cX2_knotOf 4 = .ok (.iconst 1, 1) := by decide +kernel
theorem dX2_knotOf_5 : decode cX2_knotOf 5 = .ok (.istore_n 3, 1) := by decide +kernel
theorem dX2_knotOf_6 : decode cX2_knotOf 6 = .ok (.iload_n 3, 1) := by decide +kernel
theorem dX2_knotOf_7 : decode cX2_knotOf 7 = .ok (.aload_n 0, 1) := by decide +kernel
theorem dX2_knotOf_8 : decode cX2_knotOf 8 = .ok (.getfield 46, 3) := by decide +kernel
theorem dX2_knotOf_11 : decode cX2_knotOf 11 = .ok (.if_icmp .ge 46, 3) := by decide +kernel
theorem dX2_knotOf_14 : decode cX2_knotOf 14 = .ok (.iconst 0, 1) := by decide +kernel
theorem dX2_knotOf_15 : decode cX2_knotOf 15 = .ok (.istore 4, 2) := by decide +kernel
theorem dX2_knotOf_17 : decode cX2_knotOf 17 = .ok (.iload 4, 2) := by decide +kernel
theorem dX2_knotOf_19 : decode cX2_knotOf 19 = .ok (.aload_n 0, 1) := by decide +kernel
theorem dX2_knotOf_20 : decode cX2_knotOf 20 = .ok (.getfield 46, 3) := by decide +kernel
theorem dX2_knotOf_23 : decode cX2_knotOf 23 = .ok (.if_icmp .ge 28, 3) := by decide +kernel
theorem dX2_knotOf_26 : decode cX2_knotOf 26 = .ok (.iload_n 2, 1) := by decide +kernel
theorem dX2_knotOf_27 : decode cX2_knotOf 27 = .ok (.iload 4, 2) := by decide +kernel
theorem dX2_knotOf_29 : decode cX2_knotOf 29 = .ok (.invokestatic 77, 3) := by decide +kernel
theorem dX2_knotOf_32 : decode cX2_knotOf 32 = .ok (.ifCond .eq 13, 3) := by decide +kernel
theorem dX2_knotOf_35 : decode cX2_knotOf 35 = .ok (.iload_n 2, 1) := by decide +kernel
theorem dX2_knotOf_36 : decode cX2_knotOf 36 = .ok (.aload_n 0, 1) := by decide +kernel
theorem dX2_knotOf_37 : decode cX2_knotOf 37 = .ok (.getfield 24, 3) := by decide +kernel
theorem dX2_knotOf_40 : decode cX2_knotOf 40 = .ok (.iload 4, 2) := by decide +kernel
theorem dX2_knotOf_42 : decode cX2_knotOf 42 = .ok (.iaload, 1) := by decide +kernel
theorem dX2_knotOf_43 : decode cX2_knotOf 43 = .ok (.ior, 1) := by decide +kernel
theorem dX2_knotOf_44 : decode cX2_knotOf 44 = .ok (.istore_n 2, 1) := by decide +kernel
theorem dX2_knotOf_45 : decode cX2_knotOf 45 = .ok (.iinc 4 1, 3) := by decide +kernel
theorem dX2_knotOf_48 : decode cX2_knotOf 48 = .ok (.goto (-31), 3) := by decide +kernel
theorem dX2_knotOf_51 : decode cX2_knotOf 51 = .ok (.iinc 3 1, 3) := by decide +kernel
theorem dX2_knotOf_54 : decode cX2_knotOf 54 = .ok (.goto (-48), 3) := by decide +kernel
theorem dX2_knotOf_57 : decode cX2_knotOf 57 = .ok (.iload_n 2, 1) := by decide +kernel
theorem dX2_knotOf_58 : decode cX2_knotOf 58 = .ok (.ireturn, 1) := by decide +kernel
set_option maxRecDepth 20000 in
theorem ggX2_headsOf_X2_headsIf : GoodIn wsX2_headsOf wsX2_headsIf := goodIn_r _ [6, 7, 8, 9, 10, 11, 12, 13, 14, 15, 16, 17, 18, 19, 20, 21, 22] (by decide +kernel) (by decide +kernel)
set_option maxRecDepth 20000 in
theorem gX2_headsOf_X2_headsIf : GoodIn wsX2_headsOf (wsV RX2 88 RX2 yX2_headsIf wsX2_headsIf) := goodIn_app (goodIn_of _ (by decide +kernel)) ggX2_headsOf_X2_headsIf
theorem dX2_headsOf_0 : decode cX2_headsOf 0 = .ok (.aload_n 0, 1) := by decide +kernel
theorem dX2_headsOf_1 : decode cX2_headsOf 1 = .ok (.iload_n 1, 1) := by decide +kernel
theorem dX2_headsOf_2 : decode cX2_headsOf 2 = .ok (.aload_n 0, 1) := by decide +kernel
theorem dX2_headsOf_3 : decode cX2_headsOf 3 = .ok (.getfield 18, 3) := by decide +kernel
theorem dX2_headsOf_6 : decode cX2_headsOf 6 = .ok (.iload_n 1, 1) := by decide +kernel
theorem dX2_headsOf_7 : decode cX2_headsOf 7 = .ok (.iaload, 1) := by decide +kernel
theorem dX2_headsOf_8 : decode cX2_headsOf 8 = .ok (.invokevirtual 88, 3) := by decide +kernel
theorem dX2_headsOf_11 : decode cX2_headsOf 11 = .ok (.ireturn, 1) := by decide +kernel
theorem dX2_headsIf_0 : decode cX2_headsIf 0 = .ok (.aload_n 0, 1) := by decide +kernel
theorem dX2_headsIf_1 : decode cX2_headsIf 1 = .ok (.getfield 15, 3) := by decide +kernel
theorem dX2_headsIf_4 : decode cX2_headsIf 4 = .ok (.iload_n 1, 1) := by decide +kernel
theorem dX2_headsIf_5 : decode cX2_headsIf 5 = .ok (.iaload, 1) := by decide +kernel
theorem dX2_headsIf_6 : decode cX2_headsIf 6 = .ok (.istore_n 3, 1) := by decide +kernel
theorem dX2_headsIf_7 : decode cX2_headsIf 7 = .ok (.aload_n 0, 1) := by decide +kernel
theorem dX2_headsIf_8 : decode cX2_headsIf 8 = .ok (.getfield 30, 3) := by decide +kernel
theorem dX2_headsIf_11 : decode cX2_headsIf 11 = .ok (.iconst 2, 1) := by decide +kernel
theorem dX2_headsIf_12 : decode cX2_headsIf 12 = .ok (.iaload, 1) := by decide +kernel
theorem dX2_headsIf_13 : decode cX2_headsIf 13 = .ok (.iconst 1, 1) := by decide +kernel
theorem dX2_headsIf_14 : decode cX2_headsIf 14 = .ok (.iand, 1) := by decide +kernel
theorem dX2_headsIf_15 : decode cX2_headsIf 15 = .ok (.ifCond .eq 9, 3) := by decide +kernel
theorem dX2_headsIf_18 : decode cX2_headsIf 18 = .ok (.iload_n 2, 1) := by decide +kernel
theorem dX2_headsIf_19 : decode cX2_headsIf 19 = .ok (.iload_n 3, 1) := by decide +kernel
theorem dX2_headsIf_20 : decode cX2_headsIf 20 = .ok (.iadd, 1) := by decide +kernel
theorem dX2_headsIf_21 : decode cX2_headsIf 21 = .ok (.goto 4, 3) := by decide +kernel
theorem dX2_headsIf_24 : decode cX2_headsIf 24 = .ok (.iload_n 2, 1) := by decide +kernel
theorem dX2_headsIf_25 : decode cX2_headsIf 25 = .ok (.istore 4, 2) := by decide +kernel
theorem dX2_headsIf_27 : decode cX2_headsIf 27 = .ok (.aload_n 0, 1) := by decide +kernel
theorem dX2_headsIf_28 : decode cX2_headsIf 28 = .ok (.getfield 30, 3) := by decide +kernel
theorem dX2_headsIf_31 : decode cX2_headsIf 31 = .ok (.iconst 2, 1) := by decide +kernel
theorem dX2_headsIf_32 : decode cX2_headsIf 32 = .ok (.iaload, 1) := by decide +kernel
theorem dX2_headsIf_33 : decode cX2_headsIf 33 = .ok (.iconst 2, 1) := by decide +kernel
theorem dX2_headsIf_34 : decode cX2_headsIf 34 = .ok (.iand, 1) := by decide +kernel
theorem dX2_headsIf_35 : decode cX2_headsIf 35 = .ok (.ifCond .eq 7, 3) := by decide +kernel
theorem dX2_headsIf_38 : decode cX2_headsIf 38 = .ok (.iload_n 2, 1) := by decide +kernel
theorem dX2_headsIf_39 : decode cX2_headsIf 39 = .ok (.goto 4, 3) := by decide +kernel
theorem dX2_headsIf_42 : decode cX2_headsIf 42 = .ok (.iload_n 3, 1) := by decide +kernel
theorem dX2_headsIf_43 : decode cX2_headsIf 43 = .ok (.istore 5, 2) := by decide +kernel
theorem dX2_headsIf_45 : decode cX2_headsIf 45 = .ok (.aload_n 0, 1) := by decide +kernel
theorem dX2_headsIf_46 : decode cX2_headsIf 46 = .ok (.getfield 9, 3) := by decide +kernel
theorem dX2_headsIf_49 : decode cX2_headsIf 49 = .ok (.iload_n 1, 1) := by decide +kernel
theorem dX2_headsIf_50 : decode cX2_headsIf 50 = .ok (.iaload, 1) := by decide +kernel
theorem dX2_headsIf_51 : decode cX2_headsIf 51 = .ok (.tableswitch 55 1 5 #[33, 43, 36, 46, 51], 33) := by decide +kernel
theorem dX2_headsIf_84 : decode cX2_headsIf 84 = .ok (.iload 4, 2) := by decide +kernel
theorem dX2_headsIf_86 : decode cX2_headsIf 86 = .ok (.ireturn, 1) := by decide +kernel
theorem dX2_headsIf_87 : decode cX2_headsIf 87 = .ok (.iload 4, 2) := by decide +kernel
theorem dX2_headsIf_89 : decode cX2_headsIf 89 = .ok (.iconst 1, 1) := by decide +kernel
theorem dX2_headsIf_90 : decode cX2_headsIf 90 = .ok (.iadd, 1) := by decide +kernel
theorem dX2_headsIf_91 : decode cX2_headsIf 91 = .ok (.iconst 2, 1) := by decide +kernel
theorem dX2_headsIf_92 : decode cX2_headsIf 92 = .ok (.idiv, 1) := by decide +kernel
theorem dX2_headsIf_93 : decode cX2_headsIf 93 = .ok (.ireturn, 1) := by decide +kernel
theorem dX2_headsIf_94 : decode cX2_headsIf 94 = .ok (.iload 5, 2) := by decide +kernel
theorem dX2_headsIf_96 : decode cX2_headsIf 96 = .ok (.ireturn, 1) := by decide +kernel
theorem dX2_headsIf_97 : decode cX2_headsIf 97 = .ok (.iload 5, 2) := by decide +kernel
theorem dX2_headsIf_99 : decode cX2_headsIf 99 = .ok (.iconst 1, 1) := by decide +kernel
theorem dX2_headsIf_100 : decode cX2_headsIf 100 = .ok (.iadd, 1) := by decide +kernel
theorem dX2_headsIf_101 : decode cX2_headsIf 101 = .ok (.ireturn, 1) := by decide +kernel
theorem dX2_headsIf_102 : decode cX2_headsIf 102 = .ok (.iload_n 2, 1) := by decide +kernel
theorem dX2_headsIf_103 : decode cX2_headsIf 103 = .ok (.iload_n 3, 1) := by decide +kernel
theorem dX2_headsIf_104 : decode cX2_headsIf 104 = .ok (.iadd, 1) := by decide +kernel
theorem dX2_headsIf_105 : decode cX2_headsIf 105 = .ok (.ireturn, 1) := by decide +kernel
theorem dX2_headsIf_106 : decode cX2_headsIf 106 = .ok (.iload_n 2, 1) := by decide +kernel
theorem dX2_headsIf_107 : decode cX2_headsIf 107 = .ok (.ireturn, 1) := by decide +kernel
set_option maxRecDepth 20000 in
theorem ggX2_headsTogether_X8_has : GoodIn wsX2_headsTogether wsX8_has := goodIn_r _ [4] (by decide +kernel) (by decide +kernel)
set_option maxRecDepth 20000 in
theorem gX2_headsTogether_X8_has_n77 : GoodIn wsX2_headsTogether (wsX8_has) := ggX2_headsTogether_X8_has
set_option maxRecDepth 20000 in
theorem ggX2_headsTogether_X2_headsOf : GoodIn wsX2_headsTogether wsX2_headsOf := goodIn_r _ [9, 10, 11, 12, 13, 8, 14, 15, 16, 17, 18, 19, 20, 21, 22, 23, 24, 25, 26, 27, 28, 29, 30] (by decide +kernel) (by decide +kernel)
set_option maxRecDepth 20000 in
theorem gX2_headsTogether_X2_headsOf : GoodIn wsX2_headsTogether (wsV RX2 92 RX2 yX2_headsOf wsX2_headsOf) := goodIn_app (goodIn_of _ (by decide +kernel)) ggX2_headsTogether_X2_headsOf
theorem dX2_headsTogether_0 : decode cX2_headsTogether 0 = .ok (.iconst 0, 1) := by decide +kernel
theorem dX2_headsTogether_1 : decode cX2_headsTogether 1 = .ok (.istore_n 2, 1) := by decide +kernel
theorem dX2_headsTogether_2 : decode cX2_headsTogether 2 = .ok (.iconst 0, 1) := by decide +kernel
theorem dX2_headsTogether_3 : decode cX2_headsTogether 3 = .ok (.istore_n 3, 1) := by decide +kernel
theorem dX2_headsTogether_4 : decode cX2_headsTogether 4 = .ok (.iload_n 3, 1) := by decide +kernel
theorem dX2_headsTogether_5 : decode cX2_headsTogether 5 = .ok (.aload_n 0, 1) := by decide +kernel
theorem dX2_headsTogether_6 : decode cX2_headsTogether 6 = .ok (.getfield 46, 3) := by decide +kernel
theorem dX2_headsTogether_9 : decode cX2_headsTogether 9 = .ok (.if_icmp .ge 25, 3) := by decide +kernel
theorem dX2_headsTogether_12 : decode cX2_headsTogether 12 = .ok (.iload_n 1, 1) := by decide +kernel
theorem dX2_headsTogether_13 : decode cX2_headsTogether 13 = .ok (.iload_n 3, 1) := by decide +kernel
theorem dX2_headsTogether_14 : decode cX2_headsTogether 14 = .ok (.invokestatic 77, 3) := by decide +kernel
theorem dX2_headsTogether_17 : decode cX2_headsTogether 17 = .ok (.ifCond .eq 11, 3) := by decide +kernel
theorem dX2_headsTogether_20 : decode cX2_headsTogether 20 = .ok (.iload_n 2, 1) := by decide +kernel
theorem dX2_headsTogether_21 : decode cX2_headsTogether 21 = .ok (.aload_n 0, 1) := by decide +kernel
theorem dX2_headsTogether_22 : decode cX2_headsTogether 22 = .ok (.iload_n 3, 1) := by decide +kernel
theorem dX2_headsTogether_23 : decode cX2_headsTogether 23 = .ok (.invokevirtual 92, 3) := by decide +kernel
theorem dX2_headsTogether_26 : decode cX2_headsTogether 26 = .ok (.iadd, 1) := by decide +kernel
theorem dX2_headsTogether_27 : decode cX2_headsTogether 27 = .ok (.istore_n 2, 1) := by decide +kernel
theorem dX2_headsTogether_28 : decode cX2_headsTogether 28 = .ok (.iinc 3 1, 3) := by decide +kernel
theorem dX2_headsTogether_31 : decode cX2_headsTogether 31 = .ok (.goto (-27), 3) := by decide +kernel
theorem dX2_headsTogether_34 : decode cX2_headsTogether 34 = .ok (.iload_n 2, 1) := by decide +kernel
theorem dX2_headsTogether_35 : decode cX2_headsTogether 35 = .ok (.ireturn, 1) := by decide +kernel
set_option maxRecDepth 20000 in
theorem ggX2_lets_X8_within : GoodIn wsX2_lets wsX8_within := goodIn_r _ [4] (by decide +kernel) (by decide +kernel)
set_option maxRecDepth 20000 in
theorem gX2_lets_X8_within_n65 : GoodIn wsX2_lets (wsX8_within) := ggX2_lets_X8_within
set_option maxRecDepth 20000 in
theorem ggX2_lets_X2_isSquare : GoodIn wsX2_lets wsX2_isSquare := goodIn_r _ [8] (by decide +kernel) (by decide +kernel)
set_option maxRecDepth 20000 in
theorem gX2_lets_X2_isSquare : GoodIn wsX2_lets (va_wsS RX2 96 yX2_isSquare wsX2_isSquare) := goodIn_app (goodIn_of _ (by decide +kernel)) ggX2_lets_X2_isSquare
set_option maxRecDepth 20000 in
theorem ggX2_lets_X2_isPrime : GoodIn wsX2_lets wsX2_isPrime := goodIn_r _ [11] (by decide +kernel) (by decide +kernel)
set_option maxRecDepth 20000 in
theorem gX2_lets_X2_isPrime : GoodIn wsX2_lets (va_wsS RX2 99 yX2_isPrime wsX2_isPrime) := goodIn_app (goodIn_of _ (by decide +kernel)) ggX2_lets_X2_isPrime
theorem dX2_lets_0 : decode cX2_lets 0 = .ok (.iload_n 1, 1) := by decide +kernel
theorem dX2_lets_1 : decode cX2_lets 1 = .ok (.iconst 1, 1) := by decide +kernel
theorem dX2_lets_2 : decode cX2_lets 2 = .ok (.aload_n 0, 1) := by decide +kernel
theorem dX2_lets_3 : decode cX2_lets 3 = .ok (.getfield 30, 3) := by decide +kernel
theorem dX2_lets_6 : decode cX2_lets 6 = .ok (.iconst 0, 1) := by decide +kernel
theorem dX2_lets_7 : decode cX2_lets 7 = .ok (.iaload, 1) := by decide +kernel
theorem dX2_lets_8 : decode cX2_lets 8 = .ok (.invokestatic 65, 3) := by decide +kernel
theorem dX2_lets_11 : decode cX2_lets 11 = .ok (.ifCond .ne 5, 3) := by decide +kernel
theorem dX2_lets_14 : decode cX2_lets 14 = .ok (.iconst 0, 1) := by decide +kernel
theorem dX2_lets_15 : decode cX2_lets 15 = .ok (.ireturn, 1) := by decide +kernel
theorem dX2_lets_16 : decode cX2_lets 16 = .ok (.aload_n 0, 1) := by decide +kernel
theorem dX2_lets_17 : decode cX2_lets 17 = .ok (.getfield 30, 3) := by decide +kernel
theorem dX2_lets_20 : decode cX2_lets 20 = .ok (.iconst 1, 1) := by decide +kernel
theorem dX2_lets_21 : decode cX2_lets 21 = .ok (.iaload, 1) := by decide +kernel
theorem dX2_lets_22 : decode cX2_lets 22 = .ok (.tableswitch 56 1 3 #[26, 38, 51], 26) := by decide +kernel
theorem dX2_lets_48 : decode cX2_lets 48 = .ok (.iload_n 1, 1) := by decide +kernel
theorem dX2_lets_49 : decode cX2_lets 49 = .ok (.iconst 2, 1) := by decide +kernel
theorem dX2_lets_50 : decode cX2_lets 50 = .ok (.irem, 1) := by decide +kernel
theorem dX2_lets_51 : decode cX2_lets 51 = .ok (.ifCond .ne 7, 3) := by decide +kernel
theorem dX2_lets_54 : decode cX2_lets 54 = .ok (.iconst 1, 1) := by decide +kernel
theorem dX2_lets_55 : decode cX2_lets 55 = .ok (.goto 4, 3) := by decide +kernel
theorem dX2_lets_58 : decode cX2_lets 58 = .ok (.iconst 0, 1) := by decide +kernel
theorem dX2_lets_59 : decode cX2_lets 59 = .ok (.ireturn, 1) := by decide +kernel
theorem dX2_lets_60 : decode cX2_lets 60 = .ok (.iload_n 1, 1) := by decide +kernel
theorem dX2_lets_61 : decode cX2_lets 61 = .ok (.iconst 2, 1) := by decide +kernel
theorem dX2_lets_62 : decode cX2_lets 62 = .ok (.irem, 1) := by decide +kernel
theorem dX2_lets_63 : decode cX2_lets 63 = .ok (.iconst 1, 1) := by decide +kernel
theorem dX2_lets_64 : decode cX2_lets 64 = .ok (.if_icmp .ne 7, 3) := by decide +kernel
theorem dX2_lets_67 : decode cX2_lets 67 = .ok (.iconst 1, 1) := by decide +kernel
theorem dX2_lets_68 : decode cX2_lets 68 = .ok (.goto 4, 3) := by decide +kernel
theorem dX2_lets_71 : decode cX2_lets 71 = .ok (.iconst 0, 1) := by decide +kernel
theorem dX2_lets_72 : decode cX2_lets 72 = .ok (.ireturn, 1) := by decide +kernel
theorem dX2_lets_73 : decode cX2_lets 73 = .ok (.iload_n 1, 1) := by decide +kernel
theorem dX2_lets_74 : decode cX2_lets 74 = .ok (.invokestatic 96, 3) := by decide +kernel
theorem dX2_lets_77 : decode cX2_lets 77 = .ok (.ireturn, 1) := by decide +kernel
theorem dX2_lets_78 : decode cX2_lets 78 = .ok (.iload_n 1, 1) := by decide +kernel
theorem dX2_lets_79 : decode cX2_lets 79 = .ok (.invokestatic 99, 3) := by decide +kernel
theorem dX2_lets_82 : decode cX2_lets 82 = .ok (.ireturn, 1) := by decide +kernel
theorem dX2_isSquare_0 : decode cX2_isSquare 0 = .ok (.iconst 1, 1) := by decide +kernel
theorem dX2_isSquare_1 : decode cX2_isSquare 1 = .ok (.istore_n 1, 1) := by decide +kernel
theorem dX2_isSquare_2 : decode cX2_isSquare 2 = .ok (.iload_n 1, 1) := by decide +kernel
theorem dX2_isSquare_3 : decode cX2_isSquare 3 = .ok (.iload_n 1, 1) := by decide +kernel
theorem dX2_isSquare_4 : decode cX2_isSquare 4 = .ok (.imul, 1) := by decide +kernel
theorem dX2_isSquare_5 : decode cX2_isSquare 5 = .ok (.iload_n 0, 1) := by decide +kernel
theorem dX2_isSquare_6 : decode cX2_isSquare 6 = .ok (.if_icmp .ge 14, 3) := by decide +kernel
theorem dX2_isSquare_9 : decode cX2_isSquare 9 = .ok (.iload_n 1, 1) := by decide +kernel
theorem dX2_isSquare_10 : decode cX2_isSquare 10 = .ok (.iload_n 0, 1) := by decide +kernel
theorem dX2_isSquare_11 : decode cX2_isSquare 11 = .ok (.if_icmp .ge 9, 3) := by decide +kernel
theorem dX2_isSquare_14 : decode cX2_isSquare 14 = .ok (.iinc 1 1, 3) := by decide +kernel
theorem dX2_isSquare_17 : decode cX2_isSquare 17 = .ok (.goto (-15), 3) := by decide +kernel
theorem dX2_isSquare_20 : decode cX2_isSquare 20 = .ok (.iload_n 1, 1) := by decide +kernel
theorem dX2_isSquare_21 : decode cX2_isSquare 21 = .ok (.iload_n 1, 1) := by decide +kernel
theorem dX2_isSquare_22 : decode cX2_isSquare 22 = .ok (.imul, 1) := by decide +kernel
theorem dX2_isSquare_23 : decode cX2_isSquare 23 = .ok (.iload_n 0, 1) := by decide +kernel
theorem dX2_isSquare_24 : decode cX2_isSquare 24 = .ok (.if_icmp .ne 7, 3) := by decide +kernel
theorem dX2_isSquare_27 : decode cX2_isSquare 27 = .ok (.iconst 1, 1) := by decide +kernel
theorem dX2_isSquare_28 : decode cX2_isSquare 28 = .ok (.goto 4, 3) := by decide +kernel
theorem dX2_isSquare_31 : decode cX2_isSquare 31 = .ok (.iconst 0, 1) := by decide +kernel
theorem dX2_isSquare_32 : decode cX2_isSquare 32 = .ok (.ireturn, 1) := by decide +kernel
theorem dX2_isPrime_0 : decode cX2_isPrime 0 = .ok (.iconst 2, 1) := by decide +kernel
theorem dX2_isPrime_1 : decode cX2_isPrime 1 = .ok (.istore_n 1, 1) := by decide +kernel
theorem dX2_isPrime_2 : decode cX2_isPrime 2 = .ok (.iload_n 1, 1) := by decide +kernel
theorem dX2_isPrime_3 : decode cX2_isPrime 3 = .ok (.iload_n 1, 1) := by decide +kernel
theorem dX2_isPrime_4 : decode cX2_isPrime 4 = .ok (.imul, 1) := by decide +kernel
theorem dX2_isPrime_5 : decode cX2_isPrime 5 = .ok (.iload_n 0, 1) := by decide +kernel
theorem dX2_isPrime_6 : decode cX2_isPrime 6 = .ok (.if_icmp .gt 17, 3) := by decide +kernel
theorem dX2_isPrime_9 : decode cX2_isPrime 9 = .ok (.iload_n 0, 1) := by decide +kernel
theorem dX2_isPrime_10 : decode cX2_isPrime 10 = .ok (.iload_n 1, 1) := by decide +kernel
theorem dX2_isPrime_11 : decode cX2_isPrime 11 = .ok (.irem, 1) := by decide +kernel
theorem dX2_isPrime_12 : decode cX2_isPrime 12 = .ok (.ifCond .ne 5, 3) := by decide +kernel
theorem dX2_isPrime_15 : decode cX2_isPrime 15 = .ok (.iconst 0, 1) := by decide +kernel
theorem dX2_isPrime_16 : decode cX2_isPrime 16 = .ok (.ireturn, 1) := by decide +kernel
theorem dX2_isPrime_17 : decode cX2_isPrime 17 = .ok (.iinc 1 1, 3) := by decide +kernel
theorem dX2_isPrime_20 : decode cX2_isPrime 20 = .ok (.goto (-18), 3) := by decide +kernel
theorem dX2_isPrime_23 : decode cX2_isPrime 23 = .ok (.iload_n 0, 1) := by decide +kernel
theorem dX2_isPrime_24 : decode cX2_isPrime 24 = .ok (.iconst 2, 1) := by decide +kernel
theorem dX2_isPrime_25 : decode cX2_isPrime 25 = .ok (.if_icmp .lt 7, 3) := by decide +kernel
theorem dX2_isPrime_28 : decode cX2_isPrime 28 = .ok (.iconst 1, 1) := by decide +kernel
theorem dX2_isPrime_29 : decode cX2_isPrime 29 = .ok (.goto 4, 3) := by decide +kernel
theorem dX2_isPrime_32 : decode cX2_isPrime 32 = .ok (.iconst 0, 1) := by decide +kernel
theorem dX2_isPrime_33 : decode cX2_isPrime 33 = .ok (.ireturn, 1) := by decide +kernel
set_option maxRecDepth 20000 in
theorem ggX2_agrees_X8_has : GoodIn wsX2_agrees wsX8_has := goodIn_r _ [6] (by decide +kernel) (by decide +kernel)
set_option maxRecDepth 20000 in
theorem gX2_agrees_X8_has_n77 : GoodIn wsX2_agrees (wsX8_has) := ggX2_agrees_X8_has
theorem dX2_agrees_0 : decode cX2_agrees 0 = .ok (.iload_n 1, 1) := by decide +kernel
theorem dX2_agrees_1 : decode cX2_agrees 1 = .ok (.ifCond .eq 9, 3) := by decide +kernel
theorem dX2_agrees_4 : decode cX2_agrees 4 = .ok (.iload_n 1, 1) := by decide +kernel
theorem dX2_agrees_5 : decode cX2_agrees 5 = .ok (.iload_n 2, 1) := by decide +kernel
theorem dX2_agrees_6 : decode cX2_agrees 6 = .ok (.iand, 1) := by decide +kernel
theorem dX2_agrees_7 : decode cX2_agrees 7 = .ok (.ifCond .eq 5, 3) := by decide +kernel
theorem dX2_agrees_10 : decode cX2_agrees 10 = .ok (.iconst 0, 1) := by decide +kernel
theorem dX2_agrees_11 : decode cX2_agrees 11 = .ok (.ireturn, 1) := by decide +kernel
theorem dX2_agrees_12 : decode cX2_agrees 12 = .ok (.iload_n 1, 1) := by decide +kernel
theorem dX2_agrees_13 : decode cX2_agrees 13 = .ok (.iload_n 2, 1) := by decide +kernel
theorem dX2_agrees_14 : decode cX2_agrees 14 = .ok (.ior, 1) := by decide +kernel
theorem dX2_agrees_15 : decode cX2_agrees 15 = .ok (.iconst (-1), 1) := by decide +kernel
theorem dX2_agrees_16 : decode cX2_agrees 16 = .ok (.ixor, 1) := by decide +kernel
theorem dX2_agrees_17 : decode cX2_agrees 17 = .ok (.istore_n 3, 1) := by decide +kernel
theorem dX2_agrees_18 : decode cX2_agrees 18 = .ok (.iconst 0, 1) := by decide +kernel
theorem dX2_agrees_19 : decode cX2_agrees 19 = .ok (.istore 4, 2) := by decide +kernel
theorem dX2_agrees_21 : decode cX2_agrees 21 = .ok (.iload 4, 2) := by decide +kernel
theorem dX2_agrees_23 : decode cX2_agrees 23 = .ok (.aload_n 0, 1) := by decide +kernel
theorem dX2_agrees_24 : decode cX2_agrees 24 = .ok (.getfield 46, 3) := by decide +kernel
theorem dX2_agrees_27 : decode cX2_agrees 27 = .ok (.if_icmp .ge 44, 3) := by decide +kernel
theorem dX2_agrees_30 : decode cX2_agrees 30 = .ok (.iload_n 1, 1) := by decide +kernel
theorem dX2_agrees_31 : decode cX2_agrees 31 = .ok (.iload 4, 2) := by decide +kernel
theorem dX2_agrees_33 : decode cX2_agrees 33 = .ok (.invokestatic 77, 3) := by decide +kernel
theorem dX2_agrees_36 : decode cX2_agrees 36 = .ok (.ifCond .eq 29, 3) := by decide +kernel
theorem dX2_agrees_39 : decode cX2_agrees 39 = .ok (.aload_n 0, 1) := by decide +kernel
theorem dX2_agrees_40 : decode cX2_agrees 40 = .ok (.getfield 27, 3) := by decide +kernel
theorem dX2_agrees_43 : decode cX2_agrees 43 = .ok (.iload 4, 2) := by decide +kernel
theorem dX2_agrees_45 : decode cX2_agrees 45 = .ok (.iaload, 1) := by decide +kernel
theorem dX2_agrees_46 : decode cX2_agrees 46 = .ok (.iload_n 1, 1) := by decide +kernel
theorem dX2_agrees_47 : decode cX2_agrees 47 = .ok (.iand, 1) := by decide +kernel
theorem dX2_agrees_48 : decode cX2_agrees 48 = .ok (.ifCond .ne 15, 3) := by decide +kernel
theorem dX2_agrees_51 : decode cX2_agrees 51 = .ok (.aload_n 0, 1) := by decide +kernel
theorem dX2_agrees_52 : decode cX2_agrees 52 = .ok (.getfield 24, 3) := by decide +kernel
theorem dX2_agrees_55 : decode cX2_agrees 55 = .ok (.iload 4, 2) := by decide +kernel
theorem dX2_agrees_57 : decode cX2_agrees 57 = .ok (.iaload, 1) := by decide +kernel
theorem dX2_agrees_58 : decode cX2_agrees 58 = .ok (.iload_n 3, 1) := by decide +kernel
theorem dX2_agrees_59 : decode cX2_agrees 59 = .ok (.iand, 1) := by decide +kernel
theorem dX2_agrees_60 : decode cX2_agrees 60 = .ok (.ifCond .eq 5, 3) := by decide +kernel
theorem dX2_agrees_63 : decode cX2_agrees 63 = .ok (.iconst 0, 1) := by decide +kernel
theorem dX2_agrees_64 : decode cX2_agrees 64 = .ok (.ireturn, 1) := by decide +kernel
theorem dX2_agrees_65 : decode cX2_agrees 65 = .ok (.iinc 4 1, 3) := by decide +kernel
theorem dX2_agrees_68 : decode cX2_agrees 68 = .ok (.goto (-47), 3) := by decide +kernel
theorem dX2_agrees_71 : decode cX2_agrees 71 = .ok (.iconst 1, 1) := by decide +kernel
theorem dX2_agrees_72 : decode cX2_agrees 72 = .ok (.ireturn, 1) := by decide +kernel
set_option maxRecDepth 20000 in
theorem ggX2_leastHermits_X2_lets : GoodIn wsX2_leastHermits wsX2_lets := goodIn_r _ [5, 6, 7, 8, 9, 10, 11, 4, 12, 13, 14, 15, 16, 17, 18, 19, 20, 21, 22, 23, 24, 25, 26, 27, 28] (by decide +kernel) (by decide +kernel)
set_option maxRecDepth 20000 in
theorem gX2_leastHermits_X2_lets : GoodIn wsX2_leastHermits (wsV RX2 102 RX2 yX2_lets wsX2_lets) := goodIn_app (goodIn_of _ (by decide +kernel)) ggX2_leastHermits_X2_lets
theorem dX2_leastHermits_0 : decode cX2_leastHermits 0 = .ok (.iconst 0, 1) := by decide +kernel
theorem dX2_leastHermits_1 : decode cX2_leastHermits 1 = .ok (.istore_n 3, 1) := by decide +kernel
theorem dX2_leastHermits_2 : decode cX2_leastHermits 2 = .ok (.iload_n 3, 1) := by decide +kernel
theorem dX2_leastHermits_3 : decode cX2_leastHermits 3 = .ok (.iload_n 2, 1) := by decide +kernel
theorem dX2_leastHermits_4 : decode cX2_leastHermits 4 = .ok (.if_icmp .gt 21, 3) := by decide +kernel
theorem dX2_leastHermits_7 : decode cX2_leastHermits 7 = .ok (.aload_n 0, 1) := by decide +kernel
theorem dX2_leastHermits_8 : decode cX2_leastHermits 8 = .ok (.iload_n 1, 1) := by decide +kernel
theorem dX2_leastHermits_9 : decode cX2_leastHermits 9 = .ok (.iload_n 3, 1) := by decide +kernel
theorem dX2_leastHermits_10 : decode cX2_leastHermits 10 = .ok (.iadd, 1) := by decide +kernel
theorem dX2_leastHermits_11 : decode cX2_leastHermits 11 = .ok (.invokevirtual 102, 3) := by decide +kernel
theorem dX2_leastHermits_14 : decode cX2_leastHermits 14 = .ok (.ifCond .eq 5, 3) := by decide +kernel
theorem dX2_leastHermits_17 : decode cX2_leastHermits 17 = .ok (.iload_n 3, 1) := by decide +kernel
theorem dX2_leastHermits_18 : decode cX2_leastHermits 18 = .ok (.ireturn, 1) := by decide +kernel
theorem dX2_leastHermits_19 : decode cX2_leastHermits 19 = .ok (.iinc 3 1, 3) := by decide +kernel
theorem dX2_leastHermits_22 : decode cX2_leastHermits 22 = .ok (.goto (-20), 3) := by decide +kernel
theorem dX2_leastHermits_25 : decode cX2_leastHermits 25 = .ok (.iconst (-1), 1) := by decide +kernel
theorem dX2_leastHermits_26 : decode cX2_leastHermits 26 = .ok (.ireturn, 1) := by decide +kernel
set_option maxRecDepth 20000 in
theorem ggX2_hireBy_X2_agrees : GoodIn wsX2_hireBy wsX2_agrees := goodIn_r _ [6, 7, 8, 9, 10, 11, 12, 44, 45, 46, 47, 48, 49, 50, 51, 52, 53, 54, 55, 56] (by decide +kernel) (by decide +kernel)
set_option maxRecDepth 20000 in
theorem gX2_hireBy_X2_agrees : GoodIn wsX2_hireBy (wsV RX2 105 RX2 yX2_agrees wsX2_agrees) := goodIn_app (goodIn_of _ (by decide +kernel)) ggX2_hireBy_X2_agrees
set_option maxRecDepth 20000 in
theorem ggX2_hireBy_X2_headsTogether : GoodIn wsX2_hireBy wsX2_headsTogether := goodIn_r _ [16, 7, 10, 11, 12, 17, 18, 19, 5, 20, 21, 22, 23, 24, 25, 26, 1, 27, 44, 45, 46, 47, 48, 49, 50, 51, 52, 53, 54, 55, 56] (by decide +kernel) (by decide +kernel)
set_option maxRecDepth 20000 in
theorem gX2_hireBy_X2_headsTogether : GoodIn wsX2_hireBy (wsV RX2 108 RX2 yX2_headsTogether wsX2_headsTogether) := goodIn_app (goodIn_of _ (by decide +kernel)) ggX2_hireBy_X2_headsTogether
set_option maxRecDepth 20000 in
theorem ggX2_hireBy_X2_leastHermits : GoodIn wsX2_hireBy wsX2_leastHermits := goodIn_r _ [31, 32, 33, 34, 5, 35, 1, 36, 11, 37, 38, 39, 40, 41, 42, 43, 44, 45, 46, 47, 48, 49, 50, 51, 52, 53, 54, 55, 56] (by decide +kernel) (by decide +kernel)
set_option maxRecDepth 20000 in
theorem gX2_hireBy_X2_leastHermits : GoodIn wsX2_hireBy (wsV RX2 111 RX2 yX2_leastHermits wsX2_leastHermits) := goodIn_app (goodIn_of _ (by decide +kernel)) ggX2_hireBy_X2_leastHermits
theorem dX2_hireBy_0 : decode cX2_hireBy 0 = .ok (.aload_n 0, 1) := by decide +kernel
theorem dX2_hireBy_1 : decode cX2_hireBy 1 = .ok (.iload_n 1, 1) := by decide +kernel
theorem dX2_hireBy_2 : decode cX2_hireBy 2 = .ok (.iload_n 2, 1) := by decide +kernel
theorem dX2_hireBy_3 : decode cX2_hireBy 3 = .ok (.invokevirtual 105, 3) := by decide +kernel
theorem dX2_hireBy_6 : decode cX2_hireBy 6 = .ok (.ifCond .eq 21, 3) := by decide +kernel
theorem dX2_hireBy_9 : decode cX2_hireBy 9 = .ok (.aload_n 0, 1) := by decide +kernel
theorem dX2_hireBy_10 : decode cX2_hireBy 10 = .ok (.aload_n 0, 1) := by decide +kernel
theorem dX2_hireBy_11 : decode cX2_hireBy 11 = .ok (.iload_n 1, 1) := by decide +kernel
theorem dX2_hireBy_12 : decode cX2_hireBy 12 = .ok (.invokevirtual 108, 3) := by decide +kernel
theorem dX2_hireBy_15 : decode cX2_hireBy 15 = .ok (.aload_n 0, 1) := by decide +kernel
theorem dX2_hireBy_16 : decode cX2_hireBy 16 = .ok (.getfield 30, 3) := by decide +kernel
theorem dX2_hireBy_19 : decode cX2_hireBy 19 = .ok (.iconst 3, 1) := by decide +kernel
theorem dX2_hireBy_20 : decode cX2_hireBy 20 = .ok (.iaload, 1) := by decide +kernel
theorem dX2_hireBy_21 : decode cX2_hireBy 21 = .ok (.invokevirtual 111, 3) := by decide +kernel
theorem dX2_hireBy_24 : decode cX2_hireBy 24 = .ok (.goto 4, 3) := by decide +kernel
theorem dX2_hireBy_27 : decode cX2_hireBy 27 = .ok (.iconst (-1), 1) := by decide +kernel
theorem dX2_hireBy_28 : decode cX2_hireBy 28 = .ok (.ireturn, 1) := by decide +kernel
set_option maxRecDepth 20000 in
theorem ggX2_hireNow_X2_hireBy : GoodIn wsX2_hireNow wsX2_hireBy := goodIn_r _ [6, 7, 8, 9, 10, 5, 11, 12, 13, 14, 15, 16, 17, 18, 19, 20, 21, 22, 23, 24, 25, 26, 27, 28, 29, 30, 31, 32, 33, 34, 35, 36, 37, 38, 39, 40, 41, 42, 43, 44, 45, 46, 47, 48, 49, 50, 51, 52, 53, 54, 55, 56, 57, 58, 59, 60, 61] (by decide +kernel) (by decide +kernel)
set_option maxRecDepth 20000 in
theorem gX2_hireNow_X2_hireBy : GoodIn wsX2_hireNow (wsV RX2 114 RX2 yX2_hireBy wsX2_hireBy) := goodIn_app (goodIn_of _ (by decide +kernel)) ggX2_hireNow_X2_hireBy
theorem dX2_hireNow_0 : decode cX2_hireNow 0 = .ok (.aload_n 0, 1) := by decide +kernel
theorem dX2_hireNow_1 : decode cX2_hireNow 1 = .ok (.iload_n 1, 1) := by decide +kernel
theorem dX2_hireNow_2 : decode cX2_hireNow 2 = .ok (.aload_n 0, 1) := by decide +kernel
theorem dX2_hireNow_3 : decode cX2_hireNow 3 = .ok (.getfield 49, 3) := by decide +kernel
theorem dX2_hireNow_6 : decode cX2_hireNow 6 = .ok (.invokevirtual 114, 3) := by decide +kernel
theorem dX2_hireNow_9 : decode cX2_hireNow 9 = .ok (.ireturn, 1) := by decide +kernel
theorem dX2_rowOver_0 : decode cX2_rowOver 0 = .ok (.aload_n 0, 1) := by decide +kernel
theorem dX2_rowOver_1 : decode cX2_rowOver 1 = .ok (.dup, 1) := by decide +kernel
theorem dX2_rowOver_2 : decode cX2_rowOver 2 = .ok (.getfield 49, 3) := by decide +kernel
theorem dX2_rowOver_5 : decode cX2_rowOver 5 = .ok (.iload_n 1, 1) := by decide +kernel
theorem dX2_rowOver_6 : decode cX2_rowOver 6 = .ok (.ior, 1) := by decide +kernel
theorem dX2_rowOver_7 : decode cX2_rowOver 7 = .ok (.putfield 49, 3) := by decide +kernel
theorem dX2_rowOver_10 : decode cX2_rowOver 10 = .ok (.aload_n 0, 1) := by decide +kernel
theorem dX2_rowOver_11 : decode cX2_rowOver 11 = .ok (.dup, 1) := by decide +kernel
theorem dX2_rowOver_12 : decode cX2_rowOver 12 = .ok (.getfield 58, 3) := by decide +kernel
theorem dX2_rowOver_15 : decode cX2_rowOver 15 = .ok (.iconst 1, 1) := by decide +kernel
theorem dX2_rowOver_16 : decode cX2_rowOver 16 = .ok (.iadd, 1) := by decide +kernel
theorem dX2_rowOver_17 : decode cX2_rowOver 17 = .ok (.putfield 58, 3) := by decide +kernel
theorem dX2_rowOver_20 : decode cX2_rowOver 20 = .ok (.aload_n 0, 1) := by decide +kernel
theorem dX2_rowOver_21 : decode cX2_rowOver 21 = .ok (.dup, 1) := by decide +kernel
theorem dX2_rowOver_22 : decode cX2_rowOver 22 = .ok (.getfield 55, 3) := by decide +kernel
theorem dX2_rowOver_25 : decode cX2_rowOver 25 = .ok (.iload_n 2, 1) := by decide +kernel
theorem dX2_rowOver_26 : decode cX2_rowOver 26 = .ok (.aload_n 0, 1) := by decide +kernel
theorem dX2_rowOver_27 : decode cX2_rowOver 27 = .ok (.getfield 30, 3) := by decide +kernel
theorem dX2_rowOver_30 : decode cX2_rowOver 30 = .ok (.iconst 4, 1) := by decide +kernel
theorem dX2_rowOver_31 : decode cX2_rowOver 31 = .ok (.iaload, 1) := by decide +kernel
theorem dX2_rowOver_32 : decode cX2_rowOver 32 = .ok (.imul, 1) := by decide +kernel
theorem dX2_rowOver_33 : decode cX2_rowOver 33 = .ok (.iadd, 1) := by decide +kernel
theorem dX2_rowOver_34 : decode cX2_rowOver 34 = .ok (.putfield 55, 3) := by decide +kernel
theorem dX2_rowOver_37 : decode cX2_rowOver 37 = .ok (.aload_n 0, 1) := by decide +kernel
theorem dX2_rowOver_38 : decode cX2_rowOver 38 = .ok (.dup, 1) := by decide +kernel
theorem dX2_rowOver_39 : decode cX2_rowOver 39 = .ok (.getfield 52, 3) := by decide +kernel
theorem dX2_rowOver_42 : decode cX2_rowOver 42 = .ok (.bipush 20, 2) := by decide +kernel
theorem dX2_rowOver_44 : decode cX2_rowOver 44 = .ok (.iadd, 1) := by decide +kernel
theorem dX2_rowOver_45 : decode cX2_rowOver 45 = .ok (.putfield 52, 3) := by decide +kernel
theorem dX2_rowOver_48 : decode cX2_rowOver 48 = .ok (.return_, 1) := by decide +kernel
theorem dX2_rowBack_0 : decode cX2_rowBack 0 = .ok (.aload_n 0, 1) := by decide +kernel
theorem dX2_rowBack_1 : decode cX2_rowBack 1 = .ok (.dup, 1) := by decide +kernel
theorem dX2_rowBack_2 : decode cX2_rowBack 2 = .ok (.getfield 49, 3) := by decide +kernel
theorem dX2_rowBack_5 : decode cX2_rowBack 5 = .ok (.iconst 1, 1) := by decide +kernel
theorem dX2_rowBack_6 : decode cX2_rowBack 6 = .ok (.iload_n 1, 1) := by decide +kernel
theorem dX2_rowBack_7 : decode cX2_rowBack 7 = .ok (.ishl, 1) := by decide +kernel
theorem dX2_rowBack_8 : decode cX2_rowBack 8 = .ok (.iconst (-1), 1) := by decide +kernel
theorem dX2_rowBack_9 : decode cX2_rowBack 9 = .ok (.ixor, 1) := by decide +kernel
theorem dX2_rowBack_10 : decode cX2_rowBack 10 = .ok (.iand, 1) := by decide +kernel
theorem dX2_rowBack_11 : decode cX2_rowBack 11 = .ok (.putfield 49, 3) := by decide +kernel
theorem dX2_rowBack_14 : decode cX2_rowBack 14 = .ok (.aload_n 0, 1) := by decide +kernel
theorem dX2_rowBack_15 : decode cX2_rowBack 15 = .ok (.dup, 1) := by decide +kernel
theorem dX2_rowBack_16 : decode cX2_rowBack 16 = .ok (.getfield 52, 3) := by decide +kernel
theorem dX2_rowBack_19 : decode cX2_rowBack 19 = .ok (.bipush 20, 2) := by decide +kernel
theorem dX2_rowBack_21 : decode cX2_rowBack 21 = .ok (.iadd, 1) := by decide +kernel
theorem dX2_rowBack_22 : decode cX2_rowBack 22 = .ok (.putfield 52, 3) := by decide +kernel
theorem dX2_rowBack_25 : decode cX2_rowBack 25 = .ok (.return_, 1) := by decide +kernel
theorem dX2_draw_0 : decode cX2_draw 0 = .ok (.aload_n 0, 1) := by decide +kernel
theorem dX2_draw_1 : decode cX2_draw 1 = .ok (.aload_n 0, 1) := by decide +kernel
theorem dX2_draw_2 : decode cX2_draw 2 = .ok (.getfield 33, 3) := by decide +kernel
theorem dX2_draw_5 : decode cX2_draw 5 = .ok (.ldc 117, 2) := by decide +kernel
theorem dX2_draw_7 : decode cX2_draw 7 = .ok (.imul, 1) := by decide +kernel
theorem dX2_draw_8 : decode cX2_draw 8 = .ok (.sipush 12345, 3) := by decide +kernel
theorem dX2_draw_11 : decode cX2_draw 11 = .ok (.iadd, 1) := by decide +kernel
theorem dX2_draw_12 : decode cX2_draw 12 = .ok (.putfield 33, 3) := by decide +kernel
theorem dX2_draw_15 : decode cX2_draw 15 = .ok (.iload_n 1, 1) := by decide +kernel
theorem dX2_draw_16 : decode cX2_draw 16 = .ok (.ifCond .le 15, 3) := by decide +kernel
theorem dX2_draw_19 : decode cX2_draw 19 = .ok (.aload_n 0, 1) := by decide +kernel
theorem dX2_draw_20 : decode cX2_draw 20 = .ok (.getfield 33, 3) := by decide +kernel
theorem dX2_draw_23 : decode cX2_draw 23 = .ok (.bipush 16, 2) := by decide +kernel
theorem dX2_draw_25 : decode cX2_draw 25 = .ok (.iushr, 1) := by decide +kernel
theorem dX2_draw_26 : decode cX2_draw 26 = .ok (.iload_n 1, 1) := by decide +kernel
theorem dX2_draw_27 : decode cX2_draw 27 = .ok (.irem, 1) := by decide +kernel
theorem dX2_draw_28 : decode cX2_draw 28 = .ok (.goto 4, 3) := by decide +kernel
theorem dX2_draw_31 : decode cX2_draw 31 = .ok (.iconst 0, 1) := by decide +kernel
theorem dX2_draw_32 : decode cX2_draw 32 = .ok (.ireturn, 1) := by decide +kernel
set_option maxRecDepth 20000 in
theorem ggX2_passDay_X2_isOver : GoodIn wsX2_passDay wsX2_isOver := goodIn_r _ [7, 8, 9, 10, 11, 74, 75, 76, 77, 78, 79, 80, 81, 82, 83, 84, 85, 86] (by decide +kernel) (by decide +kernel)
set_option maxRecDepth 20000 in
theorem gX2_passDay_X2_isOver : GoodIn wsX2_passDay (wsV RX2 118 RX2 yX2_isOver wsX2_isOver) := goodIn_app (goodIn_of _ (by decide +kernel)) ggX2_passDay_X2_isOver
set_option maxRecDepth 20000 in
theorem ggX2_passDay_X2_draw : GoodIn wsX2_passDay wsX2_draw := goodIn_r _ [15, 16, 17, 74, 75, 76, 77, 78, 79, 80, 81, 82, 83, 84, 85, 86] (by decide +kernel) (by decide +kernel)
set_option maxRecDepth 20000 in
theorem gX2_passDay_X2_draw : GoodIn wsX2_passDay (wsV RX2 121 RX2 yX2_draw wsX2_draw) := goodIn_app (goodIn_of _ (by decide +kernel)) ggX2_passDay_X2_draw
set_option maxRecDepth 20000 in
theorem ggX2_passDay_X2_hireNow : GoodIn wsX2_passDay wsX2_hireNow := goodIn_r _ [21, 8, 22, 23, 24, 6, 25, 26, 27, 28, 29, 30, 1, 31, 32, 9, 10, 11, 33, 34, 35, 36, 37, 38, 39, 40, 41, 42, 43, 44, 45, 46, 47, 48, 49, 50, 51, 52, 53, 54, 55, 56, 57, 58, 59, 60, 61, 62, 63, 74, 75, 76, 77, 78, 79, 80, 81, 82, 83, 84, 85, 86] (by decide +kernel) (by decide +kernel)
set_option maxRecDepth 20000 in
theorem gX2_passDay_X2_hireNow : GoodIn wsX2_passDay (wsV RX2 124 RX2 yX2_hireNow wsX2_hireNow) := goodIn_app (goodIn_of _ (by decide +kernel)) ggX2_passDay_X2_hireNow
set_option maxRecDepth 20000 in
theorem ggX2_passDay_X2_rowOver : GoodIn wsX2_passDay wsX2_rowOver := goodIn_r _ [67, 8, 68, 69, 26, 2, 74, 75, 76, 77, 78, 79, 80, 81, 82, 83, 84, 85, 86] (by decide +kernel) (by decide +kernel)
set_option maxRecDepth 20000 in
theorem gX2_passDay_X2_rowOver : GoodIn wsX2_passDay (wsV RX2 127 RX2 yX2_rowOver wsX2_rowOver) := goodIn_app (goodIn_of _ (by decide +kernel)) ggX2_passDay_X2_rowOver
set_option maxRecDepth 20000 in
theorem ggX2_passDay_X2_rowBack : GoodIn wsX2_passDay wsX2_rowBack := goodIn_r _ [73, 8, 2, 74, 75, 76, 77, 78, 79, 80, 81, 82, 83, 84, 85, 86] (by decide +kernel) (by decide +kernel)
set_option maxRecDepth 20000 in
theorem gX2_passDay_X2_rowBack : GoodIn wsX2_passDay (wsV RX2 131 RX2 yX2_rowBack wsX2_rowBack) := goodIn_app (goodIn_of _ (by decide +kernel)) ggX2_passDay_X2_rowBack
theorem dX2_passDay_0 : decode cX2_passDay 0 = .ok (.iconst 0, 1) := by decide +kernel
theorem dX2_passDay_1 : decode cX2_passDay 1 = .ok (.istore_n 1, 1) := by decide +kernel
theorem dX2_passDay_2 : decode cX2_passDay 2 = .ok (.iconst 0, 1) := by decide +kernel
theorem dX2_passDay_3 : decode cX2_passDay 3 = .ok (.istore_n 2, 1) := by decide +kernel
theorem dX2_passDay_4 : decode cX2_passDay 4 = .ok (.iload_n 2, 1) := by decide +kernel
theorem dX2_passDay_5 : decode cX2_passDay 5 = .ok (.aload_n 0, 1) := by decide +kernel
theorem dX2_passDay_6 : decode cX2_passDay 6 = .ok (.getfield 46, 3) := by decide +kernel
theorem dX2_passDay_9 : decode cX2_passDay 9 = .ok (.if_icmp .ge 32, 3) := by decide +kernel
theorem dX2_passDay_12 : decode cX2_passDay 12 = .ok (.aload_n 0, 1) := by decide +kernel
theorem dX2_passDay_13 : decode cX2_passDay 13 = .ok (.iload_n 2, 1) := by decide +kernel
theorem dX2_passDay_14 : decode cX2_passDay 14 = .ok (.invokevirtual 118, 3) := by decide +kernel
theorem dX2_passDay_17 : decode cX2_passDay 17 = .ok (.ifCond .ne 18, 3) := by decide +kernel
theorem dX2_passDay_20 : decode cX2_passDay 20 = .ok (.aload_n 0, 1) := by decide +kernel
theorem dX2_passDay_21 : decode cX2_passDay 21 = .ok (.iconst 2, 1) := by decide +kernel
theorem dX2_passDay_22 : decode cX2_passDay 22 = .ok (.invokevirtual 121, 3) := by decide +kernel
theorem dX2_passDay_25 : decode cX2_passDay 25 = .ok (.iconst 1, 1) := by decide +kernel
theorem dX2_passDay_26 : decode cX2_passDay 26 = .ok (.if_icmp .ne 9, 3) := by decide +kernel
theorem dX2_passDay_29 : decode cX2_passDay 29 = .ok (.iload_n 1, 1) := by decide +kernel
theorem dX2_passDay_30 : decode cX2_passDay 30 = .ok (.iconst 1, 1) := by decide +kernel
theorem dX2_passDay_31 : decode cX2_passDay 31 = .ok (.iload_n 2, 1) := by decide +kernel
theorem dX2_passDay_32 : decode cX2_passDay 32 = .ok (.ishl, 1) := by decide +kernel
theorem dX2_passDay_33 : decode cX2_passDay 33 = .ok (.ior, 1) := by decide +kernel
theorem dX2_passDay_34 : decode cX2_passDay 34 = .ok (.istore_n 1, 1) := by decide +kernel
theorem dX2_passDay_35 : decode cX2_passDay 35 = .ok (.iinc 2 1, 3) := by decide +kernel
theorem dX2_passDay_38 : decode cX2_passDay 38 = .ok (.goto (-34), 3) := by decide +kernel
theorem dX2_passDay_41 : decode cX2_passDay 41 = .ok (.aload_n 0, 1) := by decide +kernel
theorem dX2_passDay_42 : decode cX2_passDay 42 = .ok (.iload_n 1, 1) := by decide +kernel
theorem dX2_passDay_43 : decode cX2_passDay 43 = .ok (.invokevirtual 124, 3) := by decide +kernel
theorem dX2_passDay_46 : decode cX2_passDay 46 = .ok (.istore_n 2, 1) := by decide +kernel
theorem dX2_passDay_47 : decode cX2_passDay 47 = .ok (.iload_n 2, 1) := by decide +kernel
theorem dX2_passDay_48 : decode cX2_passDay 48 = .ok (.iconst (-1), 1) := by decide +kernel
theorem dX2_passDay_49 : decode cX2_passDay 49 = .ok (.if_icmp .eq 12, 3) := by decide +kernel
theorem dX2_passDay_52 : decode cX2_passDay 52 = .ok (.aload_n 0, 1) := by decide +kernel
theorem dX2_passDay_53 : decode cX2_passDay 53 = .ok (.iload_n 1, 1) := by decide +kernel
theorem dX2_passDay_54 : decode cX2_passDay 54 = .ok (.iload_n 2, 1) := by decide +kernel
theorem dX2_passDay_55 : decode cX2_passDay 55 = .ok (.invokevirtual 127, 3) := by decide +kernel
theorem dX2_passDay_58 : decode cX2_passDay 58 = .ok (.goto 25, 3) := by decide +kernel
theorem dX2_passDay_61 : decode cX2_passDay 61 = .ok (.aload_n 0, 1) := by decide +kernel
theorem dX2_passDay_62 : decode cX2_passDay 62 = .ok (.aload_n 0, 1) := by decide +kernel
theorem dX2_passDay_63 : decode cX2_passDay 63 = .ok (.getfield 46, 3) := by decide +kernel
theorem dX2_passDay_66 : decode cX2_passDay 66 = .ok (.invokevirtual 121, 3) := by decide +kernel
theorem dX2_passDay_69 : decode cX2_passDay 69 = .ok (.istore_n 3, 1) := by decide +kernel
theorem dX2_passDay_70 : decode cX2_passDay 70 = .ok (.aload_n 0, 1) := by decide +kernel
theorem dX2_passDay_71 : decode cX2_passDay 71 = .ok (.iload_n 3, 1) := by decide +kernel
theorem dX2_passDay_72 : decode cX2_passDay 72 = .ok (.invokevirtual 118, 3) := by decide +kernel
theorem dX2_passDay_75 : decode cX2_passDay 75 = .ok (.ifCond .eq 8, 3) := by decide +kernel
theorem dX2_passDay_78 : decode cX2_passDay 78 = .ok (.aload_n 0, 1) := by decide +kernel
theorem dX2_passDay_79 : decode cX2_passDay 79 = .ok (.iload_n 3, 1) := by decide +kernel
theorem dX2_passDay_80 : decode cX2_passDay 80 = .ok (.invokevirtual 131, 3) := by decide +kernel
theorem dX2_passDay_83 : decode cX2_passDay 83 = .ok (.aload_n 0, 1) := by decide +kernel
theorem dX2_passDay_84 : decode cX2_passDay 84 = .ok (.dup, 1) := by decide +kernel
theorem dX2_passDay_85 : decode cX2_passDay 85 = .ok (.getfield 52, 3) := by decide +kernel
theorem dX2_passDay_88 : decode cX2_passDay 88 = .ok (.bipush 60, 2) := by decide +kernel
theorem dX2_passDay_90 : decode cX2_passDay 90 = .ok (.iadd, 1) := by decide +kernel
theorem dX2_passDay_91 : decode cX2_passDay 91 = .ok (.putfield 52, 3) := by decide +kernel
theorem dX2_passDay_94 : decode cX2_passDay 94 = .ok (.iload_n 2, 1) := by decide +kernel
theorem dX2_passDay_95 : decode cX2_passDay 95 = .ok (.iconst (-1), 1) := by decide +kernel
theorem dX2_passDay_96 : decode cX2_passDay 96 = .ok (.if_icmp .eq 7, 3) := by decide +kernel
theorem dX2_passDay_99 : decode cX2_passDay 99 = .ok (.iconst 1, 1) := by decide +kernel
theorem dX2_passDay_100 : decode cX2_passDay 100 = .ok (.goto 4, 3) := by decide +kernel
theorem dX2_passDay_103 : decode cX2_passDay 103 = .ok (.iconst 0, 1) := by decide +kernel
theorem dX2_passDay_104 : decode cX2_passDay 104 = .ok (.ireturn, 1) := by decide +kernel
theorem dX3_init_0 : decode cX3_init 0 = .ok (.aload_n 0, 1) := by decide +kernel
theorem dX3_init_1 : decode cX3_init 1 = .ok (.invokespecial 3, 3) := by decide +kernel
theorem dX3_init_4 : decode cX3_init 4 = .ok (.return_, 1) := by decide +kernel
set_option maxRecDepth 20000 in
theorem ggX3_follow_X6_at : GoodIn wsX3_follow wsX6_at := goodIn_r _ [9, 10, 11, 12, 13, 8, 14, 15, 16, 17, 18, 19, 20, 21, 22, 23, 88, 89, 90] (by decide +kernel) (by decide +kernel)
set_option maxRecDepth 20000 in
theorem gX3_follow_X6_at : GoodIn wsX3_follow (wsV RX3 24 RX6 yX6_at wsX6_at) := goodIn_app (goodIn_of _ (by decide +kernel)) ggX3_follow_X6_at
set_option maxRecDepth 20000 in
theorem ggX3_follow_X2_everybody : GoodIn wsX3_follow wsX2_everybody := goodIn_r _ [28, 29, 75, 76, 77, 78, 79, 80, 81, 82, 83, 84, 85, 86, 87] (by decide +kernel) (by decide +kernel)
set_option maxRecDepth 20000 in
theorem gX3_follow_X2_everybody : GoodIn wsX3_follow (wsV RX3 30 RX2 yX2_everybody wsX2_everybody) := goodIn_app (goodIn_of _ (by decide +kernel)) ggX3_follow_X2_everybody
set_option maxRecDepth 20000 in
theorem ggX3_follow_X2_hireBy : GoodIn wsX3_follow wsX2_hireBy := goodIn_r _ [33, 34, 35, 36, 37, 27, 38, 29, 39, 40, 41, 22, 42, 43, 44, 45, 46, 47, 48, 49, 50, 51, 52, 53, 54, 55, 56, 57, 58, 59, 60, 61, 62, 63, 64, 65, 21, 23, 66, 67, 68, 69, 70, 71, 75, 76, 77, 78, 79, 80, 81, 82, 83, 84, 85, 86, 87] (by decide +kernel) (by decide +kernel)
set_option maxRecDepth 20000 in
theorem gX3_follow_X2_hireBy : GoodIn wsX3_follow (wsV RX3 34 RX2 yX2_hireBy wsX2_hireBy) := goodIn_app (goodIn_of _ (by decide +kernel)) ggX3_follow_X2_hireBy
theorem dX3_follow_0 : decode cX3_follow 0 = .ok (.aload_n 0, 1) := by decide +kernel
theorem dX3_follow_1 : decode cX3_follow 1 = .ok (.iconst (-1), 1) := by decide +kernel
theorem dX3_follow_2 : decode cX3_follow 2 = .ok (.putfield 9, 3) := by decide +kernel
theorem dX3_follow_5 : decode cX3_follow 5 = .ok (.aload_n 0, 1) := by decide +kernel
theorem dX3_follow_6 : decode cX3_follow 6 = .ok (.aload_n 1, 1) := by decide +kernel
theorem dX3_follow_7 : decode cX3_follow 7 = .ok (.getfield 15, 3) := by decide +kernel
theorem dX3_follow_10 : decode cX3_follow 10 = .ok (.putfield 20, 3) := by decide +kernel
theorem dX3_follow_13 : decode cX3_follow 13 = .ok (.aload_n 0, 1) := by decide +kernel
theorem dX3_follow_14 : decode cX3_follow 14 = .ok (.iconst 0, 1) := by decide +kernel
theorem dX3_follow_15 : decode cX3_follow 15 = .ok (.putfield 21, 3) := by decide +kernel
theorem dX3_follow_18 : decode cX3_follow 18 = .ok (.iconst 0, 1) := by decide +kernel
theorem dX3_follow_19 : decode cX3_follow 19 = .ok (.istore 4, 2) := by decide +kernel
theorem dX3_follow_21 : decode cX3_follow 21 = .ok (.iload 4, 2) := by decide +kernel
theorem dX3_follow_23 : decode cX3_follow 23 = .ok (.iload_n 3, 1) := by decide +kernel
theorem dX3_follow_24 : decode cX3_follow 24 = .ok (.if_icmp .ge 100, 3) := by decide +kernel
theorem dX3_follow_27 : decode cX3_follow 27 = .ok (.aload_n 2, 1) := by decide +kernel
theorem dX3_follow_28 : decode cX3_follow 28 = .ok (.iload 4, 2) := by decide +kernel
theorem dX3_follow_30 : decode cX3_follow 30 = .ok (.invokevirtual 24, 3) := by decide +kernel
theorem dX3_follow_33 : decode cX3_follow 33 = .ok (.lstore 5, 2) := by decide +kernel
theorem dX3_follow_35 : decode cX3_follow 35 = .ok (.lload 5, 2) := by decide +kernel
theorem dX3_follow_37 : decode cX3_follow 37 = .ok (.lconst 0, 1) := by decide +kernel
theorem dX3_follow_38 : decode cX3_follow 38 = .ok (.lcmp, 1) := by decide +kernel
theorem dX3_follow_39 : decode cX3_follow 39 = .ok (.ifCond .lt 18, 3) := by decide +kernel
theorem dX3_follow_42 : decode cX3_follow 42 = .ok (.lload 5, 2) := by decide +kernel
theorem dX3_follow_44 : decode cX3_follow 44 = .ok (.aload_n 1, 1) := by decide +kernel
theorem dX3_follow_45 : decode cX3_follow 45 = .ok (.invokevirtual 30, 3) := by decide +kernel
theorem dX3_follow_48 : decode cX3_follow 48 = .ok (.i2l, 1) := by decide +kernel
theorem dX3_follow_49 : decode cX3_follow 49 = .ok (.lcmp, 1) := by decide +kernel
theorem dX3_follow_50 : decode cX3_follow 50 = .ok (.ifCond .gt 7, 3) := by decide +kernel
theorem dX3_follow_53 : decode cX3_follow 53 = .ok (.iconst 1, 1) := by decide +kernel
theorem dX3_follow_54 : decode cX3_follow 54 = .ok (.goto 4, 3) := by decide +kernel
theorem dX3_follow_57 : decode cX3_follow 57 = .ok (.iconst 0, 1) := by decide +kernel
theorem dX3_follow_58 : decode cX3_follow 58 = .ok (.istore 7, 2) := by decide +kernel
theorem dX3_follow_60 : decode cX3_follow 60 = .ok (.iload 7, 2) := by decide +kernel
theorem dX3_follow_62 : decode cX3_follow 62 = .ok (.ifCond .eq 17, 3) := by decide +kernel
theorem dX3_follow_65 : decode cX3_follow 65 = .ok (.aload_n 1, 1) := by decide +kernel
theorem dX3_follow_66 : decode cX3_follow 66 = .ok (.lload 5, 2) := by decide +kernel
theorem dX3_follow_68 : decode cX3_follow 68 = .ok (.l2i, 1) := by decide +kernel
theorem dX3_follow_69 : decode cX3_follow 69 = .ok (.aload_n 0, 1) := by decide +kernel
theorem dX3_follow_70 : decode cX3_follow 70 = .ok (.getfield 20, 3) := by decide +kernel
theorem dX3_follow_73 : decode cX3_follow 73 = .ok (.invokevirtual 34, 3) := by decide +kernel
theorem dX3_follow_76 : decode cX3_follow 76 = .ok (.goto 4, 3) := by decide +kernel
theorem dX3_follow_79 : decode cX3_follow 79 = .ok (.iconst (-1), 1) := by decide +kernel
theorem dX3_follow_80 : decode cX3_follow 80 = .ok (.istore 8, 2) := by decide +kernel
theorem dX3_follow_82 : decode cX3_follow 82 = .ok (.iload 8, 2) := by decide +kernel
theorem dX3_follow_84 : decode cX3_follow 84 = .ok (.iconst (-1), 1) := by decide +kernel
theorem dX3_follow_85 : decode cX3_follow 85 = .ok (.if_icmp .ne 10, 3) := by decide +kernel
theorem dX3_follow_88 : decode cX3_follow 88 = .ok (.aload_n 0, 1) := by decide +kernel
theorem dX3_follow_89 : decode cX3_follow 89 = .ok (.iload 4, 2) := by decide +kernel
theorem dX3_follow_91 : decode cX3_follow 91 = .ok (.putfield 9, 3) := by decide +kernel
theorem dX3_follow_94 : decode cX3_follow 94 = .ok (.return_, 1) := by decide +kernel
theorem dX3_follow_95 : decode cX3_follow 95 = .ok (.aload_n 0, 1) := by decide +kernel
theorem dX3_follow_96 : decode cX3_follow 96 = .ok (.dup, 1) := by decide +kernel
theorem dX3_follow_97 : decode cX3_follow 97 = .ok (.getfield 20, 3) := by decide +kernel
theorem dX3_follow_100 : decode cX3_follow 100 = .ok (.lload 5, 2) := by decide +kernel
theorem dX3_follow_102 : decode cX3_follow 102 = .ok (.l2i, 1) := by decide +kernel
theorem dX3_follow_103 : decode cX3_follow 103 = .ok (.ior, 1) := by decide +kernel
theorem dX3_follow_104 : decode cX3_follow 104 = .ok (.putfield 20, 3) := by decide +kernel
theorem dX3_follow_107 : decode cX3_follow 107 = .ok (.aload_n 0, 1) := by decide +kernel
theorem dX3_follow_108 : decode cX3_follow 108 = .ok (.dup, 1) := by decide +kernel
theorem dX3_follow_109 : decode cX3_follow 109 = .ok (.getfield 21, 3) := by decide +kernel
theorem dX3_follow_112 : decode cX3_follow 112 = .ok (.iload 8, 2) := by decide +kernel
theorem dX3_follow_114 : decode cX3_follow 114 = .ok (.iadd, 1) := by decide +kernel
theorem dX3_follow_115 : decode cX3_follow 115 = .ok (.putfield 21, 3) := by decide +kernel
theorem dX3_follow_118 : decode cX3_follow 118 = .ok (.iinc 4 1, 3) := by decide +kernel
theorem dX3_follow_121 : decode cX3_follow 121 = .ok (.goto (-100), 3) := by decide +kernel
theorem dX3_follow_124 : decode cX3_follow 124 = .ok (.return_, 1) := by decide +kernel
theorem dX4_init_0 : decode cX4_init 0 = .ok (.aload_n 0, 1) := by decide +kernel
theorem dX4_init_1 : decode cX4_init 1 = .ok (.invokespecial 3, 3) := by decide +kernel
theorem dX4_init_4 : decode cX4_init 4 = .ok (.aload_n 0, 1) := by decide +kernel
theorem dX4_init_5 : decode cX4_init 5 = .ok (.bipush 99, 2) := by decide +kernel
theorem dX4_init_7 : decode cX4_init 7 = .ok (.newarray .int, 2) := by decide +kernel
theorem dX4_init_9 : decode cX4_init 9 = .ok (.putfield 9, 3) := by decide +kernel
theorem dX4_init_12 : decode cX4_init 12 = .ok (.aload_n 0, 1) := by decide +kernel
theorem dX4_init_13 : decode cX4_init 13 = .ok (.sipush 401, 3) := by decide +kernel
theorem dX4_init_16 : decode cX4_init 16 = .ok (.newarray .int, 2) := by decide +kernel
theorem dX4_init_18 : decode cX4_init 18 = .ok (.putfield 15, 3) := by decide +kernel
theorem dX4_init_21 : decode cX4_init 21 = .ok (.return_, 1) := by decide +kernel
set_option maxRecDepth 20000 in
theorem ggX4_collect_X2_lets : GoodIn wsX4_collect wsX2_lets := goodIn_r _ [7, 8, 9, 10, 11, 12, 13, 6, 14, 15, 16, 17, 21, 22, 23, 24, 25, 26, 27, 28, 29, 30, 31, 32, 33] (by decide +kernel) (by decide +kernel)
set_option maxRecDepth 20000 in
theorem gX4_collect_X2_lets : GoodIn wsX4_collect (wsV RX4 22 RX2 yX2_lets wsX2_lets) := goodIn_app (goodIn_of _ (by decide +kernel)) ggX4_collect_X2_lets
theorem dX4_collect_0 : decode cX4_collect 0 = .ok (.aload_n 0, 1) := by decide +kernel
theorem dX4_collect_1 : decode cX4_collect 1 = .ok (.iconst 0, 1) := by decide +kernel
theorem dX4_collect_2 : decode cX4_collect 2 = .ok (.putfield 18, 3) := by decide +kernel
theorem dX4_collect_5 : decode cX4_collect 5 = .ok (.iconst 1, 1) := by decide +kernel
theorem dX4_collect_6 : decode cX4_collect 6 = .ok (.istore_n 2, 1) := by decide +kernel
theorem dX4_collect_7 : decode cX4_collect 7 = .ok (.iload_n 2, 1) := by decide +kernel
theorem dX4_collect_8 : decode cX4_collect 8 = .ok (.bipush 99, 2) := by decide +kernel
theorem dX4_collect_10 : decode cX4_collect 10 = .ok (.if_icmp .gt 37, 3) := by decide +kernel
theorem dX4_collect_13 : decode cX4_collect 13 = .ok (.aload_n 1, 1) := by decide +kernel
theorem dX4_collect_14 : decode cX4_collect 14 = .ok (.iload_n 2, 1) := by decide +kernel
theorem dX4_collect_15 : decode cX4_collect 15 = .ok (.invokevirtual 22, 3) := by decide +kernel
theorem dX4_collect_18 : decode cX4_collect 18 = .ok (.ifCond .eq 23, 3) := by decide +kernel
theorem dX4_collect_21 : decode cX4_collect 21 = .ok (.aload_n 0, 1) := by decide +kernel
theorem dX4_collect_22 : decode cX4_collect 22 = .ok (.getfield 9, 3) := by decide +kernel
theorem dX4_collect_25 : decode cX4_collect 25 = .ok (.aload_n 0, 1) := by decide +kernel
theorem dX4_collect_26 : decode cX4_collect 26 = .ok (.getfield 18, 3) := by decide +kernel
theorem dX4_collect_29 : decode cX4_collect 29 = .ok (.iload_n 2, 1) := by decide +kernel
theorem dX4_collect_30 : decode cX4_collect 30 = .ok (.iastore, 1) := by decide +kernel
theorem dX4_collect_31 : decode cX4_collect 31 = .ok (.aload_n 0, 1) := by decide +kernel
theorem dX4_collect_32 : decode cX4_collect 32 = .ok (.dup, 1) := by decide +kernel
theorem dX4_collect_33 : decode cX4_collect 33 = .ok (.getfield 18, 3) := by decide +kernel
theorem dX4_collect_36 : decode cX4_collect 36 = .ok (.iconst 1, 1) := by decide +kernel
theorem dX4_collect_37 : decode cX4_collect 37 = .ok (.iadd, 1) := by decide +kernel
theorem dX4_collect_38 : decode cX4_collect 38 = .ok (.putfield 18, 3) := by decide +kernel
theorem dX4_collect_41 : decode cX4_collect 41 = .ok (.iinc 2 1, 3) := by decide +kernel
theorem dX4_collect_44 : decode cX4_collect 44 = .ok (.goto (-37), 3) := by decide +kernel
theorem dX4_collect_47 : decode cX4_collect 47 = .ok (.return_, 1) := by decide +kernel
set_option maxRecDepth 20000 in
theorem ggX4_leastStaying_X4_collect : GoodIn wsX4_leastStaying wsX4_collect := goodIn_r _ [12, 1, 2, 13, 14, 15, 16, 17, 18, 19, 20, 21, 22, 23, 24, 25, 26, 27, 28, 29, 30, 31, 32, 33, 34, 35, 36, 37, 38, 39, 40, 41, 42, 43] (by decide +kernel) (by decide +kernel)
set_option maxRecDepth 20000 in
theorem gX4_leastStaying_X4_collect : GoodIn wsX4_leastStaying (wsV RX4 28 RX4 yX4_collect wsX4_collect) := goodIn_app (goodIn_of _ (by decide +kernel)) ggX4_leastStaying_X4_collect
theorem dX4_leastStaying_0 : decode cX4_leastStaying 0 = .ok (.aload_n 0, 1) := by decide +kernel
theorem dX4_leastStaying_1 : decode cX4_leastStaying 1 = .ok (.aload_n 1, 1) := by decide +kernel
theorem dX4_leastStaying_2 : decode cX4_leastStaying 2 = .ok (.invokevirtual 28, 3) := by decide +kernel
theorem dX4_leastStaying_5 : decode cX4_leastStaying 5 = .ok (.iconst 0, 1) := by decide +kernel
theorem dX4_leastStaying_6 : decode cX4_leastStaying 6 = .ok (.istore_n 3, 1) := by decide +kernel
theorem dX4_leastStaying_7 : decode cX4_leastStaying 7 = .ok (.iload_n 3, 1) := by decide +kernel
theorem dX4_leastStaying_8 : decode cX4_leastStaying 8 = .ok (.iload_n 2, 1) := by decide +kernel
theorem dX4_leastStaying_9 : decode cX4_leastStaying 9 = .ok (.if_icmp .gt 70, 3) := by decide +kernel
theorem dX4_leastStaying_12 : decode cX4_leastStaying 12 = .ok (.iload_n 3, 1) := by decide +kernel
theorem dX4_leastStaying_13 : decode cX4_leastStaying 13 = .ok (.istore 4, 2) := by decide +kernel
theorem dX4_leastStaying_15 : decode cX4_leastStaying 15 = .ok (.iconst 0, 1) := by decide +kernel
theorem dX4_leastStaying_16 : decode cX4_leastStaying 16 = .ok (.istore 5, 2) := by decide +kernel
theorem dX4_leastStaying_18 : decode cX4_leastStaying 18 = .ok (.iload 5, 2) := by decide +kernel
theorem dX4_leastStaying_20 : decode cX4_leastStaying 20 = .ok (.aload_n 0, 1) := by decide +kernel
theorem dX4_leastStaying_21 : decode cX4_leastStaying 21 = .ok (.getfield 18, 3) := by decide +kernel
theorem dX4_leastStaying_24 : decode cX4_leastStaying 24 = .ok (.if_icmp .ge 41, 3) := by decide +kernel
theorem dX4_leastStaying_27 : decode cX4_leastStaying 27 = .ok (.aload_n 0, 1) := by decide +kernel
theorem dX4_leastStaying_28 : decode cX4_leastStaying 28 = .ok (.getfield 9, 3) := by decide +kernel
theorem dX4_leastStaying_31 : decode cX4_leastStaying 31 = .ok (.iload 5, 2) := by decide +kernel
theorem dX4_leastStaying_33 : decode cX4_leastStaying 33 = .ok (.iaload, 1) := by decide +kernel
theorem dX4_leastStaying_34 : decode cX4_leastStaying 34 = .ok (.iload_n 3, 1) := by decide +kernel
theorem dX4_leastStaying_35 : decode cX4_leastStaying 35 = .ok (.if_icmp .gt 30, 3) := by decide +kernel
theorem dX4_leastStaying_38 : decode cX4_leastStaying 38 = .ok (.iload 4, 2) := by decide +kernel
theorem dX4_leastStaying_40 : decode cX4_leastStaying 40 = .ok (.aload_n 0, 1) := by decide +kernel
theorem dX4_leastStaying_41 : decode cX4_leastStaying 41 = .ok (.getfield 15, 3) := by decide +kernel
theorem dX4_leastStaying_44 : decode cX4_leastStaying 44 = .ok (.iload_n 3, 1) := by decide +kernel
theorem dX4_leastStaying_45 : decode cX4_leastStaying 45 = .ok (.aload_n 0, 1) := by decide +kernel
theorem dX4_leastStaying_46 : decode cX4_leastStaying 46 = .ok (.getfield 9, 3) := by decide +kernel
theorem dX4_leastStaying_49 : decode cX4_leastStaying 49 = .ok (.iload 5, 2) := by decide +kernel
theorem dX4_leastStaying_51 : decode cX4_leastStaying 51 = .ok (.iaload, 1) := by decide +kernel
theorem dX4_leastStaying_52 : decode cX4_leastStaying 52 = .ok (.isub, 1) := by decide +kernel
theorem dX4_leastStaying_53 : decode cX4_leastStaying 53 = .ok (.iaload, 1) := by decide +kernel
theorem dX4_leastStaying_54 : decode cX4_leastStaying 54 = .ok (.invokestatic 32, 3) := by decide +kernel
theorem dX4_leastStaying_57 : decode cX4_leastStaying 57 = .ok (.istore 4, 2) := by decide +kernel
theorem dX4_leastStaying_59 : decode cX4_leastStaying 59 = .ok (.iinc 5 1, 3) := by decide +kernel
theorem dX4_leastStaying_62 : decode cX4_leastStaying 62 = .ok (.goto (-44), 3) := by decide +kernel
theorem dX4_leastStaying_65 : decode cX4_leastStaying 65 = .ok (.aload_n 0, 1) := by decide +kernel
theorem dX4_leastStaying_66 : decode cX4_leastStaying 66 = .ok (.getfield 15, 3) := by decide +kernel
theorem dX4_leastStaying_69 : decode cX4_leastStaying 69 = .ok (.iload_n 3, 1) := by decide +kernel
theorem dX4_leastStaying_70 : decode cX4_leastStaying 70 = .ok (.iload 4, 2) := by decide +kernel
theorem dX4_leastStaying_72 : decode cX4_leastStaying 72 = .ok (.iastore, 1) := by decide +kernel
theorem dX4_leastStaying_73 : decode cX4_leastStaying 73 = .ok (.iinc 3 1, 3) := by decide +kernel
theorem dX4_leastStaying_76 : decode cX4_leastStaying 76 = .ok (.goto (-69), 3) := by decide +kernel
theorem dX4_leastStaying_79 : decode cX4_leastStaying 79 = .ok (.aload_n 0, 1) := by decide +kernel
theorem dX4_leastStaying_80 : decode cX4_leastStaying 80 = .ok (.getfield 15, 3) := by decide +kernel
theorem dX4_leastStaying_83 : decode cX4_leastStaying 83 = .ok (.iload_n 2, 1) := by decide +kernel
theorem dX4_leastStaying_84 : decode cX4_leastStaying 84 = .ok (.iaload, 1) := by decide +kernel
theorem dX4_leastStaying_85 : decode cX4_leastStaying 85 = .ok (.ireturn, 1) := by decide +kernel
set_option maxRecDepth 20000 in
theorem ggX4_waysToSum_X4_collect : GoodIn wsX4_waysToSum wsX4_collect := goodIn_r _ [8, 2, 3, 9, 10, 11, 12, 13, 14, 15, 16, 17, 18, 19, 20, 21, 22, 23, 28, 29, 30, 31, 32, 33, 34, 35, 36, 37, 38, 39, 40, 41, 42, 43] (by decide +kernel) (by decide +kernel)
set_option maxRecDepth 20000 in
theorem gX4_waysToSum_X4_collect : GoodIn wsX4_waysToSum (wsV RX4 28 RX4 yX4_collect wsX4_collect) := goodIn_app (goodIn_of _ (by decide +kernel)) ggX4_waysToSum_X4_collect
set_option maxRecDepth 20000 in
theorem ggX4_waysToSum_J7_fill_53178 : GoodIn wsX4_waysToSum wsJ7_fill_53178 := goodIn_r _ [27] (by decide +kernel) (by decide +kernel)
set_option maxRecDepth 20000 in
theorem gX4_waysToSum_J7_fill_53178 : GoodIn wsX4_waysToSum (va_wsS RX4 38 yJ7_fill_53178 wsJ7_fill_53178) := goodIn_app (goodIn_of _ (by decide +kernel)) ggX4_waysToSum_J7_fill_53178
theorem dX4_waysToSum_0 : decode cX4_waysToSum 0 = .ok (.aload_n 0, 1) := by decide +kernel
theorem dX4_waysToSum_1 : decode cX4_waysToSum 1 = .ok (.aload_n 1, 1) := by decide +kernel
theorem dX4_waysToSum_2 : decode cX4_waysToSum 2 = .ok (.invokevirtual 28, 3) := by decide +kernel
theorem dX4_waysToSum_5 : decode cX4_waysToSum 5 = .ok (.aload_n 0, 1) := by decide +kernel
theorem dX4_waysToSum_6 : decode cX4_waysToSum 6 = .ok (.getfield 15, 3) := by decide +kernel
theorem dX4_waysToSum_9 : decode cX4_waysToSum 9 = .ok (.iconst 0, 1) := by decide +kernel
theorem dX4_waysToSum_10 : decode cX4_waysToSum 10 = .ok (.invokestatic 38, 3) := by decide +kernel
theorem dX4_waysToSum_13 : decode cX4_waysToSum 13 = .ok (.aload_n 0, 1) := by decide +kernel
theorem dX4_waysToSum_14 : decode cX4_waysToSum 14 = .ok (.getfield 15, 3) := by decide +kernel
theorem dX4_waysToSum_17 : decode cX4_waysToSum 17 = .ok (.iconst 0, 1) := by decide +kernel
theorem dX4_waysToSum_18 : decode cX4_waysToSum 18 = .ok (.iconst 1, 1) := by decide +kernel
theorem dX4_waysToSum_19 : decode cX4_waysToSum 19 = .ok (.iastore, 1) := by decide +kernel
theorem dX4_waysToSum_20 : decode cX4_waysToSum 20 = .ok (.iconst 0, 1) := by decide +kernel
theorem dX4_waysToSum_21 : decode cX4_waysToSum 21 = .ok (.istore_n 3, 1) := by decide +kernel
theorem dX4_waysToSum_22 : decode cX4_waysToSum 22 = .ok (.iload_n 3, 1) := by decide +kernel
theorem dX4_waysToSum_23 : decode cX4_waysToSum 23 = .ok (.aload_n 0, 1) := by decide +kernel
theorem dX4_waysToSum_24 : decode cX4_waysToSum 24 = .ok (.getfield 18, 3) := by decide +kernel
theorem dX4_waysToSum_27 : decode cX4_waysToSum 27 = .ok (.if_icmp .ge 53, 3) := by decide +kernel
theorem dX4_waysToSum_30 : decode cX4_waysToSum 30 = .ok (.aload_n 0, 1) := by decide +kernel
theorem dX4_waysToSum_31 : decode cX4_waysToSum 31 = .ok (.getfield 9, 3) := by decide +kernel
theorem dX4_waysToSum_34 : decode cX4_waysToSum 34 = .ok (.iload_n 3, 1) := by decide +kernel
theorem dX4_waysToSum_35 : decode cX4_waysToSum 35 = .ok (.iaload, 1) := by decide +kernel
theorem dX4_waysToSum_36 : decode cX4_waysToSum 36 = .ok (.istore 4, 2) := by decide +kernel
theorem dX4_waysToSum_38 : decode cX4_waysToSum 38 = .ok (.iload 4, 2) := by decide +kernel
theorem dX4_waysToSum_40 : decode cX4_waysToSum 40 = .ok (.iload_n 2, 1) := by decide +kernel
theorem dX4_waysToSum_41 : decode cX4_waysToSum 41 = .ok (.if_icmp .gt 33, 3) := by decide +kernel
theorem dX4_waysToSum_44 : decode cX4_waysToSum 44 = .ok (.aload_n 0, 1) := by decide +kernel
theorem dX4_waysToSum_45 : decode cX4_waysToSum 45 = .ok (.getfield 15, 3) := by decide +kernel
theorem dX4_waysToSum_48 : decode cX4_waysToSum 48 = .ok (.iload 4, 2) := by decide +kernel
theorem dX4_waysToSum_50 : decode cX4_waysToSum 50 = .ok (.dup2, 1) := by decide +kernel
theorem dX4_waysToSum_51 : decode cX4_waysToSum 51 = .ok (.iaload, 1) := by decide +kernel
theorem dX4_waysToSum_52 : decode cX4_waysToSum 52 = .ok (.aload_n 0, 1) := by decide +kernel
theorem dX4_waysToSum_53 : decode cX4_waysToSum 53 = .ok (.getfield 15, 3) := by decide +kernel
theorem dX4_waysToSum_56 : decode cX4_waysToSum 56 = .ok (.iload 4, 2) := by decide +kernel
theorem dX4_waysToSum_58 : decode cX4_waysToSum 58 = .ok (.aload_n 0, 1) := by decide +kernel
theorem dX4_waysToSum_59 : decode cX4_waysToSum 59 = .ok (.getfield 9, 3) := by decide +kernel
theorem dX4_waysToSum_62 : decode cX4_waysToSum 62 = .ok (.iload_n 3, 1) := by decide +kernel
theorem dX4_waysToSum_63 : decode cX4_waysToSum 63 = .ok (.iaload, 1) := by decide +kernel
theorem dX4_waysToSum_64 : decode cX4_waysToSum 64 = .ok (.isub, 1) := by decide +kernel
theorem dX4_waysToSum_65 : decode cX4_waysToSum 65 = .ok (.iaload, 1) := by decide +kernel
theorem dX4_waysToSum_66 : decode cX4_waysToSum 66 = .ok (.iadd, 1) := by decide +kernel
theorem dX4_waysToSum_67 : decode cX4_waysToSum 67 = .ok (.iastore, 1) := by decide +kernel
theorem dX4_waysToSum_68 : decode cX4_waysToSum 68 = .ok (.iinc 4 1, 3) := by decide +kernel
theorem dX4_waysToSum_71 : decode cX4_waysToSum 71 = .ok (.goto (-33), 3) := by decide +kernel
theorem dX4_waysToSum_74 : decode cX4_waysToSum 74 = .ok (.iinc 3 1, 3) := by decide +kernel
theorem dX4_waysToSum_77 : decode cX4_waysToSum 77 = .ok (.goto (-55), 3) := by decide +kernel
theorem dX4_waysToSum_80 : decode cX4_waysToSum 80 = .ok (.aload_n 0, 1) := by decide +kernel
theorem dX4_waysToSum_81 : decode cX4_waysToSum 81 = .ok (.getfield 15, 3) := by decide +kernel
theorem dX4_waysToSum_84 : decode cX4_waysToSum 84 = .ok (.iload_n 2, 1) := by decide +kernel
theorem dX4_waysToSum_85 : decode cX4_waysToSum 85 = .ok (.iaload, 1) := by decide +kernel
theorem dX4_waysToSum_86 : decode cX4_waysToSum 86 = .ok (.ireturn, 1) := by decide +kernel
theorem dX5_init_0 : decode cX5_init 0 = .ok (.aload_n 0, 1) := by decide +kernel
theorem dX5_init_1 : decode cX5_init 1 = .ok (.invokespecial 3, 3) := by decide +kernel
theorem dX5_init_4 : decode cX5_init 4 = .ok (.aload_n 0, 1) := by decide +kernel
theorem dX5_init_5 : decode cX5_init 5 = .ok (.sipush 256, 3) := by decide +kernel
theorem dX5_init_8 : decode cX5_init 8 = .ok (.newarray .int, 2) := by decide +kernel
theorem dX5_init_10 : decode cX5_init 10 = .ok (.putfield 9, 3) := by decide +kernel
theorem dX5_init_13 : decode cX5_init 13 = .ok (.aload_n 0, 1) := by decide +kernel
theorem dX5_init_14 : decode cX5_init 14 = .ok (.sipush 256, 3) := by decide +kernel
theorem dX5_init_17 : decode cX5_init 17 = .ok (.newarray .int, 2) := by decide +kernel
theorem dX5_init_19 : decode cX5_init 19 = .ok (.putfield 15, 3) := by decide +kernel
theorem dX5_init_22 : decode cX5_init 22 = .ok (.return_, 1) := by decide +kernel
set_option maxRecDepth 20000 in
theorem ggX5_reckon_X2_here : GoodIn wsX5_reckon wsX2_here := goodIn_r _ [10, 11, 12, 13, 14, 9, 15, 16, 81, 82, 83, 84, 85, 86, 87, 88, 89, 90, 91, 92, 93] (by decide +kernel) (by decide +kernel)
set_option maxRecDepth 20000 in
theorem gX5_reckon_X2_here : GoodIn wsX5_reckon (wsV RX5 18 RX2 yX2_here wsX2_here) := goodIn_app (goodIn_of _ (by decide +kernel)) ggX5_reckon_X2_here
set_option maxRecDepth 20000 in
theorem ggX5_reckon_X2_hireBy : GoodIn wsX5_reckon wsX2_hireBy := goodIn_r _ [20, 21, 22, 23, 24, 9, 25, 16, 26, 27, 28, 29, 30, 31, 32, 33, 34, 35, 36, 37, 38, 39, 40, 41, 42, 43, 44, 45, 46, 47, 48, 49, 50, 51, 52, 53, 54, 55, 56, 57, 58, 59, 60, 61, 81, 82, 83, 84, 85, 86, 87, 88, 89, 90, 91, 92, 93] (by decide +kernel) (by decide +kernel)
set_option maxRecDepth 20000 in
theorem gX5_reckon_X2_hireBy : GoodIn wsX5_reckon (wsV RX5 31 RX2 yX2_hireBy wsX2_hireBy) := goodIn_app (goodIn_of _ (by decide +kernel)) ggX5_reckon_X2_hireBy
set_option maxRecDepth 20000 in
theorem ggX5_reckon_X5_leastPrice : GoodIn wsX5_reckon wsX5_leastPrice := goodIn_r _ [66, 5, 4, 2, 67, 68, 69, 70, 71, 72, 73, 74, 75, 76, 77, 78, 79, 80] (by decide +kernel) (by decide +kernel)
set_option maxRecDepth 20000 in
theorem gX5_reckon_X5_leastPrice : GoodIn wsX5_reckon (wsV RX5 36 RX5 yX5_leastPrice wsX5_leastPrice) := goodIn_app (goodIn_of _ (by decide +kernel)) ggX5_reckon_X5_leastPrice
theorem dX5_reckon_0 : decode cX5_reckon 0 = .ok (.aload_n 0, 1) := by decide +kernel
theorem dX5_reckon_1 : decode cX5_reckon 1 = .ok (.aload_n 1, 1) := by decide +kernel
theorem dX5_reckon_2 : decode cX5_reckon 2 = .ok (.invokevirtual 18, 3) := by decide +kernel
theorem dX5_reckon_5 : decode cX5_reckon 5 = .ok (.putfield 24, 3) := by decide +kernel
theorem dX5_reckon_8 : decode cX5_reckon 8 = .ok (.aload_n 0, 1) := by decide +kernel
theorem dX5_reckon_9 : decode cX5_reckon 9 = .ok (.getfield 15, 3) := by decide +kernel
theorem dX5_reckon_12 : decode cX5_reckon 12 = .ok (.iconst 0, 1) := by decide +kernel
theorem dX5_reckon_13 : decode cX5_reckon 13 = .ok (.iconst 0, 1) := by decide +kernel
theorem dX5_reckon_14 : decode cX5_reckon 14 = .ok (.iastore, 1) := by decide +kernel
theorem dX5_reckon_15 : decode cX5_reckon 15 = .ok (.iconst 1, 1) := by decide +kernel
theorem dX5_reckon_16 : decode cX5_reckon 16 = .ok (.istore_n 2, 1) := by decide +kernel
theorem dX5_reckon_17 : decode cX5_reckon 17 = .ok (.iload_n 2, 1) := by decide +kernel
theorem dX5_reckon_18 : decode cX5_reckon 18 = .ok (.aload_n 0, 1) := by decide +kernel
theorem dX5_reckon_19 : decode cX5_reckon 19 = .ok (.getfield 24, 3) := by decide +kernel
theorem dX5_reckon_22 : decode cX5_reckon 22 = .ok (.if_icmp .gt 67, 3) := by decide +kernel
theorem dX5_reckon_25 : decode cX5_reckon 25 = .ok (.aload_n 1, 1) := by decide +kernel
theorem dX5_reckon_26 : decode cX5_reckon 26 = .ok (.iload_n 2, 1) := by decide +kernel
theorem dX5_reckon_27 : decode cX5_reckon 27 = .ok (.aload_n 1, 1) := by decide +kernel
theorem dX5_reckon_28 : decode cX5_reckon 28 = .ok (.getfield 28, 3) := by decide +kernel
theorem dX5_reckon_31 : decode cX5_reckon 31 = .ok (.invokevirtual 31, 3) := by decide +kernel
theorem dX5_reckon_34 : decode cX5_reckon 34 = .ok (.istore_n 3, 1) := by decide +kernel
theorem dX5_reckon_35 : decode cX5_reckon 35 = .ok (.aload_n 0, 1) := by decide +kernel
theorem dX5_reckon_36 : decode cX5_reckon 36 = .ok (.getfield 9, 3) := by decide +kernel
theorem dX5_reckon_39 : decode cX5_reckon 39 = .ok (.iload_n 2, 1) := by decide +kernel
theorem dX5_reckon_40 : decode cX5_reckon 40 = .ok (.iload_n 3, 1) := by decide +kernel
theorem dX5_reckon_41 : decode cX5_reckon 41 = .ok (.iconst (-1), 1) := by decide +kernel
theorem dX5_reckon_42 : decode cX5_reckon 42 = .ok (.if_icmp .ne 8, 3) := by decide +kernel
theorem dX5_reckon_45 : decode cX5_reckon 45 = .ok (.ldc 35, 2) := by decide +kernel
theorem dX5_reckon_47 : decode cX5_reckon 47 = .ok (.goto 8, 3) := by decide +kernel
theorem dX5_reckon_50 : decode cX5_reckon 50 = .ok (.sipush 1000, 3) := by decide +kernel
theorem dX5_reckon_53 : decode cX5_reckon 53 = .ok (.iload_n 3, 1) := by decide +kernel
theorem dX5_reckon_54 : decode cX5_reckon 54 = .ok (.iadd, 1) := by decide +kernel
theorem dX5_reckon_55 : decode cX5_reckon 55 = .ok (.iastore, 1) := by decide +kernel
theorem dX5_reckon_56 : decode cX5_reckon 56 = .ok (.aload_n 0, 1) := by decide +kernel
theorem dX5_reckon_57 : decode cX5_reckon 57 = .ok (.getfield 15, 3) := by decide +kernel
theorem dX5_reckon_60 : decode cX5_reckon 60 = .ok (.iload_n 2, 1) := by decide +kernel
theorem dX5_reckon_61 : decode cX5_reckon 61 = .ok (.iload_n 2, 1) := by decide +kernel
theorem dX5_reckon_62 : decode cX5_reckon 62 = .ok (.aload_n 0, 1) := by decide +kernel
theorem dX5_reckon_63 : decode cX5_reckon 63 = .ok (.getfield 24, 3) := by decide +kernel
theorem dX5_reckon_66 : decode cX5_reckon 66 = .ok (.iconst (-1), 1) := by decide +kernel
theorem dX5_reckon_67 : decode cX5_reckon 67 = .ok (.ixor, 1) := by decide +kernel
theorem dX5_reckon_68 : decode cX5_reckon 68 = .ok (.iand, 1) := by decide +kernel
theorem dX5_reckon_69 : decode cX5_reckon 69 = .ok (.ifCond .ne 11, 3) := by decide +kernel
theorem dX5_reckon_72 : decode cX5_reckon 72 = .ok (.aload_n 0, 1) := by decide +kernel
theorem dX5_reckon_73 : decode cX5_reckon 73 = .ok (.iload_n 2, 1) := by decide +kernel
theorem dX5_reckon_74 : decode cX5_reckon 74 = .ok (.invokevirtual 36, 3) := by decide +kernel
theorem dX5_reckon_77 : decode cX5_reckon 77 = .ok (.goto 5, 3) := by decide +kernel
theorem dX5_reckon_80 : decode cX5_reckon 80 = .ok (.ldc 35, 2) := by decide +kernel
theorem dX5_reckon_82 : decode cX5_reckon 82 = .ok (.iastore, 1) := by decide +kernel
theorem dX5_reckon_83 : decode cX5_reckon 83 = .ok (.iinc 2 1, 3) := by decide +kernel
theorem dX5_reckon_86 : decode cX5_reckon 86 = .ok (.goto (-69), 3) := by decide +kernel
theorem dX5_reckon_89 : decode cX5_reckon 89 = .ok (.return_, 1) := by decide +kernel
set_option maxRecDepth 20000 in
theorem ggX5_leastPrice_J6_bitCount_0f7a4 : GoodIn wsX5_leastPrice wsJ6_bitCount_0f7a4 := goodIn_r _ [11, 12, 13, 14] (by decide +kernel) (by decide +kernel)
set_option maxRecDepth 20000 in
theorem gX5_leastPrice_J6_bitCount_0f7a4 : GoodIn wsX5_leastPrice (va_wsS RX5 40 yJ6_bitCount_0f7a4 wsJ6_bitCount_0f7a4) := goodIn_app (goodIn_of _ (by decide +kernel)) ggX5_leastPrice_J6_bitCount_0f7a4
theorem dX5_leastPrice_0 : decode cX5_leastPrice 0 = .ok (.iload_n 1, 1) := by decide +kernel
theorem dX5_leastPrice_1 : decode cX5_leastPrice 1 = .ok (.iload_n 1, 1) := by decide +kernel
theorem dX5_leastPrice_2 : decode cX5_leastPrice 2 = .ok (.ineg, 1) := by decide +kernel
theorem dX5_leastPrice_3 : decode cX5_leastPrice 3 = .ok (.iand, 1) := by decide +kernel
theorem dX5_leastPrice_4 : decode cX5_leastPrice 4 = .ok (.istore_n 2, 1) := by decide +kernel
theorem dX5_leastPrice_5 : decode cX5_leastPrice 5 = .ok (.iconst 1, 1) := by decide +kernel
theorem dX5_leastPrice_6 : decode cX5_leastPrice 6 = .ok (.iload_n 1, 1) := by decide +kernel
theorem dX5_leastPrice_7 : decode cX5_leastPrice 7 = .ok (.invokestatic 40, 3) := by decide +kernel
theorem dX5_leastPrice_10 : decode cX5_leastPrice 10 = .ok (.iconst 1, 1) := by decide +kernel
theorem dX5_leastPrice_11 : decode cX5_leastPrice 11 = .ok (.isub, 1) := by decide +kernel
theorem dX5_leastPrice_12 : decode cX5_leastPrice 12 = .ok (.ishl, 1) := by decide +kernel
theorem dX5_leastPrice_13 : decode cX5_leastPrice 13 = .ok (.istore_n 3, 1) := by decide +kernel
theorem dX5_leastPrice_14 : decode cX5_leastPrice 14 = .ok (.ldc 35, 2) := by decide +kernel
theorem dX5_leastPrice_16 : decode cX5_leastPrice 16 = .ok (.istore 4, 2) := by decide +kernel
theorem dX5_leastPrice_18 : decode cX5_leastPrice 18 = .ok (.iload_n 1, 1) := by decide +kernel
theorem dX5_leastPrice_19 : decode cX5_leastPrice 19 = .ok (.istore 5, 2) := by decide +kernel
theorem dX5_leastPrice_21 : decode cX5_leastPrice 21 = .ok (.iconst 0, 1) := by decide +kernel
theorem dX5_leastPrice_22 : decode cX5_leastPrice 22 = .ok (.istore 6, 2) := by decide +kernel
theorem dX5_leastPrice_24 : decode cX5_leastPrice 24 = .ok (.iload 6, 2) := by decide +kernel
theorem dX5_leastPrice_26 : decode cX5_leastPrice 26 = .ok (.iload_n 3, 1) := by decide +kernel
theorem dX5_leastPrice_27 : decode cX5_leastPrice 27 = .ok (.if_icmp .ge 43, 3) := by decide +kernel
theorem dX5_leastPrice_30 : decode cX5_leastPrice 30 = .ok (.iload 4, 2) := by decide +kernel
theorem dX5_leastPrice_32 : decode cX5_leastPrice 32 = .ok (.aload_n 0, 1) := by decide +kernel
theorem dX5_leastPrice_33 : decode cX5_leastPrice 33 = .ok (.getfield 9, 3) := by decide +kernel
theorem dX5_leastPrice_36 : decode cX5_leastPrice 36 = .ok (.iload 5, 2) := by decide +kernel
theorem dX5_leastPrice_38 : decode cX5_leastPrice 38 = .ok (.iaload, 1) := by decide +kernel
theorem dX5_leastPrice_39 : decode cX5_leastPrice 39 = .ok (.aload_n 0, 1) := by decide +kernel
theorem dX5_leastPrice_40 : decode cX5_leastPrice 40 = .ok (.getfield 15, 3) := by decide +kernel
theorem dX5_leastPrice_43 : decode cX5_leastPrice 43 = .ok (.iload_n 1, 1) := by decide +kernel
theorem dX5_leastPrice_44 : decode cX5_leastPrice 44 = .ok (.iload 5, 2) := by decide +kernel
theorem dX5_leastPrice_46 : decode cX5_leastPrice 46 = .ok (.ixor, 1) := by decide +kernel
theorem dX5_leastPrice_47 : decode cX5_leastPrice 47 = .ok (.iaload, 1) := by decide +kernel
theorem dX5_leastPrice_48 : decode cX5_leastPrice 48 = .ok (.iadd, 1) := by decide +kernel
theorem dX5_leastPrice_49 : decode cX5_leastPrice 49 = .ok (.invokestatic 45, 3) := by decide +kernel
theorem dX5_leastPrice_52 : decode cX5_leastPrice 52 = .ok (.istore 4, 2) := by decide +kernel
theorem dX5_leastPrice_54 : decode cX5_leastPrice 54 = .ok (.iload 5, 2) := by decide +kernel
theorem dX5_leastPrice_56 : decode cX5_leastPrice 56 = .ok (.iload_n 2, 1) := by decide +kernel
theorem dX5_leastPrice_57 : decode cX5_leastPrice 57 = .ok (.isub, 1) := by decide +kernel
theorem dX5_leastPrice_58 : decode cX5_leastPrice 58 = .ok (.iconst 1, 1) := by decide +kernel
theorem dX5_leastPrice_59 : decode cX5_leastPrice 59 = .ok (.isub, 1) := by decide +kernel
theorem dX5_leastPrice_60 : decode cX5_leastPrice 60 = .ok (.iload_n 1, 1) := by decide +kernel
theorem dX5_leastPrice_61 : decode cX5_leastPrice 61 = .ok (.iand, 1) := by decide +kernel
theorem dX5_leastPrice_62 : decode cX5_leastPrice 62 = .ok (.istore 5, 2) := by decide +kernel
theorem dX5_leastPrice_64 : decode cX5_leastPrice 64 = .ok (.iinc 6 1, 3) := by decide +kernel
theorem dX5_leastPrice_67 : decode cX5_leastPrice 67 = .ok (.goto (-43), 3) := by decide +kernel
theorem dX5_leastPrice_70 : decode cX5_leastPrice 70 = .ok (.iload 4, 2) := by decide +kernel
theorem dX5_leastPrice_72 : decode cX5_leastPrice 72 = .ok (.ireturn, 1) := by decide +kernel
theorem dX5_price_0 : decode cX5_price 0 = .ok (.aload_n 0, 1) := by decide +kernel
theorem dX5_price_1 : decode cX5_price 1 = .ok (.getfield 15, 3) := by decide +kernel
theorem dX5_price_4 : decode cX5_price 4 = .ok (.aload_n 0, 1) := by decide +kernel
theorem dX5_price_5 : decode cX5_price 5 = .ok (.getfield 24, 3) := by decide +kernel
theorem dX5_price_8 : decode cX5_price 8 = .ok (.iaload, 1) := by decide +kernel
theorem dX5_price_9 : decode cX5_price 9 = .ok (.ireturn, 1) := by decide +kernel
theorem dX5_found_0 : decode cX5_found 0 = .ok (.aload_n 0, 1) := by decide +kernel
theorem dX5_found_1 : decode cX5_found 1 = .ok (.getfield 15, 3) := by decide +kernel
theorem dX5_found_4 : decode cX5_found 4 = .ok (.aload_n 0, 1) := by decide +kernel
theorem dX5_found_5 : decode cX5_found 5 = .ok (.getfield 24, 3) := by decide +kernel
theorem dX5_found_8 : decode cX5_found 8 = .ok (.iaload, 1) := by decide +kernel
theorem dX5_found_9 : decode cX5_found 9 = .ok (.ldc 35, 2) := by decide +kernel
theorem dX5_found_11 : decode cX5_found 11 = .ok (.if_icmp .ge 7, 3) := by decide +kernel
theorem dX5_found_14 : decode cX5_found 14 = .ok (.iconst 1, 1) := by decide +kernel
theorem dX5_found_15 : decode cX5_found 15 = .ok (.goto 4, 3) := by decide +kernel
theorem dX5_found_18 : decode cX5_found 18 = .ok (.iconst 0, 1) := by decide +kernel
theorem dX5_found_19 : decode cX5_found 19 = .ok (.ireturn, 1) := by decide +kernel
set_option maxRecDepth 20000 in
theorem ggX5_crossings_X5_found : GoodIn wsX5_crossings wsX5_found := goodIn_r _ [7, 1, 2, 8, 9, 10, 11] (by decide +kernel) (by decide +kernel)
set_option maxRecDepth 20000 in
theorem gX5_crossings_X5_found : GoodIn wsX5_crossings (wsV RX5 50 RX5 yX5_found wsX5_found) := goodIn_app (goodIn_of _ (by decide +kernel)) ggX5_crossings_X5_found
theorem dX5_crossings_0 : decode cX5_crossings 0 = .ok (.aload_n 0, 1) := by decide +kernel
theorem dX5_crossings_1 : decode cX5_crossings 1 = .ok (.invokevirtual 50, 3) := by decide +kernel
theorem dX5_crossings_4 : decode cX5_crossings 4 = .ok (.ifCond .eq 19, 3) := by decide +kernel
theorem dX5_crossings_7 : decode cX5_crossings 7 = .ok (.aload_n 0, 1) := by decide +kernel
theorem dX5_crossings_8 : decode cX5_crossings 8 = .ok (.getfield 15, 3) := by decide +kernel
theorem dX5_crossings_11 : decode cX5_crossings 11 = .ok (.aload_n 0, 1) := by decide +kernel
theorem dX5_crossings_12 : decode cX5_crossings 12 = .ok (.getfield 24, 3) := by decide +kernel
theorem dX5_crossings_15 : decode cX5_crossings 15 = .ok (.iaload, 1) := by decide +kernel
theorem dX5_crossings_16 : decode cX5_crossings 16 = .ok (.sipush 1000, 3) := by decide +kernel
theorem dX5_crossings_19 : decode cX5_crossings 19 = .ok (.idiv, 1) := by decide +kernel
theorem dX5_crossings_20 : decode cX5_crossings 20 = .ok (.goto 4, 3) := by decide +kernel
theorem dX5_crossings_23 : decode cX5_crossings 23 = .ok (.iconst (-1), 1) := by decide +kernel
theorem dX5_crossings_24 : decode cX5_crossings 24 = .ok (.ireturn, 1) := by decide +kernel
set_option maxRecDepth 20000 in
theorem ggX5_hermits_X5_found : GoodIn wsX5_hermits wsX5_found := goodIn_r _ [7, 1, 2, 8, 9, 10, 11] (by decide +kernel) (by decide +kernel)
set_option maxRecDepth 20000 in
theorem gX5_hermits_X5_found : GoodIn wsX5_hermits (wsV RX5 50 RX5 yX5_found wsX5_found) := goodIn_app (goodIn_of _ (by decide +kernel)) ggX5_hermits_X5_found
theorem dX5_hermits_0 : decode cX5_hermits 0 = .ok (.aload_n 0, 1) := by decide +kernel
theorem dX5_hermits_1 : decode cX5_hermits 1 = .ok (.invokevirtual 50, 3) := by decide +kernel
theorem dX5_hermits_4 : decode cX5_hermits 4 = .ok (.ifCond .eq 19, 3) := by decide +kernel
theorem dX5_hermits_7 : decode cX5_hermits 7 = .ok (.aload_n 0, 1) := by decide +kernel
theorem dX5_hermits_8 : decode cX5_hermits 8 = .ok (.getfield 15, 3) := by decide +kernel
theorem dX5_hermits_11 : decode cX5_hermits 11 = .ok (.aload_n 0, 1) := by decide +kernel
theorem dX5_hermits_12 : decode cX5_hermits 12 = .ok (.getfield 24, 3) := by decide +kernel
theorem dX5_hermits_15 : decode cX5_hermits 15 = .ok (.iaload, 1) := by decide +kernel
theorem dX5_hermits_16 : decode cX5_hermits 16 = .ok (.sipush 1000, 3) := by decide +kernel
theorem dX5_hermits_19 : decode cX5_hermits 19 = .ok (.irem, 1) := by decide +kernel
theorem dX5_hermits_20 : decode cX5_hermits 20 = .ok (.goto 4, 3) := by decide +kernel
theorem dX5_hermits_23 : decode cX5_hermits 23 = .ok (.iconst (-1), 1) := by decide +kernel
theorem dX5_hermits_24 : decode cX5_hermits 24 = .ok (.ireturn, 1) := by decide +kernel
set_option maxRecDepth 20000 in
theorem ggX5_groupAt_X5_firstGroup : GoodIn wsX5_groupAt wsX5_firstGroup := goodIn_r _ [6, 7, 8, 9, 10, 11] (by decide +kernel) (by decide +kernel)
set_option maxRecDepth 20000 in
theorem gX5_groupAt_X5_firstGroup : GoodIn wsX5_groupAt (wsV RX5 54 RX5 yX5_firstGroup wsX5_firstGroup) := goodIn_app (goodIn_of _ (by decide +kernel)) ggX5_groupAt_X5_firstGroup
theorem dX5_groupAt_0 : decode cX5_groupAt 0 = .ok (.aload_n 0, 1) := by decide +kernel
theorem dX5_groupAt_1 : decode cX5_groupAt 1 = .ok (.getfield 24, 3) := by decide +kernel
theorem dX5_groupAt_4 : decode cX5_groupAt 4 = .ok (.istore_n 2, 1) := by decide +kernel
theorem dX5_groupAt_5 : decode cX5_groupAt 5 = .ok (.iconst (-1), 1) := by decide +kernel
theorem dX5_groupAt_6 : decode cX5_groupAt 6 = .ok (.istore_n 3, 1) := by decide +kernel
theorem dX5_groupAt_7 : decode cX5_groupAt 7 = .ok (.iconst 0, 1) := by decide +kernel
theorem dX5_groupAt_8 : decode cX5_groupAt 8 = .ok (.istore 4, 2) := by decide +kernel
theorem dX5_groupAt_10 : decode cX5_groupAt 10 = .ok (.iload 4, 2) := by decide +kernel
theorem dX5_groupAt_12 : decode cX5_groupAt 12 = .ok (.iload_n 1, 1) := by decide +kernel
theorem dX5_groupAt_13 : decode cX5_groupAt 13 = .ok (.if_icmp .gt 25, 3) := by decide +kernel
theorem dX5_groupAt_16 : decode cX5_groupAt 16 = .ok (.iload_n 2, 1) := by decide +kernel
theorem dX5_groupAt_17 : decode cX5_groupAt 17 = .ok (.ifCond .eq 21, 3) := by decide +kernel
theorem dX5_groupAt_20 : decode cX5_groupAt 20 = .ok (.aload_n 0, 1) := by decide +kernel
theorem dX5_groupAt_21 : decode cX5_groupAt 21 = .ok (.iload_n 2, 1) := by decide +kernel
theorem dX5_groupAt_22 : decode cX5_groupAt 22 = .ok (.invokevirtual 54, 3) := by decide +kernel
theorem dX5_groupAt_25 : decode cX5_groupAt 25 = .ok (.istore_n 3, 1) := by decide +kernel
theorem dX5_groupAt_26 : decode cX5_groupAt 26 = .ok (.iload_n 2, 1) := by decide +kernel
theorem dX5_groupAt_27 : decode cX5_groupAt 27 = .ok (.iload_n 3, 1) := by decide +kernel
theorem dX5_groupAt_28 : decode cX5_groupAt 28 = .ok (.iconst (-1), 1) := by decide +kernel
theorem dX5_groupAt_29 : decode cX5_groupAt 29 = .ok (.ixor, 1) := by decide +kernel
theorem dX5_groupAt_30 : decode cX5_groupAt 30 = .ok (.iand, 1) := by decide +kernel
theorem dX5_groupAt_31 : decode cX5_groupAt 31 = .ok (.istore_n 2, 1) := by decide +kernel
theorem dX5_groupAt_32 : decode cX5_groupAt 32 = .ok (.iinc 4 1, 3) := by decide +kernel
theorem dX5_groupAt_35 : decode cX5_groupAt 35 = .ok (.goto (-25), 3) := by decide +kernel
theorem dX5_groupAt_38 : decode cX5_groupAt 38 = .ok (.iload_n 3, 1) := by decide +kernel
theorem dX5_groupAt_39 : decode cX5_groupAt 39 = .ok (.ireturn, 1) := by decide +kernel
theorem dX5_firstGroup_0 : decode cX5_firstGroup 0 = .ok (.iconst 1, 1) := by decide +kernel
theorem dX5_firstGroup_1 : decode cX5_firstGroup 1 = .ok (.istore_n 2, 1) := by decide +kernel
theorem dX5_firstGroup_2 : decode cX5_firstGroup 2 = .ok (.iload_n 2, 1) := by decide +kernel
theorem dX5_firstGroup_3 : decode cX5_firstGroup 3 = .ok (.iload_n 1, 1) := by decide +kernel
theorem dX5_firstGroup_4 : decode cX5_firstGroup 4 = .ok (.if_icmp .ge 43, 3) := by decide +kernel
theorem dX5_firstGroup_7 : decode cX5_firstGroup 7 = .ok (.iload_n 2, 1) := by decide +kernel
theorem dX5_firstGroup_8 : decode cX5_firstGroup 8 = .ok (.iload_n 1, 1) := by decide +kernel
theorem dX5_firstGroup_9 : decode cX5_firstGroup 9 = .ok (.iconst (-1), 1) := by decide +kernel
theorem dX5_firstGroup_10 : decode cX5_firstGroup 10 = .ok (.ixor, 1) := by decide +kernel
theorem dX5_firstGroup_11 : decode cX5_firstGroup 11 = .ok (.iand, 1) := by decide +kernel
theorem dX5_firstGroup_12 : decode cX5_firstGroup 12 = .ok (.ifCond .ne 29, 3) := by decide +kernel
theorem dX5_firstGroup_15 : decode cX5_firstGroup 15 = .ok (.aload_n 0, 1) := by decide +kernel
theorem dX5_firstGroup_16 : decode cX5_firstGroup 16 = .ok (.getfield 9, 3) := by decide +kernel
theorem dX5_firstGroup_19 : decode cX5_firstGroup 19 = .ok (.iload_n 2, 1) := by decide +kernel
theorem dX5_firstGroup_20 : decode cX5_firstGroup 20 = .ok (.iaload, 1) := by decide +kernel
theorem dX5_firstGroup_21 : decode cX5_firstGroup 21 = .ok (.aload_n 0, 1) := by decide +kernel
theorem dX5_firstGroup_22 : decode cX5_firstGroup 22 = .ok (.getfield 15, 3) := by decide +kernel
theorem dX5_firstGroup_25 : decode cX5_firstGroup 25 = .ok (.iload_n 1, 1) := by decide +kernel
theorem dX5_firstGroup_26 : decode cX5_firstGroup 26 = .ok (.iload_n 2, 1) := by decide +kernel
theorem dX5_firstGroup_27 : decode cX5_firstGroup 27 = .ok (.ixor, 1) := by decide +kernel
theorem dX5_firstGroup_28 : decode cX5_firstGroup 28 = .ok (.iaload, 1) := by decide +kernel
theorem dX5_firstGroup_29 : decode cX5_firstGroup 29 = .ok (.iadd, 1) := by decide +kernel
theorem dX5_firstGroup_30 : decode cX5_firstGroup 30 = .ok (.aload_n 0, 1) := by decide +kernel
theorem dX5_firstGroup_31 : decode cX5_firstGroup 31 = .ok (.getfield 15, 3) := by decide +kernel
theorem dX5_firstGroup_34 : decode cX5_firstGroup 34 = .ok (.iload_n 1, 1) := by decide +kernel
theorem dX5_firstGroup_35 : decode cX5_firstGroup 35 = .ok (.iaload, 1) := by decide +kernel
theorem dX5_firstGroup_36 : decode cX5_firstGroup 36 = .ok (.if_icmp .ne 5, 3) := by decide +kernel
theorem dX5_firstGroup_39 : decode cX5_firstGroup 39 = .ok (.iload_n 2, 1) := by decide +kernel
theorem dX5_firstGroup_40 : decode cX5_firstGroup 40 = .ok (.ireturn, 1) := by decide +kernel
theorem dX5_firstGroup_41 : decode cX5_firstGroup 41 = .ok (.iinc 2 1, 3) := by decide +kernel
theorem dX5_firstGroup_44 : decode cX5_firstGroup 44 = .ok (.goto (-42), 3) := by decide +kernel
theorem dX5_firstGroup_47 : decode cX5_firstGroup 47 = .ok (.iload_n 1, 1) := by decide +kernel
theorem dX5_firstGroup_48 : decode cX5_firstGroup 48 = .ok (.ireturn, 1) := by decide +kernel
theorem dX6_init_0 : decode cX6_init 0 = .ok (.aload_n 0, 1) := by decide +kernel
theorem dX6_init_1 : decode cX6_init 1 = .ok (.invokespecial 3, 3) := by decide +kernel
theorem dX6_init_4 : decode cX6_init 4 = .ok (.aload_n 0, 1) := by decide +kernel
theorem dX6_init_5 : decode cX6_init 5 = .ok (.bipush 40, 2) := by decide +kernel
theorem dX6_init_7 : decode cX6_init 7 = .ok (.newarray .long, 2) := by decide +kernel
theorem dX6_init_9 : decode cX6_init 9 = .ok (.putfield 9, 3) := by decide +kernel
theorem dX6_init_12 : decode cX6_init 12 = .ok (.aload_n 0, 1) := by decide +kernel
theorem dX6_init_13 : decode cX6_init 13 = .ok (.iconst (-1), 1) := by decide +kernel
theorem dX6_init_14 : decode cX6_init 14 = .ok (.putfield 15, 3) := by decide +kernel
theorem dX6_init_17 : decode cX6_init 17 = .ok (.return_, 1) := by decide +kernel
set_option maxRecDepth 20000 in
theorem ggX6_hasRow_X8_within : GoodIn wsX6_hasRow wsX8_within := goodIn_r _ [4] (by decide +kernel) (by decide +kernel)
set_option maxRecDepth 20000 in
theorem gX6_hasRow_X8_within_n19 : GoodIn wsX6_hasRow (wsX8_within) := ggX6_hasRow_X8_within
theorem dX6_hasRow_0 : decode cX6_hasRow 0 = .ok (.aload_n 0, 1) := by decide +kernel
theorem dX6_hasRow_1 : decode cX6_hasRow 1 = .ok (.getfield 15, 3) := by decide +kernel
theorem dX6_hasRow_4 : decode cX6_hasRow 4 = .ok (.iconst 0, 1) := by decide +kernel
theorem dX6_hasRow_5 : decode cX6_hasRow 5 = .ok (.iconst 4, 1) := by decide +kernel
theorem dX6_hasRow_6 : decode cX6_hasRow 6 = .ok (.invokestatic 19, 3) := by decide +kernel
theorem dX6_hasRow_9 : decode cX6_hasRow 9 = .ok (.ireturn, 1) := by decide +kernel
theorem dX6_hasParty_0 : decode cX6_hasParty 0 = .ok (.aload_n 0, 1) := by decide +kernel
theorem dX6_hasParty_1 : decode cX6_hasParty 1 = .ok (.getfield 15, 3) := by decide +kernel
theorem dX6_hasParty_4 : decode cX6_hasParty 4 = .ok (.bipush 10, 2) := by decide +kernel
theorem dX6_hasParty_6 : decode cX6_hasParty 6 = .ok (.if_icmp .lt 7, 3) := by decide +kernel
theorem dX6_hasParty_9 : decode cX6_hasParty 9 = .ok (.iconst 1, 1) := by decide +kernel
theorem dX6_hasParty_10 : decode cX6_hasParty 10 = .ok (.goto 4, 3) := by decide +kernel
theorem dX6_hasParty_13 : decode cX6_hasParty 13 = .ok (.iconst 0, 1) := by decide +kernel
theorem dX6_hasParty_14 : decode cX6_hasParty 14 = .ok (.ireturn, 1) := by decide +kernel
theorem dX6_partyNumber_0 : decode cX6_partyNumber 0 = .ok (.aload_n 0, 1) := by decide +kernel
theorem dX6_partyNumber_1 : decode cX6_partyNumber 1 = .ok (.getfield 15, 3) := by decide +kernel
theorem dX6_partyNumber_4 : decode cX6_partyNumber 4 = .ok (.bipush 10, 2) := by decide +kernel
theorem dX6_partyNumber_6 : decode cX6_partyNumber 6 = .ok (.isub, 1) := by decide +kernel
theorem dX6_partyNumber_7 : decode cX6_partyNumber 7 = .ok (.ireturn, 1) := by decide +kernel
set_option maxRecDepth 20000 in
theorem ggX6_takeRow_J7_fill_d0a16 : GoodIn wsX6_takeRow wsJ7_fill_d0a16 := goodIn_r _ [7] (by decide +kernel) (by decide +kernel)
set_option maxRecDepth 20000 in
theorem gX6_takeRow_J7_fill_d0a16 : GoodIn wsX6_takeRow (va_wsS RX6 23 yJ7_fill_d0a16 wsJ7_fill_d0a16) := goodIn_app (goodIn_of _ (by decide +kernel)) ggX6_takeRow_J7_fill_d0a16
theorem dX6_takeRow_0 : decode cX6_takeRow 0 = .ok (.aload_n 0, 1) := by decide +kernel
theorem dX6_takeRow_1 : decode cX6_takeRow 1 = .ok (.getfield 9, 3) := by decide +kernel
theorem dX6_takeRow_4 : decode cX6_takeRow 4 = .ok (.lconst 0, 1) := by decide +kernel
theorem dX6_takeRow_5 : decode cX6_takeRow 5 = .ok (.invokestatic 23, 3) := by decide +kernel
theorem dX6_takeRow_8 : decode cX6_takeRow 8 = .ok (.aload_n 0, 1) := by decide +kernel
theorem dX6_takeRow_9 : decode cX6_takeRow 9 = .ok (.iload_n 1, 1) := by decide +kernel
theorem dX6_takeRow_10 : decode cX6_takeRow 10 = .ok (.putfield 15, 3) := by decide +kernel
theorem dX6_takeRow_13 : decode cX6_takeRow 13 = .ok (.aload_n 0, 1) := by decide +kernel
theorem dX6_takeRow_14 : decode cX6_takeRow 14 = .ok (.iload_n 2, 1) := by decide +kernel
theorem dX6_takeRow_15 : decode cX6_takeRow 15 = .ok (.putfield 29, 3) := by decide +kernel
theorem dX6_takeRow_18 : decode cX6_takeRow 18 = .ok (.return_, 1) := by decide +kernel
theorem dX6_takeParty_0 : decode cX6_takeParty 0 = .ok (.aload_n 0, 1) := by decide +kernel
theorem dX6_takeParty_1 : decode cX6_takeParty 1 = .ok (.iload_n 1, 1) := by decide +kernel
theorem dX6_takeParty_2 : decode cX6_takeParty 2 = .ok (.iconst (-1), 1) := by decide +kernel
theorem dX6_takeParty_3 : decode cX6_takeParty 3 = .ok (.if_icmp .ne 7, 3) := by decide +kernel
theorem dX6_takeParty_6 : decode cX6_takeParty 6 = .ok (.iconst (-1), 1) := by decide +kernel
theorem dX6_takeParty_7 : decode cX6_takeParty 7 = .ok (.goto 7, 3) := by decide +kernel
theorem dX6_takeParty_10 : decode cX6_takeParty 10 = .ok (.bipush 10, 2) := by decide +kernel
theorem dX6_takeParty_12 : decode cX6_takeParty 12 = .ok (.iload_n 1, 1) := by decide +kernel
theorem dX6_takeParty_13 : decode cX6_takeParty 13 = .ok (.iadd, 1) := by decide +kernel
theorem dX6_takeParty_14 : decode cX6_takeParty 14 = .ok (.putfield 15, 3) := by decide +kernel
theorem dX6_takeParty_17 : decode cX6_takeParty 17 = .ok (.return_, 1) := by decide +kernel
set_option maxRecDepth 20000 in
theorem ggX6_hasPlaces_X6_hasRow : GoodIn wsX6_hasPlaces wsX6_hasRow := goodIn_r _ [6, 7, 8, 9, 10, 11, 12, 13] (by decide +kernel) (by decide +kernel)
set_option maxRecDepth 20000 in
theorem gX6_hasPlaces_X6_hasRow : GoodIn wsX6_hasPlaces (wsV RX6 32 RX6 yX6_hasRow wsX6_hasRow) := goodIn_app (goodIn_of _ (by decide +kernel)) ggX6_hasPlaces_X6_hasRow
set_option maxRecDepth 20000 in
theorem ggX6_hasPlaces_X8_within : GoodIn wsX6_hasPlaces wsX8_within := goodIn_r _ [10] (by decide +kernel) (by decide +kernel)
set_option maxRecDepth 20000 in
theorem gX6_hasPlaces_X8_within_n19 : GoodIn wsX6_hasPlaces (wsX8_within) := ggX6_hasPlaces_X8_within
theorem dX6_hasPlaces_0 : decode cX6_hasPlaces 0 = .ok (.aload_n 0, 1) := by decide +kernel
theorem dX6_hasPlaces_1 : decode cX6_hasPlaces 1 = .ok (.invokevirtual 32, 3) := by decide +kernel
theorem dX6_hasPlaces_4 : decode cX6_hasPlaces 4 = .ok (.ifCond .eq 33, 3) := by decide +kernel
theorem dX6_hasPlaces_7 : decode cX6_hasPlaces 7 = .ok (.iload_n 2, 1) := by decide +kernel
theorem dX6_hasPlaces_8 : decode cX6_hasPlaces 8 = .ok (.iconst 0, 1) := by decide +kernel
theorem dX6_hasPlaces_9 : decode cX6_hasPlaces 9 = .ok (.aload_n 0, 1) := by decide +kernel
theorem dX6_hasPlaces_10 : decode cX6_hasPlaces 10 = .ok (.getfield 29, 3) := by decide +kernel
theorem dX6_hasPlaces_13 : decode cX6_hasPlaces 13 = .ok (.invokestatic 19, 3) := by decide +kernel
theorem dX6_hasPlaces_16 : decode cX6_hasPlaces 16 = .ok (.ifCond .eq 21, 3) := by decide +kernel
theorem dX6_hasPlaces_19 : decode cX6_hasPlaces 19 = .ok (.iload_n 1, 1) := by decide +kernel
theorem dX6_hasPlaces_20 : decode cX6_hasPlaces 20 = .ok (.iconst 0, 1) := by decide +kernel
theorem dX6_hasPlaces_21 : decode cX6_hasPlaces 21 = .ok (.aload_n 0, 1) := by decide +kernel
theorem dX6_hasPlaces_22 : decode cX6_hasPlaces 22 = .ok (.getfield 29, 3) := by decide +kernel
theorem dX6_hasPlaces_25 : decode cX6_hasPlaces 25 = .ok (.iload_n 2, 1) := by decide +kernel
theorem dX6_hasPlaces_26 : decode cX6_hasPlaces 26 = .ok (.isub, 1) := by decide +kernel
theorem dX6_hasPlaces_27 : decode cX6_hasPlaces 27 = .ok (.invokestatic 19, 3) := by decide +kernel
theorem dX6_hasPlaces_30 : decode cX6_hasPlaces 30 = .ok (.ifCond .eq 7, 3) := by decide +kernel
theorem dX6_hasPlaces_33 : decode cX6_hasPlaces 33 = .ok (.iconst 1, 1) := by decide +kernel
theorem dX6_hasPlaces_34 : decode cX6_hasPlaces 34 = .ok (.goto 4, 3) := by decide +kernel
theorem dX6_hasPlaces_37 : decode cX6_hasPlaces 37 = .ok (.iconst 0, 1) := by decide +kernel
theorem dX6_hasPlaces_38 : decode cX6_hasPlaces 38 = .ok (.ireturn, 1) := by decide +kernel
set_option maxRecDepth 20000 in
theorem ggX6_at_X6_hasPlaces : GoodIn wsX6_at wsX6_hasPlaces := goodIn_r _ [6, 7, 8, 9, 10, 5, 11, 12, 13, 14, 15, 16, 17, 18] (by decide +kernel) (by decide +kernel)
set_option maxRecDepth 20000 in
theorem gX6_at_X6_hasPlaces : GoodIn wsX6_at (wsV RX6 36 RX6 yX6_hasPlaces wsX6_hasPlaces) := goodIn_app (goodIn_of _ (by decide +kernel)) ggX6_at_X6_hasPlaces
theorem dX6_at_0 : decode cX6_at 0 = .ok (.aload_n 0, 1) := by decide +kernel
theorem dX6_at_1 : decode cX6_at 1 = .ok (.iload_n 1, 1) := by decide +kernel
theorem dX6_at_2 : decode cX6_at 2 = .ok (.iconst 1, 1) := by decide +kernel
theorem dX6_at_3 : decode cX6_at 3 = .ok (.invokevirtual 36, 3) := by decide +kernel
theorem dX6_at_6 : decode cX6_at 6 = .ok (.ifCond .eq 12, 3) := by decide +kernel
theorem dX6_at_9 : decode cX6_at 9 = .ok (.aload_n 0, 1) := by decide +kernel
theorem dX6_at_10 : decode cX6_at 10 = .ok (.getfield 9, 3) := by decide +kernel
theorem dX6_at_13 : decode cX6_at 13 = .ok (.iload_n 1, 1) := by decide +kernel
theorem dX6_at_14 : decode cX6_at 14 = .ok (.laload, 1) := by decide +kernel
theorem dX6_at_15 : decode cX6_at 15 = .ok (.goto 4, 3) := by decide +kernel
theorem dX6_at_18 : decode cX6_at 18 = .ok (.lconst 0, 1) := by decide +kernel
theorem dX6_at_19 : decode cX6_at 19 = .ok (.lreturn, 1) := by decide +kernel
set_option maxRecDepth 20000 in
theorem ggX6_put_X6_hasPlaces : GoodIn wsX6_put wsX6_hasPlaces := goodIn_r _ [6, 7, 8, 9, 10, 5, 11, 12, 13, 14, 15, 20, 21, 22] (by decide +kernel) (by decide +kernel)
set_option maxRecDepth 20000 in
theorem gX6_put_X6_hasPlaces : GoodIn wsX6_put (wsV RX6 36 RX6 yX6_hasPlaces wsX6_hasPlaces) := goodIn_app (goodIn_of _ (by decide +kernel)) ggX6_put_X6_hasPlaces
set_option maxRecDepth 20000 in
theorem ggX6_put_X6_narrowed : GoodIn wsX6_put wsX6_narrowed := goodIn_r _ [19, 12, 20, 21, 22] (by decide +kernel) (by decide +kernel)
set_option maxRecDepth 20000 in
theorem gX6_put_X6_narrowed : GoodIn wsX6_put (wsV RX6 40 RX6 yX6_narrowed wsX6_narrowed) := goodIn_app (goodIn_of _ (by decide +kernel)) ggX6_put_X6_narrowed
theorem dX6_put_0 : decode cX6_put 0 = .ok (.aload_n 0, 1) := by decide +kernel
theorem dX6_put_1 : decode cX6_put 1 = .ok (.iload_n 1, 1) := by decide +kernel
theorem dX6_put_2 : decode cX6_put 2 = .ok (.iconst 1, 1) := by decide +kernel
theorem dX6_put_3 : decode cX6_put 3 = .ok (.invokevirtual 36, 3) := by decide +kernel
theorem dX6_put_6 : decode cX6_put 6 = .ok (.ifCond .eq 14, 3) := by decide +kernel
theorem dX6_put_9 : decode cX6_put 9 = .ok (.aload_n 0, 1) := by decide +kernel
theorem dX6_put_10 : decode cX6_put 10 = .ok (.getfield 9, 3) := by decide +kernel
theorem dX6_put_13 : decode cX6_put 13 = .ok (.iload_n 1, 1) := by decide +kernel
theorem dX6_put_14 : decode cX6_put 14 = .ok (.aload_n 0, 1) := by decide +kernel
theorem dX6_put_15 : decode cX6_put 15 = .ok (.lload_n 2, 1) := by decide +kernel
theorem dX6_put_16 : decode cX6_put 16 = .ok (.invokevirtual 40, 3) := by decide +kernel
theorem dX6_put_19 : decode cX6_put 19 = .ok (.lastore, 1) := by decide +kernel
theorem dX6_put_20 : decode cX6_put 20 = .ok (.return_, 1) := by decide +kernel
theorem dX6_narrowed_0 : decode cX6_narrowed 0 = .ok (.aload_n 0, 1) := by decide +kernel
theorem dX6_narrowed_1 : decode cX6_narrowed 1 = .ok (.getfield 15, 3) := by decide +kernel
theorem dX6_narrowed_4 : decode cX6_narrowed 4 = .ok (.tableswitch 62 0 4 #[36, 41, 46, 62, 50], 36) := by decide +kernel
theorem dX6_narrowed_40 : decode cX6_narrowed 40 = .ok (.lload_n 1, 1) := by decide +kernel
theorem dX6_narrowed_41 : decode cX6_narrowed 41 = .ok (.l2i, 1) := by decide +kernel
theorem dX6_narrowed_42 : decode cX6_narrowed 42 = .ok (.i2b, 1) := by decide +kernel
theorem dX6_narrowed_43 : decode cX6_narrowed 43 = .ok (.i2l, 1) := by decide +kernel
theorem dX6_narrowed_44 : decode cX6_narrowed 44 = .ok (.lreturn, 1) := by decide +kernel
theorem dX6_narrowed_45 : decode cX6_narrowed 45 = .ok (.lload_n 1, 1) := by decide +kernel
theorem dX6_narrowed_46 : decode cX6_narrowed 46 = .ok (.l2i, 1) := by decide +kernel
theorem dX6_narrowed_47 : decode cX6_narrowed 47 = .ok (.i2s, 1) := by decide +kernel
theorem dX6_narrowed_48 : decode cX6_narrowed 48 = .ok (.i2l, 1) := by decide +kernel
theorem dX6_narrowed_49 : decode cX6_narrowed 49 = .ok (.lreturn, 1) := by decide +kernel
theorem dX6_narrowed_50 : decode cX6_narrowed 50 = .ok (.lload_n 1, 1) := by decide +kernel
theorem dX6_narrowed_51 : decode cX6_narrowed 51 = .ok (.l2i, 1) := by decide +kernel
theorem dX6_narrowed_52 : decode cX6_narrowed 52 = .ok (.i2l, 1) := by decide +kernel
theorem dX6_narrowed_53 : decode cX6_narrowed 53 = .ok (.lreturn, 1) := by decide +kernel
theorem dX6_narrowed_54 : decode cX6_narrowed 54 = .ok (.lload_n 1, 1) := by decide +kernel
theorem dX6_narrowed_55 : decode cX6_narrowed 55 = .ok (.lconst 0, 1) := by decide +kernel
theorem dX6_narrowed_56 : decode cX6_narrowed 56 = .ok (.lcmp, 1) := by decide +kernel
theorem dX6_narrowed_57 : decode cX6_narrowed 57 = .ok (.ifCond .eq 7, 3) := by decide +kernel
theorem dX6_narrowed_60 : decode cX6_narrowed 60 = .ok (.lconst 1, 1) := by decide +kernel
theorem dX6_narrowed_61 : decode cX6_narrowed 61 = .ok (.goto 4, 3) := by decide +kernel
theorem dX6_narrowed_64 : decode cX6_narrowed 64 = .ok (.lconst 0, 1) := by decide +kernel
theorem dX6_narrowed_65 : decode cX6_narrowed 65 = .ok (.lreturn, 1) := by decide +kernel
theorem dX6_narrowed_66 : decode cX6_narrowed 66 = .ok (.lload_n 1, 1) := by decide +kernel
theorem dX6_narrowed_67 : decode cX6_narrowed 67 = .ok (.lreturn, 1) := by decide +kernel
theorem dX7_init_0 : decode cX7_init 0 = .ok (.aload_n 0, 1) := by decide +kernel
theorem dX7_init_1 : decode cX7_init 1 = .ok (.invokespecial 3, 3) := by decide +kernel
theorem dX7_init_4 : decode cX7_init 4 = .ok (.aload_n 0, 1) := by decide +kernel
theorem dX7_init_5 : decode cX7_init 5 = .ok (.sipush 250, 3) := by decide +kernel
theorem dX7_init_8 : decode cX7_init 8 = .ok (.newarray .int, 2) := by decide +kernel
theorem dX7_init_10 : decode cX7_init 10 = .ok (.putfield 9, 3) := by decide +kernel
theorem dX7_init_13 : decode cX7_init 13 = .ok (.return_, 1) := by decide +kernel
set_option maxRecDepth 20000 in
theorem ggX7_append_X8_within : GoodIn wsX7_append wsX8_within := goodIn_r _ [5] (by decide +kernel) (by decide +kernel)
set_option maxRecDepth 20000 in
theorem gX7_append_X8_within_n19 : GoodIn wsX7_append (wsX8_within) := ggX7_append_X8_within
theorem dX7_append_0 : decode cX7_append 0 = .ok (.aload_n 0, 1) := by decide +kernel
theorem dX7_append_1 : decode cX7_append 1 = .ok (.getfield 15, 3) := by decide +kernel
theorem dX7_append_4 : decode cX7_append 4 = .ok (.iconst 0, 1) := by decide +kernel
theorem dX7_append_5 : decode cX7_append 5 = .ok (.sipush 249, 3) := by decide +kernel
theorem dX7_append_8 : decode cX7_append 8 = .ok (.invokestatic 19, 3) := by decide +kernel
theorem dX7_append_11 : decode cX7_append 11 = .ok (.ifCond .ne 5, 3) := by decide +kernel
theorem dX7_append_14 : decode cX7_append 14 = .ok (.iconst 0, 1) := by decide +kernel
theorem dX7_append_15 : decode cX7_append 15 = .ok (.ireturn, 1) := by decide +kernel
theorem dX7_append_16 : decode cX7_append 16 = .ok (.aload_n 0, 1) := by decide +kernel
theorem dX7_append_17 : decode cX7_append 17 = .ok (.getfield 9, 3) := by decide +kernel
theorem dX7_append_20 : decode cX7_append 20 = .ok (.aload_n 0, 1) := by decide +kernel
theorem dX7_append_21 : decode cX7_append 21 = .ok (.getfield 15, 3) := by decide +kernel
theorem dX7_append_24 : decode cX7_append 24 = .ok (.iload_n 1, 1) := by decide +kernel
theorem dX7_append_25 : decode cX7_append 25 = .ok (.iastore, 1) := by decide +kernel
theorem dX7_append_26 : decode cX7_append 26 = .ok (.aload_n 0, 1) := by decide +kernel
theorem dX7_append_27 : decode cX7_append 27 = .ok (.dup, 1) := by decide +kernel
theorem dX7_append_28 : decode cX7_append 28 = .ok (.getfield 15, 3) := by decide +kernel
theorem dX7_append_31 : decode cX7_append 31 = .ok (.iconst 1, 1) := by decide +kernel
theorem dX7_append_32 : decode cX7_append 32 = .ok (.iadd, 1) := by decide +kernel
theorem dX7_append_33 : decode cX7_append 33 = .ok (.putfield 15, 3) := by decide +kernel
theorem dX7_append_36 : decode cX7_append 36 = .ok (.iconst 1, 1) := by decide +kernel
theorem dX7_append_37 : decode cX7_append 37 = .ok (.ireturn, 1) := by decide +kernel
set_option maxRecDepth 20000 in
theorem ggX7_readInto_X7_readStatement : GoodIn wsX7_readInto wsX7_readStatement := goodIn_r _ [8, 3, 2, 9, 10, 11, 7, 12, 1, 13, 14, 15, 16, 17, 18, 19, 20, 21, 22, 23, 24, 25, 26, 27, 28, 29, 30, 31, 32, 33, 34, 35, 36, 37, 38, 39, 40, 41, 42, 43, 44, 45, 46, 47, 48, 49, 50, 51, 52, 53, 54, 55, 56, 57, 58, 59, 60, 61, 62, 63, 64, 65, 66, 67, 68, 69, 70, 71, 72, 73, 74, 75, 76, 77, 78, 79, 80, 81, 82, 83, 84, 85, 86, 87, 88, 89, 90, 91, 92, 93, 94, 95, 96, 97, 98, 99, 100, 101, 102, 103, 104, 105, 106, 107, 108, 109, 110, 111, 112, 113, 114, 115, 116, 117, 118, 119, 120, 121, 122, 123, 124, 125, 126, 127, 128, 129, 130, 131, 132, 133, 134, 135, 136, 137, 138, 139, 140, 141, 142, 143, 144, 145, 146, 147, 148] (by decide +kernel) (by decide +kernel)
set_option maxRecDepth 20000 in
theorem gX7_readInto_X7_readStatement : GoodIn wsX7_readInto (wsV RX7 30 RX7 yX7_readStatement wsX7_readStatement) := goodIn_app (goodIn_of _ (by decide +kernel)) ggX7_readInto_X7_readStatement
set_option maxRecDepth 20000 in
theorem ggX7_readInto_X7_step : GoodIn wsX7_readInto wsX7_step := goodIn_r _ [12, 1, 13, 14, 15, 3, 16, 17, 18, 7, 19, 20, 21, 22, 130, 131, 132, 133, 134, 135] (by decide +kernel) (by decide +kernel)
set_option maxRecDepth 20000 in
theorem gX7_readInto_X7_step : GoodIn wsX7_readInto (wsV RX7 34 RX7 yX7_step wsX7_step) := goodIn_app (goodIn_of _ (by decide +kernel)) ggX7_readInto_X7_step
theorem dX7_readInto_0 : decode cX7_readInto 0 = .ok (.aload_n 0, 1) := by decide +kernel
theorem dX7_readInto_1 : decode cX7_readInto 1 = .ok (.iconst 0, 1) := by decide +kernel
theorem dX7_readInto_2 : decode cX7_readInto 2 = .ok (.putfield 23, 3) := by decide +kernel
theorem dX7_readInto_5 : decode cX7_readInto 5 = .ok (.aload_n 0, 1) := by decide +kernel
theorem dX7_readInto_6 : decode cX7_readInto 6 = .ok (.iconst 0, 1) := by decide +kernel
theorem dX7_readInto_7 : decode cX7_readInto 7 = .ok (.putfield 26, 3) := by decide +kernel
theorem dX7_readInto_10 : decode cX7_readInto 10 = .ok (.iconst 1, 1) := by decide +kernel
theorem dX7_readInto_11 : decode cX7_readInto 11 = .ok (.istore_n 2, 1) := by decide +kernel
theorem dX7_readInto_12 : decode cX7_readInto 12 = .ok (.iload_n 2, 1) := by decide +kernel
theorem dX7_readInto_13 : decode cX7_readInto 13 = .ok (.sipush 250, 3) := by decide +kernel
theorem dX7_readInto_16 : decode cX7_readInto 16 = .ok (.if_icmp .gt 46, 3) := by decide +kernel
theorem dX7_readInto_19 : decode cX7_readInto 19 = .ok (.aload_n 0, 1) := by decide +kernel
theorem dX7_readInto_20 : decode cX7_readInto 20 = .ok (.aload_n 1, 1) := by decide +kernel
theorem dX7_readInto_21 : decode cX7_readInto 21 = .ok (.invokevirtual 30, 3) := by decide +kernel
theorem dX7_readInto_24 : decode cX7_readInto 24 = .ok (.aload_n 0, 1) := by decide +kernel
theorem dX7_readInto_25 : decode cX7_readInto 25 = .ok (.getfield 26, 3) := by decide +kernel
theorem dX7_readInto_28 : decode cX7_readInto 28 = .ok (.ifCond .eq 5, 3) := by decide +kernel
theorem dX7_readInto_31 : decode cX7_readInto 31 = .ok (.iconst (-1), 1) := by decide +kernel
theorem dX7_readInto_32 : decode cX7_readInto 32 = .ok (.ireturn, 1) := by decide +kernel
theorem dX7_readInto_33 : decode cX7_readInto 33 = .ok (.aload_n 0, 1) := by decide +kernel
theorem dX7_readInto_34 : decode cX7_readInto 34 = .ok (.invokevirtual 34, 3) := by decide +kernel
theorem dX7_readInto_37 : decode cX7_readInto 37 = .ok (.aload_n 0, 1) := by decide +kernel
theorem dX7_readInto_38 : decode cX7_readInto 38 = .ok (.getfield 37, 3) := by decide +kernel
theorem dX7_readInto_41 : decode cX7_readInto 41 = .ok (.ifCond .ne 5, 3) := by decide +kernel
theorem dX7_readInto_44 : decode cX7_readInto 44 = .ok (.iload_n 2, 1) := by decide +kernel
theorem dX7_readInto_45 : decode cX7_readInto 45 = .ok (.ireturn, 1) := by decide +kernel
theorem dX7_readInto_46 : decode cX7_readInto 46 = .ok (.aload_n 0, 1) := by decide +kernel
theorem dX7_readInto_47 : decode cX7_readInto 47 = .ok (.getfield 37, 3) := by decide +kernel
theorem dX7_readInto_50 : decode cX7_readInto 50 = .ok (.iconst 3, 1) := by decide +kernel
theorem dX7_readInto_51 : decode cX7_readInto 51 = .ok (.if_icmp .eq 5, 3) := by decide +kernel
theorem dX7_readInto_54 : decode cX7_readInto 54 = .ok (.iconst (-1), 1) := by decide +kernel
theorem dX7_readInto_55 : decode cX7_readInto 55 = .ok (.ireturn, 1) := by decide +kernel
theorem dX7_readInto_56 : decode cX7_readInto 56 = .ok (.iinc 2 1, 3) := by decide +kernel
theorem dX7_readInto_59 : decode cX7_readInto 59 = .ok (.goto (-47), 3) := by decide +kernel
theorem dX7_readInto_62 : decode cX7_readInto 62 = .ok (.iconst (-1), 1) := by decide +kernel
theorem dX7_readInto_63 : decode cX7_readInto 63 = .ok (.ireturn, 1) := by decide +kernel
set_option maxRecDepth 20000 in
theorem ggX7_readStatement_X7_step : GoodIn wsX7_readStatement wsX7_step := goodIn_r _ [7, 8, 9, 10, 11, 1, 12, 13, 14, 6, 15, 16, 17, 18, 126, 127, 128, 129, 130, 131] (by decide +kernel) (by decide +kernel)
set_option maxRecDepth 20000 in
theorem gX7_readStatement_X7_step : GoodIn wsX7_readStatement (wsV RX7 34 RX7 yX7_step wsX7_step) := goodIn_app (goodIn_of _ (by decide +kernel)) ggX7_readStatement_X7_step
set_option maxRecDepth 20000 in
theorem ggX7_readStatement_X7_isWord : GoodIn wsX7_readStatement wsX7_isWord := goodIn_r _ [22, 8, 9, 11, 23, 24, 25, 26, 27, 28, 29, 30, 31, 32, 33, 34, 35, 36, 37, 38, 39, 40, 41, 42, 43, 44, 45, 46, 47, 48, 49, 50, 51, 52, 53, 54, 55, 56, 57, 58, 59, 60, 61, 62, 63, 64, 65, 66, 67, 68, 69, 70, 71, 126, 127, 128, 129, 130, 131] (by decide +kernel) (by decide +kernel)
set_option maxRecDepth 20000 in
theorem gX7_readStatement_X7_isWord : GoodIn wsX7_readStatement (wsV RX7 42 RX7 yX7_isWord wsX7_isWord) := goodIn_app (goodIn_of _ (by decide +kernel)) ggX7_readStatement_X7_isWord
set_option maxRecDepth 20000 in
theorem ggX7_readStatement_X7_readParty : GoodIn wsX7_readStatement wsX7_readParty := goodIn_r _ [75, 2, 76, 77, 78, 79, 80, 81, 82, 83, 84, 6, 85, 1, 8, 9, 3, 4, 5, 7, 10, 11, 12, 13, 14, 15, 16, 17, 18, 86, 87, 88, 89, 90, 91, 92, 93, 94, 95, 96, 97, 98, 126, 127, 128, 129, 130, 131, 132, 133, 134, 135, 136, 137, 138, 139, 140, 141, 142, 143, 144] (by decide +kernel) (by decide +kernel)
set_option maxRecDepth 20000 in
theorem gX7_readStatement_X7_readParty : GoodIn wsX7_readStatement (wsV RX7 46 RX7 yX7_readParty wsX7_readParty) := goodIn_app (goodIn_of _ (by decide +kernel)) ggX7_readStatement_X7_readParty
set_option maxRecDepth 20000 in
theorem ggX7_readStatement_X7_readTwo : GoodIn wsX7_readStatement wsX7_readTwo := goodIn_r _ [102, 103, 2, 82, 83, 84, 6, 85, 1, 8, 9, 3, 4, 5, 7, 10, 11, 12, 13, 14, 15, 16, 17, 18, 86, 87, 88, 89, 104, 105, 106, 79, 107, 108, 109, 110, 111, 112, 113, 114, 115, 116, 117, 81, 118, 119, 120, 132, 133, 134, 135, 136, 137, 138, 139, 140, 141, 142, 143, 144, 126, 127, 128, 129, 130, 131] (by decide +kernel) (by decide +kernel)
set_option maxRecDepth 20000 in
theorem gX7_readStatement_X7_readTwo : GoodIn wsX7_readStatement (wsV RX7 51 RX7 yX7_readTwo wsX7_readTwo) := goodIn_app (goodIn_of _ (by decide +kernel)) ggX7_readStatement_X7_readTwo
set_option maxRecDepth 20000 in
theorem ggX7_readStatement_X7_readTold : GoodIn wsX7_readStatement wsX7_readTold := goodIn_r _ [124, 2, 125, 82, 83, 84, 6, 85, 1, 8, 9, 3, 4, 5, 7, 10, 11, 12, 13, 14, 15, 16, 17, 18, 86, 87, 88, 89, 126, 127, 128, 129, 130, 131, 132, 133, 134, 135, 136, 137, 138, 139, 140, 141, 142, 143, 144] (by decide +kernel) (by decide +kernel)
set_option maxRecDepth 20000 in
theorem gX7_readStatement_X7_readTold : GoodIn wsX7_readStatement (wsV RX7 61 RX7 yX7_readTold wsX7_readTold) := goodIn_app (goodIn_of _ (by decide +kernel)) ggX7_readStatement_X7_readTold
theorem dX7_readStatement_0 : decode cX7_readStatement 0 = .ok (.aload_n 0, 1) := by decide +kernel
theorem dX7_readStatement_1 : decode cX7_readStatement 1 = .ok (.invokevirtual 34, 3) := by decide +kernel
theorem dX7_readStatement_4 : decode cX7_readStatement 4 = .ok (.aload_n 0, 1) := by decide +kernel
theorem dX7_readStatement_5 : decode cX7_readStatement 5 = .ok (.getfield 37, 3) := by decide +kernel
theorem dX7_readStatement_8 : decode cX7_readStatement 8 = .ok (.iconst 1, 1) := by decide +kernel
theorem dX7_readStatement_9 : decode cX7_readStatement 9 = .ok (.if_icmp .eq 11, 3) := by decide +kernel
theorem dX7_readStatement_12 : decode cX7_readStatement 12 = .ok (.aload_n 0, 1) := by decide +kernel
theorem dX7_readStatement_13 : decode cX7_readStatement 13 = .ok (.iconst 1, 1) := by decide +kernel
theorem dX7_readStatement_14 : decode cX7_readStatement 14 = .ok (.putfield 26, 3) := by decide +kernel
theorem dX7_readStatement_17 : decode cX7_readStatement 17 = .ok (.goto 169, 3) := by decide +kernel
theorem dX7_readStatement_20 : decode cX7_readStatement 20 = .ok (.aload_n 0, 1) := by decide +kernel
theorem dX7_readStatement_21 : decode cX7_readStatement 21 = .ok (.ldc 40, 2) := by decide +kernel
theorem dX7_readStatement_23 : decode cX7_readStatement 23 = .ok (.invokevirtual 42, 3) := by decide +kernel
theorem dX7_readStatement_26 : decode cX7_readStatement 26 = .ok (.ifCond .eq 11, 3) := by decide +kernel
theorem dX7_readStatement_29 : decode cX7_readStatement 29 = .ok (.aload_n 0, 1) := by decide +kernel
theorem dX7_readStatement_30 : decode cX7_readStatement 30 = .ok (.aload_n 1, 1) := by decide +kernel
theorem dX7_readStatement_31 : decode cX7_readStatement 31 = .ok (.invokevirtual 46, 3) := by decide +kernel
theorem dX7_readStatement_34 : decode cX7_readStatement 34 = .ok (.goto 152, 3) := by decide +kernel
theorem dX7_readStatement_37 : decode cX7_readStatement 37 = .ok (.aload_n 0, 1) := by decide +kernel
theorem dX7_readStatement_38 : decode cX7_readStatement 38 = .ok (.ldc 49, 2) := by decide +kernel
theorem dX7_readStatement_40 : decode cX7_readStatement 40 = .ok (.invokevirtual 42, 3) := by decide +kernel
theorem dX7_readStatement_43 : decode cX7_readStatement 43 = .ok (.ifCond .eq 12, 3) := by decide +kernel
theorem dX7_readStatement_46 : decode cX7_readStatement 46 = .ok (.aload_n 0, 1) := by decide +kernel
theorem dX7_readStatement_47 : decode cX7_readStatement 47 = .ok (.aload_n 1, 1) := by decide +kernel
theorem dX7_readStatement_48 : decode cX7_readStatement 48 = .ok (.iconst 1, 1) := by decide +kernel
theorem dX7_readStatement_49 : decode cX7_readStatement 49 = .ok (.invokevirtual 51, 3) := by decide +kernel
theorem dX7_readStatement_52 : decode cX7_readStatement 52 = .ok (.goto 134, 3) := by decide +kernel
theorem dX7_readStatement_55 : decode cX7_readStatement 55 = .ok (.aload_n 0, 1) := by decide +kernel
theorem dX7_readStatement_56 : decode cX7_readStatement 56 = .ok (.ldc 55, 2) := by decide +kernel
theorem dX7_readStatement_58 : decode cX7_readStatement 58 = .ok (.invokevirtual 42, 3) := by decide +kernel
theorem dX7_readStatement_61 : decode cX7_readStatement 61 = .ok (.ifCond .eq 12, 3) := by decide +kernel
theorem dX7_readStatement_64 : decode cX7_readStatement 64 = .ok (.aload_n 0, 1) := by decide +kernel
theorem dX7_readStatement_65 : decode cX7_readStatement 65 = .ok (.aload_n 1, 1) := by decide +kernel
theorem dX7_readStatement_66 : decode cX7_readStatement 66 = .ok (.iconst 2, 1) := by decide +kernel
theorem dX7_readStatement_67 : decode cX7_readStatement 67 = .ok (.invokevirtual 51, 3) := by decide +kernel
theorem dX7_readStatement_70 : decode cX7_readStatement 70 = .ok (.goto 116, 3) := by decide +kernel
theorem dX7_readStatement_73 : decode cX7_readStatement 73 = .ok (.aload_n 0, 1) := by decide +kernel
theorem dX7_readStatement_74 : decode cX7_readStatement 74 = .ok (.ldc 57, 2) := by decide +kernel
theorem dX7_readStatement_76 : decode cX7_readStatement 76 = .ok (.invokevirtual 42, 3) := by decide +kernel
theorem dX7_readStatement_79 : decode cX7_readStatement 79 = .ok (.ifCond .eq 12, 3) := by decide +kernel
theorem dX7_readStatement_82 : decode cX7_readStatement 82 = .ok (.aload_n 0, 1) := by decide +kernel
theorem dX7_readStatement_83 : decode cX7_readStatement 83 = .ok (.aload_n 1, 1) := by decide +kernel
theorem dX7_readStatement_84 : decode cX7_readStatement 84 = .ok (.iconst 0, 1) := by decide +kernel
theorem dX7_readStatement_85 : decode cX7_readStatement 85 = .ok (.invokevirtual 51, 3) := by decide +kernel
theorem dX7_readStatement_88 : decode cX7_readStatement 88 = .ok (.goto 98, 3) := by decide +kernel
theorem dX7_readStatement_91 : decode cX7_readStatement 91 = .ok (.aload_n 0, 1) := by decide +kernel
theorem dX7_readStatement_92 : decode cX7_readStatement 92 = .ok (.ldc 59, 2) := by decide +kernel
theorem dX7_readStatement_94 : decode cX7_readStatement 94 = .ok (.invokevirtual 42, 3) := by decide +kernel
theorem dX7_readStatement_97 : decode cX7_readStatement 97 = .ok (.ifCond .eq 12, 3) := by decide +kernel
theorem dX7_readStatement_100 : decode cX7_readStatement 100 = .ok (.aload_n 0, 1) := by decide +kernel
theorem dX7_readStatement_101 : decode cX7_readStatement 101 = .ok (.aload_n 1, 1) := by decide +kernel
theorem dX7_readStatement_102 : decode cX7_readStatement 102 = .ok (.iconst 0, 1) := by decide +kernel
theorem dX7_readStatement_103 : decode cX7_readStatement 103 = .ok (.invokevirtual 61, 3) := by decide +kernel
theorem dX7_readStatement_106 : decode cX7_readStatement 106 = .ok (.goto 80, 3) := by decide +kernel
theorem dX7_readStatement_109 : decode cX7_readStatement 109 = .ok (.aload_n 0, 1) := by decide +kernel
theorem dX7_readStatement_110 : decode cX7_readStatement 110 = .ok (.ldc 64, 2) := by decide +kernel
theorem dX7_readStatement_112 : decode cX7_readStatement 112 = .ok (.invokevirtual 42, 3) := by decide +kernel
theorem dX7_readStatement_115 : decode cX7_readStatement 115 = .ok (.ifCond .eq 12, 3) := by decide +kernel
theorem dX7_readStatement_118 : decode cX7_readStatement 118 = .ok (.aload_n 0, 1) := by decide +kernel
theorem dX7_readStatement_119 : decode cX7_readStatement 119 = .ok (.aload_n 1, 1) := by decide +kernel
theorem dX7_readStatement_120 : decode cX7_readStatement 120 = .ok (.iconst 1, 1) := by decide +kernel
theorem dX7_readStatement_121 : decode cX7_readStatement 121 = .ok (.invokevirtual 61, 3) := by decide +kernel
theorem dX7_readStatement_124 : decode cX7_readStatement 124 = .ok (.goto 62, 3) := by decide +kernel
theorem dX7_readStatement_127 : decode cX7_readStatement 127 = .ok (.aload_n 0, 1) := by decide +kernel
theorem dX7_readStatement_128 : decode cX7_readStatement 128 = .ok (.ldc 66, 2) := by decide +kernel
theorem dX7_readStatement_130 : decode cX7_readStatement 130 = .ok (.invokevirtual 42, 3) := by decide +kernel
theorem dX7_readStatement_133 : decode cX7_readStatement 133 = .ok (.ifCond .eq 12, 3) := by decide +kernel
theorem dX7_readStatement_136 : decode cX7_readStatement 136 = .ok (.aload_n 0, 1) := by decide +kernel
theorem dX7_readStatement_137 : decode cX7_readStatement 137 = .ok (.aload_n 1, 1) := by decide +kernel
theorem dX7_readStatement_138 : decode cX7_readStatement 138 = .ok (.iconst 2, 1) := by decide +kernel
theorem dX7_readStatement_139 : decode cX7_readStatement 139 = .ok (.invokevirtual 61, 3) := by decide +kernel
theorem dX7_readStatement_142 : decode cX7_readStatement 142 = .ok (.goto 44, 3) := by decide +kernel
theorem dX7_readStatement_145 : decode cX7_readStatement 145 = .ok (.aload_n 0, 1) := by decide +kernel
theorem dX7_readStatement_146 : decode cX7_readStatement 146 = .ok (.ldc 68, 2) := by decide +kernel
theorem dX7_readStatement_148 : decode cX7_readStatement 148 = .ok (.invokevirtual 42, 3) := by decide +kernel
theorem dX7_readStatement_151 : decode cX7_readStatement 151 = .ok (.ifCond .eq 12, 3) := by decide +kernel
theorem dX7_readStatement_154 : decode cX7_readStatement 154 = .ok (.aload_n 0, 1) := by decide +kernel
theorem dX7_readStatement_155 : decode cX7_readStatement 155 = .ok (.aload_n 1, 1) := by decide +kernel
theorem dX7_readStatement_156 : decode cX7_readStatement 156 = .ok (.iconst 3, 1) := by decide +kernel
theorem dX7_readStatement_157 : decode cX7_readStatement 157 = .ok (.invokevirtual 61, 3) := by decide +kernel
theorem dX7_readStatement_160 : decode cX7_readStatement 160 = .ok (.goto 26, 3) := by decide +kernel
theorem dX7_readStatement_163 : decode cX7_readStatement 163 = .ok (.aload_n 0, 1) := by decide +kernel
theorem dX7_readStatement_164 : decode cX7_readStatement 164 = .ok (.ldc 70, 2) := by decide +kernel
theorem dX7_readStatement_166 : decode cX7_readStatement 166 = .ok (.invokevirtual 42, 3) := by decide +kernel
theorem dX7_readStatement_169 : decode cX7_readStatement 169 = .ok (.ifCond .eq 12, 3) := by decide +kernel
theorem dX7_readStatement_172 : decode cX7_readStatement 172 = .ok (.aload_n 0, 1) := by decide +kernel
theorem dX7_readStatement_173 : decode cX7_readStatement 173 = .ok (.aload_n 1, 1) := by decide +kernel
theorem dX7_readStatement_174 : decode cX7_readStatement 174 = .ok (.iconst 4, 1) := by decide +kernel
theorem dX7_readStatement_175 : decode cX7_readStatement 175 = .ok (.invokevirtual 61, 3) := by decide +kernel
theorem dX7_readStatement_178 : decode cX7_readStatement 178 = .ok (.goto 8, 3) := by decide +kernel
theorem dX7_readStatement_181 : decode cX7_readStatement 181 = .ok (.aload_n 0, 1) := by decide +kernel
theorem dX7_readStatement_182 : decode cX7_readStatement 182 = .ok (.iconst 1, 1) := by decide +kernel
theorem dX7_readStatement_183 : decode cX7_readStatement 183 = .ok (.putfield 26, 3) := by decide +kernel
theorem dX7_readStatement_186 : decode cX7_readStatement 186 = .ok (.return_, 1) := by decide +kernel
set_option maxRecDepth 20000 in
theorem ggX7_readParty_X2_hasRoom : GoodIn wsX7_readParty wsX2_hasRoom := goodIn_r _ [6, 7, 48, 49, 50, 51, 52, 53, 54, 55, 56, 57, 58, 59, 60] (by decide +kernel) (by decide +kernel)
set_option maxRecDepth 20000 in
theorem gX7_readParty_X2_hasRoom : GoodIn wsX7_readParty (wsV RX7 72 RX2 yX2_hasRoom wsX2_hasRoom) := goodIn_app (goodIn_of _ (by decide +kernel)) ggX7_readParty_X2_hasRoom
set_option maxRecDepth 20000 in
theorem ggX7_readParty_X7_readNumber : GoodIn wsX7_readParty wsX7_readNumber := goodIn_r _ [12, 1, 13, 14, 15, 16, 17, 18, 11, 19, 20, 21, 22, 23, 24, 25, 26, 27, 28, 29, 30, 31, 32, 42, 43, 44, 45, 46, 47] (by decide +kernel) (by decide +kernel)
set_option maxRecDepth 20000 in
theorem gX7_readParty_X7_readNumber : GoodIn wsX7_readParty (wsV RX7 78 RX7 yX7_readNumber wsX7_readNumber) := goodIn_app (goodIn_of _ (by decide +kernel)) ggX7_readParty_X7_readNumber
set_option maxRecDepth 20000 in
theorem ggX7_readParty_X2_add : GoodIn wsX7_readParty wsX2_add := goodIn_r _ [36, 7, 37, 38, 39, 40, 41, 3, 4, 5, 6, 48, 49, 50, 51, 52, 53, 54, 55, 56, 57, 58, 59, 60] (by decide +kernel) (by decide +kernel)
set_option maxRecDepth 20000 in
theorem gX7_readParty_X2_add : GoodIn wsX7_readParty (wsV RX7 82 RX2 yX2_add wsX2_add) := goodIn_app (goodIn_of _ (by decide +kernel)) ggX7_readParty_X2_add
theorem dX7_readParty_0 : decode cX7_readParty 0 = .ok (.aload_n 1, 1) := by decide +kernel
theorem dX7_readParty_1 : decode cX7_readParty 1 = .ok (.invokevirtual 72, 3) := by decide +kernel
theorem dX7_readParty_4 : decode cX7_readParty 4 = .ok (.ifCond .ne 9, 3) := by decide +kernel
theorem dX7_readParty_7 : decode cX7_readParty 7 = .ok (.aload_n 0, 1) := by decide +kernel
theorem dX7_readParty_8 : decode cX7_readParty 8 = .ok (.iconst 1, 1) := by decide +kernel
theorem dX7_readParty_9 : decode cX7_readParty 9 = .ok (.putfield 26, 3) := by decide +kernel
theorem dX7_readParty_12 : decode cX7_readParty 12 = .ok (.return_, 1) := by decide +kernel
theorem dX7_readParty_13 : decode cX7_readParty 13 = .ok (.aload_n 0, 1) := by decide +kernel
theorem dX7_readParty_14 : decode cX7_readParty 14 = .ok (.iconst 0, 1) := by decide +kernel
theorem dX7_readParty_15 : decode cX7_readParty 15 = .ok (.iconst 5, 1) := by decide +kernel
theorem dX7_readParty_16 : decode cX7_readParty 16 = .ok (.invokevirtual 78, 3) := by decide +kernel
theorem dX7_readParty_19 : decode cX7_readParty 19 = .ok (.istore_n 2, 1) := by decide +kernel
theorem dX7_readParty_20 : decode cX7_readParty 20 = .ok (.aload_n 0, 1) := by decide +kernel
theorem dX7_readParty_21 : decode cX7_readParty 21 = .ok (.iconst 0, 1) := by decide +kernel
theorem dX7_readParty_22 : decode cX7_readParty 22 = .ok (.bipush 9, 2) := by decide +kernel
theorem dX7_readParty_24 : decode cX7_readParty 24 = .ok (.invokevirtual 78, 3) := by decide +kernel
theorem dX7_readParty_27 : decode cX7_readParty 27 = .ok (.istore_n 3, 1) := by decide +kernel
theorem dX7_readParty_28 : decode cX7_readParty 28 = .ok (.aload_n 0, 1) := by decide +kernel
theorem dX7_readParty_29 : decode cX7_readParty 29 = .ok (.iconst 1, 1) := by decide +kernel
theorem dX7_readParty_30 : decode cX7_readParty 30 = .ok (.bipush 40, 2) := by decide +kernel
theorem dX7_readParty_32 : decode cX7_readParty 32 = .ok (.invokevirtual 78, 3) := by decide +kernel
theorem dX7_readParty_35 : decode cX7_readParty 35 = .ok (.istore 4, 2) := by decide +kernel
theorem dX7_readParty_37 : decode cX7_readParty 37 = .ok (.aload_n 0, 1) := by decide +kernel
theorem dX7_readParty_38 : decode cX7_readParty 38 = .ok (.iconst 0, 1) := by decide +kernel
theorem dX7_readParty_39 : decode cX7_readParty 39 = .ok (.bipush 99, 2) := by decide +kernel
theorem dX7_readParty_41 : decode cX7_readParty 41 = .ok (.invokevirtual 78, 3) := by decide +kernel
theorem dX7_readParty_44 : decode cX7_readParty 44 = .ok (.istore 5, 2) := by decide +kernel
theorem dX7_readParty_46 : decode cX7_readParty 46 = .ok (.aload_n 0, 1) := by decide +kernel
theorem dX7_readParty_47 : decode cX7_readParty 47 = .ok (.getfield 26, 3) := by decide +kernel
theorem dX7_readParty_50 : decode cX7_readParty 50 = .ok (.ifCond .ne 14, 3) := by decide +kernel
theorem dX7_readParty_53 : decode cX7_readParty 53 = .ok (.aload_n 1, 1) := by decide +kernel
theorem dX7_readParty_54 : decode cX7_readParty 54 = .ok (.iload_n 2, 1) := by decide +kernel
theorem dX7_readParty_55 : decode cX7_readParty 55 = .ok (.iload_n 3, 1) := by decide +kernel
theorem dX7_readParty_56 : decode cX7_readParty 56 = .ok (.iload 4, 2) := by decide +kernel
theorem dX7_readParty_58 : decode cX7_readParty 58 = .ok (.iload 5, 2) := by decide +kernel
theorem dX7_readParty_60 : decode cX7_readParty 60 = .ok (.invokevirtual 82, 3) := by decide +kernel
theorem dX7_readParty_63 : decode cX7_readParty 63 = .ok (.pop, 1) := by decide +kernel
theorem dX7_readParty_64 : decode cX7_readParty 64 = .ok (.return_, 1) := by decide +kernel
set_option maxRecDepth 20000 in
theorem ggX7_readTwo_X7_readNumber : GoodIn wsX7_readTwo wsX7_readNumber := goodIn_r _ [7, 2, 8, 9, 10, 11, 12, 13, 6, 14, 15, 16, 17, 18, 19, 20, 21, 22, 23, 24, 25, 26, 27, 60, 61, 62, 63, 64, 65] (by decide +kernel) (by decide +kernel)
set_option maxRecDepth 20000 in
theorem gX7_readTwo_X7_readNumber : GoodIn wsX7_readTwo (wsV RX7 78 RX7 yX7_readNumber wsX7_readNumber) := goodIn_app (goodIn_of _ (by decide +kernel)) ggX7_readTwo_X7_readNumber
set_option maxRecDepth 20000 in
theorem ggX7_readTwo_X2_relate : GoodIn wsX7_readTwo wsX2_relate := goodIn_r _ [32, 33, 34, 35, 36, 37, 31, 38, 39, 40, 41, 42, 43, 21, 22, 23, 44, 45, 46, 47, 48, 49, 50, 51, 52, 53, 54, 55, 56, 57, 58, 59] (by decide +kernel) (by decide +kernel)
set_option maxRecDepth 20000 in
theorem gX7_readTwo_X2_relate : GoodIn wsX7_readTwo (wsV RX7 89 RX2 yX2_relate wsX2_relate) := goodIn_app (goodIn_of _ (by decide +kernel)) ggX7_readTwo_X2_relate
theorem dX7_readTwo_0 : decode cX7_readTwo 0 = .ok (.aload_n 0, 1) := by decide +kernel
theorem dX7_readTwo_1 : decode cX7_readTwo 1 = .ok (.iconst 0, 1) := by decide +kernel
theorem dX7_readTwo_2 : decode cX7_readTwo 2 = .ok (.aload_n 1, 1) := by decide +kernel
theorem dX7_readTwo_3 : decode cX7_readTwo 3 = .ok (.getfield 86, 3) := by decide +kernel
theorem dX7_readTwo_6 : decode cX7_readTwo 6 = .ok (.iconst 1, 1) := by decide +kernel
theorem dX7_readTwo_7 : decode cX7_readTwo 7 = .ok (.isub, 1) := by decide +kernel
theorem dX7_readTwo_8 : decode cX7_readTwo 8 = .ok (.invokevirtual 78, 3) := by decide +kernel
theorem dX7_readTwo_11 : decode cX7_readTwo 11 = .ok (.istore_n 3, 1) := by decide +kernel
theorem dX7_readTwo_12 : decode cX7_readTwo 12 = .ok (.aload_n 0, 1) := by decide +kernel
theorem dX7_readTwo_13 : decode cX7_readTwo 13 = .ok (.iconst 0, 1) := by decide +kernel
theorem dX7_readTwo_14 : decode cX7_readTwo 14 = .ok (.aload_n 1, 1) := by decide +kernel
theorem dX7_readTwo_15 : decode cX7_readTwo 15 = .ok (.getfield 86, 3) := by decide +kernel
theorem dX7_readTwo_18 : decode cX7_readTwo 18 = .ok (.iconst 1, 1) := by decide +kernel
theorem dX7_readTwo_19 : decode cX7_readTwo 19 = .ok (.isub, 1) := by decide +kernel
theorem dX7_readTwo_20 : decode cX7_readTwo 20 = .ok (.invokevirtual 78, 3) := by decide +kernel
theorem dX7_readTwo_23 : decode cX7_readTwo 23 = .ok (.istore 4, 2) := by decide +kernel
theorem dX7_readTwo_25 : decode cX7_readTwo 25 = .ok (.iload_n 3, 1) := by decide +kernel
theorem dX7_readTwo_26 : decode cX7_readTwo 26 = .ok (.iload 4, 2) := by decide +kernel
theorem dX7_readTwo_28 : decode cX7_readTwo 28 = .ok (.if_icmp .ne 8, 3) := by decide +kernel
theorem dX7_readTwo_31 : decode cX7_readTwo 31 = .ok (.aload_n 0, 1) := by decide +kernel
theorem dX7_readTwo_32 : decode cX7_readTwo 32 = .ok (.iconst 1, 1) := by decide +kernel
theorem dX7_readTwo_33 : decode cX7_readTwo 33 = .ok (.putfield 26, 3) := by decide +kernel
theorem dX7_readTwo_36 : decode cX7_readTwo 36 = .ok (.aload_n 0, 1) := by decide +kernel
theorem dX7_readTwo_37 : decode cX7_readTwo 37 = .ok (.getfield 26, 3) := by decide +kernel
theorem dX7_readTwo_40 : decode cX7_readTwo 40 = .ok (.ifCond .ne 11, 3) := by decide +kernel
theorem dX7_readTwo_43 : decode cX7_readTwo 43 = .ok (.aload_n 1, 1) := by decide +kernel
theorem dX7_readTwo_44 : decode cX7_readTwo 44 = .ok (.iload_n 3, 1) := by decide +kernel
theorem dX7_readTwo_45 : decode cX7_readTwo 45 = .ok (.iload 4, 2) := by decide +kernel
theorem dX7_readTwo_47 : decode cX7_readTwo 47 = .ok (.iload_n 2, 1) := by decide +kernel
theorem dX7_readTwo_48 : decode cX7_readTwo 48 = .ok (.invokevirtual 89, 3) := by decide +kernel
theorem dX7_readTwo_51 : decode cX7_readTwo 51 = .ok (.return_, 1) := by decide +kernel
set_option maxRecDepth 20000 in
theorem ggX7_readTold_X7_readNumber : GoodIn wsX7_readTold wsX7_readNumber := goodIn_r _ [7, 1, 8, 9, 10, 11, 12, 13, 6, 14, 15, 16, 17, 18, 19, 20, 21, 22, 23, 24, 25, 26, 27, 28, 29, 30, 31, 32, 33] (by decide +kernel) (by decide +kernel)
set_option maxRecDepth 20000 in
theorem gX7_readTold_X7_readNumber : GoodIn wsX7_readTold (wsV RX7 78 RX7 yX7_readNumber wsX7_readNumber) := goodIn_app (goodIn_of _ (by decide +kernel)) ggX7_readTold_X7_readNumber
theorem dX7_readTold_0 : decode cX7_readTold 0 = .ok (.aload_n 0, 1) := by decide +kernel
theorem dX7_readTold_1 : decode cX7_readTold 1 = .ok (.getstatic 93, 3) := by decide +kernel
theorem dX7_readTold_4 : decode cX7_readTold 4 = .ok (.iload_n 2, 1) := by decide +kernel
theorem dX7_readTold_5 : decode cX7_readTold 5 = .ok (.iaload, 1) := by decide +kernel
theorem dX7_readTold_6 : decode cX7_readTold 6 = .ok (.getstatic 96, 3) := by decide +kernel
theorem dX7_readTold_9 : decode cX7_readTold 9 = .ok (.iload_n 2, 1) := by decide +kernel
theorem dX7_readTold_10 : decode cX7_readTold 10 = .ok (.iaload, 1) := by decide +kernel
theorem dX7_readTold_11 : decode cX7_readTold 11 = .ok (.invokevirtual 78, 3) := by decide +kernel
theorem dX7_readTold_14 : decode cX7_readTold 14 = .ok (.istore_n 3, 1) := by decide +kernel
theorem dX7_readTold_15 : decode cX7_readTold 15 = .ok (.aload_n 0, 1) := by decide +kernel
theorem dX7_readTold_16 : decode cX7_readTold 16 = .ok (.getfield 26, 3) := by decide +kernel
theorem dX7_readTold_19 : decode cX7_readTold 19 = .ok (.ifCond .ne 10, 3) := by decide +kernel
theorem dX7_readTold_22 : decode cX7_readTold 22 = .ok (.aload_n 1, 1) := by decide +kernel
theorem dX7_readTold_23 : decode cX7_readTold 23 = .ok (.getfield 99, 3) := by decide +kernel
theorem dX7_readTold_26 : decode cX7_readTold 26 = .ok (.iload_n 2, 1) := by decide +kernel
theorem dX7_readTold_27 : decode cX7_readTold 27 = .ok (.iload_n 3, 1) := by decide +kernel
theorem dX7_readTold_28 : decode cX7_readTold 28 = .ok (.iastore, 1) := by decide +kernel
theorem dX7_readTold_29 : decode cX7_readTold 29 = .ok (.return_, 1) := by decide +kernel
set_option maxRecDepth 20000 in
theorem ggX7_readNumber_X7_step : GoodIn wsX7_readNumber wsX7_step := goodIn_r _ [9, 3, 4, 10, 11, 2, 12, 13, 14, 8, 15, 16, 17, 18, 23, 24, 25, 26, 27, 28] (by decide +kernel) (by decide +kernel)
set_option maxRecDepth 20000 in
theorem gX7_readNumber_X7_step : GoodIn wsX7_readNumber (wsV RX7 34 RX7 yX7_step wsX7_step) := goodIn_app (goodIn_of _ (by decide +kernel)) ggX7_readNumber_X7_step
set_option maxRecDepth 20000 in
theorem ggX7_readNumber_X7_numberAtHand : GoodIn wsX7_readNumber wsX7_numberAtHand := goodIn_r _ [22, 4, 3, 11, 23, 24, 25, 26, 27, 28] (by decide +kernel) (by decide +kernel)
set_option maxRecDepth 20000 in
theorem gX7_readNumber_X7_numberAtHand : GoodIn wsX7_readNumber (wsV RX7 105 RX7 yX7_numberAtHand wsX7_numberAtHand) := goodIn_app (goodIn_of _ (by decide +kernel)) ggX7_readNumber_X7_numberAtHand
set_option maxRecDepth 20000 in
theorem ggX7_readNumber_X8_within : GoodIn wsX7_readNumber wsX8_within := goodIn_r _ [18] (by decide +kernel) (by decide +kernel)
set_option maxRecDepth 20000 in
theorem gX7_readNumber_X8_within_n19 : GoodIn wsX7_readNumber (wsX8_within) := ggX7_readNumber_X8_within
theorem dX7_readNumber_0 : decode cX7_readNumber 0 = .ok (.aload_n 0, 1) := by decide +kernel
theorem dX7_readNumber_1 : decode cX7_readNumber 1 = .ok (.getfield 26, 3) := by decide +kernel
theorem dX7_readNumber_4 : decode cX7_readNumber 4 = .ok (.ifCond .eq 5, 3) := by decide +kernel
theorem dX7_readNumber_7 : decode cX7_readNumber 7 = .ok (.iconst (-1), 1) := by decide +kernel
theorem dX7_readNumber_8 : decode cX7_readNumber 8 = .ok (.ireturn, 1) := by decide +kernel
theorem dX7_readNumber_9 : decode cX7_readNumber 9 = .ok (.aload_n 0, 1) := by decide +kernel
theorem dX7_readNumber_10 : decode cX7_readNumber 10 = .ok (.invokevirtual 34, 3) := by decide +kernel
theorem dX7_readNumber_13 : decode cX7_readNumber 13 = .ok (.aload_n 0, 1) := by decide +kernel
theorem dX7_readNumber_14 : decode cX7_readNumber 14 = .ok (.getfield 37, 3) := by decide +kernel
theorem dX7_readNumber_17 : decode cX7_readNumber 17 = .ok (.iconst 2, 1) := by decide +kernel
theorem dX7_readNumber_18 : decode cX7_readNumber 18 = .ok (.if_icmp .ne 28, 3) := by decide +kernel
theorem dX7_readNumber_21 : decode cX7_readNumber 21 = .ok (.aload_n 0, 1) := by decide +kernel
theorem dX7_readNumber_22 : decode cX7_readNumber 22 = .ok (.getfield 23, 3) := by decide +kernel
theorem dX7_readNumber_25 : decode cX7_readNumber 25 = .ok (.aload_n 0, 1) := by decide +kernel
theorem dX7_readNumber_26 : decode cX7_readNumber 26 = .ok (.getfield 102, 3) := by decide +kernel
theorem dX7_readNumber_29 : decode cX7_readNumber 29 = .ok (.isub, 1) := by decide +kernel
theorem dX7_readNumber_30 : decode cX7_readNumber 30 = .ok (.iconst 2, 1) := by decide +kernel
theorem dX7_readNumber_31 : decode cX7_readNumber 31 = .ok (.if_icmp .gt 15, 3) := by decide +kernel
theorem dX7_readNumber_34 : decode cX7_readNumber 34 = .ok (.aload_n 0, 1) := by decide +kernel
theorem dX7_readNumber_35 : decode cX7_readNumber 35 = .ok (.invokevirtual 105, 3) := by decide +kernel
theorem dX7_readNumber_38 : decode cX7_readNumber 38 = .ok (.iload_n 1, 1) := by decide +kernel
theorem dX7_readNumber_39 : decode cX7_readNumber 39 = .ok (.iload_n 2, 1) := by decide +kernel
theorem dX7_readNumber_40 : decode cX7_readNumber 40 = .ok (.invokestatic 19, 3) := by decide +kernel
theorem dX7_readNumber_43 : decode cX7_readNumber 43 = .ok (.ifCond .ne 10, 3) := by decide +kernel
theorem dX7_readNumber_46 : decode cX7_readNumber 46 = .ok (.aload_n 0, 1) := by decide +kernel
theorem dX7_readNumber_47 : decode cX7_readNumber 47 = .ok (.iconst 1, 1) := by decide +kernel
theorem dX7_readNumber_48 : decode cX7_readNumber 48 = .ok (.putfield 26, 3) := by decide +kernel
theorem dX7_readNumber_51 : decode cX7_readNumber 51 = .ok (.iconst (-1), 1) := by decide +kernel
theorem dX7_readNumber_52 : decode cX7_readNumber 52 = .ok (.ireturn, 1) := by decide +kernel
theorem dX7_readNumber_53 : decode cX7_readNumber 53 = .ok (.aload_n 0, 1) := by decide +kernel
theorem dX7_readNumber_54 : decode cX7_readNumber 54 = .ok (.invokevirtual 105, 3) := by decide +kernel
theorem dX7_readNumber_57 : decode cX7_readNumber 57 = .ok (.ireturn, 1) := by decide +kernel
theorem dX7_numberAtHand_0 : decode cX7_numberAtHand 0 = .ok (.iconst 0, 1) := by decide +kernel
theorem dX7_numberAtHand_1 : decode cX7_numberAtHand 1 = .ok (.istore_n 1, 1) := by decide +kernel
theorem dX7_numberAtHand_2 : decode cX7_numberAtHand 2 = .ok (.aload_n 0, 1) := by decide +kernel
theorem dX7_numberAtHand_3 : decode cX7_numberAtHand 3 = .ok (.getfield 102, 3) := by decide +kernel
theorem dX7_numberAtHand_6 : decode cX7_numberAtHand 6 = .ok (.istore_n 2, 1) := by decide +kernel
theorem dX7_numberAtHand_7 : decode cX7_numberAtHand 7 = .ok (.iload_n 2, 1) := by decide +kernel
theorem dX7_numberAtHand_8 : decode cX7_numberAtHand 8 = .ok (.aload_n 0, 1) := by decide +kernel
theorem dX7_numberAtHand_9 : decode cX7_numberAtHand 9 = .ok (.getfield 23, 3) := by decide +kernel
theorem dX7_numberAtHand_12 : decode cX7_numberAtHand 12 = .ok (.if_icmp .ge 34, 3) := by decide +kernel
theorem dX7_numberAtHand_15 : decode cX7_numberAtHand 15 = .ok (.iload_n 2, 1) := by decide +kernel
theorem dX7_numberAtHand_16 : decode cX7_numberAtHand 16 = .ok (.aload_n 0, 1) := by decide +kernel
theorem dX7_numberAtHand_17 : decode cX7_numberAtHand 17 = .ok (.getfield 102, 3) := by decide +kernel
theorem dX7_numberAtHand_20 : decode cX7_numberAtHand 20 = .ok (.iconst 2, 1) := by decide +kernel
theorem dX7_numberAtHand_21 : decode cX7_numberAtHand 21 = .ok (.iadd, 1) := by decide +kernel
theorem dX7_numberAtHand_22 : decode cX7_numberAtHand 22 = .ok (.if_icmp .ge 24, 3) := by decide +kernel
theorem dX7_numberAtHand_25 : decode cX7_numberAtHand 25 = .ok (.iload_n 1, 1) := by decide +kernel
theorem dX7_numberAtHand_26 : decode cX7_numberAtHand 26 = .ok (.bipush 10, 2) := by decide +kernel
theorem dX7_numberAtHand_28 : decode cX7_numberAtHand 28 = .ok (.imul, 1) := by decide +kernel
theorem dX7_numberAtHand_29 : decode cX7_numberAtHand 29 = .ok (.aload_n 0, 1) := by decide +kernel
theorem dX7_numberAtHand_30 : decode cX7_numberAtHand 30 = .ok (.getfield 9, 3) := by decide +kernel
theorem dX7_numberAtHand_33 : decode cX7_numberAtHand 33 = .ok (.iload_n 2, 1) := by decide +kernel
theorem dX7_numberAtHand_34 : decode cX7_numberAtHand 34 = .ok (.iaload, 1) := by decide +kernel
theorem dX7_numberAtHand_35 : decode cX7_numberAtHand 35 = .ok (.iadd, 1) := by decide +kernel
theorem dX7_numberAtHand_36 : decode cX7_numberAtHand 36 = .ok (.bipush 48, 2) := by decide +kernel
theorem dX7_numberAtHand_38 : decode cX7_numberAtHand 38 = .ok (.isub, 1) := by decide +kernel
theorem dX7_numberAtHand_39 : decode cX7_numberAtHand 39 = .ok (.istore_n 1, 1) := by decide +kernel
theorem dX7_numberAtHand_40 : decode cX7_numberAtHand 40 = .ok (.iinc 2 1, 3) := by decide +kernel
theorem dX7_numberAtHand_43 : decode cX7_numberAtHand 43 = .ok (.goto (-36), 3) := by decide +kernel
theorem dX7_numberAtHand_46 : decode cX7_numberAtHand 46 = .ok (.iload_n 1, 1) := by decide +kernel
theorem dX7_numberAtHand_47 : decode cX7_numberAtHand 47 = .ok (.ireturn, 1) := by decide +kernel
set_option maxRecDepth 20000 in
theorem ggX7_isWord_J0_length_8abf5 : GoodIn wsX7_isWord wsJ0_length_8abf5 := goodIn_r _ [8, 9, 10, 11, 12, 7, 13, 14, 15] (by decide +kernel) (by decide +kernel)
set_option maxRecDepth 20000 in
theorem gX7_isWord_J0_length_8abf5 : GoodIn wsX7_isWord (wsV RX7 109 RJ0 yJ0_length_8abf5 wsJ0_length_8abf5) := goodIn_app (goodIn_of _ (by decide +kernel)) ggX7_isWord_J0_length_8abf5
set_option maxRecDepth 20000 in
theorem ggX7_isWord_J0_charAt_5068e : GoodIn wsX7_isWord wsJ0_charAt_5068e := goodIn_r _ [19, 9, 20, 21, 22, 7, 23, 14, 15, 24, 25, 26, 27, 28, 29, 30, 31, 32, 33, 34, 35, 36, 37, 38, 39, 40, 41, 42, 43, 44, 45, 46, 47, 48, 49, 50, 51, 52] (by decide +kernel) (by decide +kernel)
set_option maxRecDepth 20000 in
theorem gX7_isWord_J0_charAt_5068e : GoodIn wsX7_isWord (wsV RX7 113 RJ0 yJ0_charAt_5068e wsJ0_charAt_5068e) := goodIn_app (goodIn_of _ (by decide +kernel)) ggX7_isWord_J0_charAt_5068e
theorem dX7_isWord_0 : decode cX7_isWord 0 = .ok (.aload_n 1, 1) := by decide +kernel
theorem dX7_isWord_1 : decode cX7_isWord 1 = .ok (.invokevirtual 109, 3) := by decide +kernel
theorem dX7_isWord_4 : decode cX7_isWord 4 = .ok (.aload_n 0, 1) := by decide +kernel
theorem dX7_isWord_5 : decode cX7_isWord 5 = .ok (.getfield 23, 3) := by decide +kernel
theorem dX7_isWord_8 : decode cX7_isWord 8 = .ok (.aload_n 0, 1) := by decide +kernel
theorem dX7_isWord_9 : decode cX7_isWord 9 = .ok (.getfield 102, 3) := by decide +kernel
theorem dX7_isWord_12 : decode cX7_isWord 12 = .ok (.isub, 1) := by decide +kernel
theorem dX7_isWord_13 : decode cX7_isWord 13 = .ok (.if_icmp .eq 5, 3) := by decide +kernel
theorem dX7_isWord_16 : decode cX7_isWord 16 = .ok (.iconst 0, 1) := by decide +kernel
theorem dX7_isWord_17 : decode cX7_isWord 17 = .ok (.ireturn, 1) := by decide +kernel
theorem dX7_isWord_18 : decode cX7_isWord 18 = .ok (.iconst 0, 1) := by decide +kernel
theorem dX7_isWord_19 : decode cX7_isWord 19 = .ok (.istore_n 2, 1) := by decide +kernel
theorem dX7_isWord_20 : decode cX7_isWord 20 = .ok (.iload_n 2, 1) := by decide +kernel
theorem dX7_isWord_21 : decode cX7_isWord 21 = .ok (.aload_n 1, 1) := by decide +kernel
theorem dX7_isWord_22 : decode cX7_isWord 22 = .ok (.invokevirtual 109, 3) := by decide +kernel
theorem dX7_isWord_25 : decode cX7_isWord 25 = .ok (.if_icmp .ge 30, 3) := by decide +kernel
theorem dX7_isWord_28 : decode cX7_isWord 28 = .ok (.aload_n 0, 1) := by decide +kernel
theorem dX7_isWord_29 : decode cX7_isWord 29 = .ok (.getfield 9, 3) := by decide +kernel
theorem dX7_isWord_32 : decode cX7_isWord 32 = .ok (.aload_n 0, 1) := by decide +kernel
theorem dX7_isWord_33 : decode cX7_isWord 33 = .ok (.getfield 102, 3) := by decide +kernel
theorem dX7_isWord_36 : decode cX7_isWord 36 = .ok (.iload_n 2, 1) := by decide +kernel
theorem dX7_isWord_37 : decode cX7_isWord 37 = .ok (.iadd, 1) := by decide +kernel
theorem dX7_isWord_38 : decode cX7_isWord 38 = .ok (.iaload, 1) := by decide +kernel
theorem dX7_isWord_39 : decode cX7_isWord 39 = .ok (.aload_n 1, 1) := by decide +kernel
theorem dX7_isWord_40 : decode cX7_isWord 40 = .ok (.iload_n 2, 1) := by decide +kernel
theorem dX7_isWord_41 : decode cX7_isWord 41 = .ok (.invokevirtual 113, 3) := by decide +kernel
theorem dX7_isWord_44 : decode cX7_isWord 44 = .ok (.if_icmp .eq 5, 3) := by decide +kernel
theorem dX7_isWord_47 : decode cX7_isWord 47 = .ok (.iconst 0, 1) := by decide +kernel
theorem dX7_isWord_48 : decode cX7_isWord 48 = .ok (.ireturn, 1) := by decide +kernel
theorem dX7_isWord_49 : decode cX7_isWord 49 = .ok (.iinc 2 1, 3) := by decide +kernel
theorem dX7_isWord_52 : decode cX7_isWord 52 = .ok (.goto (-32), 3) := by decide +kernel
theorem dX7_isWord_55 : decode cX7_isWord 55 = .ok (.iconst 1, 1) := by decide +kernel
theorem dX7_isWord_56 : decode cX7_isWord 56 = .ok (.ireturn, 1) := by decide +kernel
set_option maxRecDepth 20000 in
theorem ggX7_step_X7_tokenAt : GoodIn wsX7_step wsX7_tokenAt := goodIn_r _ [10, 3, 4, 11, 12, 13, 14, 15, 16, 17, 18, 19] (by decide +kernel) (by decide +kernel)
set_option maxRecDepth 20000 in
theorem gX7_step_X7_tokenAt : GoodIn wsX7_step (wsV RX7 117 RX7 yX7_tokenAt wsX7_tokenAt) := goodIn_app (goodIn_of _ (by decide +kernel)) ggX7_step_X7_tokenAt
theorem dX7_step_0 : decode cX7_step 0 = .ok (.aload_n 0, 1) := by decide +kernel
theorem dX7_step_1 : decode cX7_step 1 = .ok (.aload_n 0, 1) := by decide +kernel
theorem dX7_step_2 : decode cX7_step 2 = .ok (.getfield 23, 3) := by decide +kernel
theorem dX7_step_5 : decode cX7_step 5 = .ok (.putfield 102, 3) := by decide +kernel
theorem dX7_step_8 : decode cX7_step 8 = .ok (.aload_n 0, 1) := by decide +kernel
theorem dX7_step_9 : decode cX7_step 9 = .ok (.getfield 102, 3) := by decide +kernel
theorem dX7_step_12 : decode cX7_step 12 = .ok (.aload_n 0, 1) := by decide +kernel
theorem dX7_step_13 : decode cX7_step 13 = .ok (.getfield 15, 3) := by decide +kernel
theorem dX7_step_16 : decode cX7_step 16 = .ok (.if_icmp .ge 30, 3) := by decide +kernel
theorem dX7_step_19 : decode cX7_step 19 = .ok (.aload_n 0, 1) := by decide +kernel
theorem dX7_step_20 : decode cX7_step 20 = .ok (.getfield 9, 3) := by decide +kernel
theorem dX7_step_23 : decode cX7_step 23 = .ok (.aload_n 0, 1) := by decide +kernel
theorem dX7_step_24 : decode cX7_step 24 = .ok (.getfield 102, 3) := by decide +kernel
theorem dX7_step_27 : decode cX7_step 27 = .ok (.iaload, 1) := by decide +kernel
theorem dX7_step_28 : decode cX7_step 28 = .ok (.bipush 32, 2) := by decide +kernel
theorem dX7_step_30 : decode cX7_step 30 = .ok (.if_icmp .ne 16, 3) := by decide +kernel
theorem dX7_step_33 : decode cX7_step 33 = .ok (.aload_n 0, 1) := by decide +kernel
theorem dX7_step_34 : decode cX7_step 34 = .ok (.dup, 1) := by decide +kernel
theorem dX7_step_35 : decode cX7_step 35 = .ok (.getfield 102, 3) := by decide +kernel
theorem dX7_step_38 : decode cX7_step 38 = .ok (.iconst 1, 1) := by decide +kernel
theorem dX7_step_39 : decode cX7_step 39 = .ok (.iadd, 1) := by decide +kernel
theorem dX7_step_40 : decode cX7_step 40 = .ok (.putfield 102, 3) := by decide +kernel
theorem dX7_step_43 : decode cX7_step 43 = .ok (.goto (-35), 3) := by decide +kernel
theorem dX7_step_46 : decode cX7_step 46 = .ok (.aload_n 0, 1) := by decide +kernel
theorem dX7_step_47 : decode cX7_step 47 = .ok (.aload_n 0, 1) := by decide +kernel
theorem dX7_step_48 : decode cX7_step 48 = .ok (.getfield 102, 3) := by decide +kernel
theorem dX7_step_51 : decode cX7_step 51 = .ok (.putfield 23, 3) := by decide +kernel
theorem dX7_step_54 : decode cX7_step 54 = .ok (.aload_n 0, 1) := by decide +kernel
theorem dX7_step_55 : decode cX7_step 55 = .ok (.aload_n 0, 1) := by decide +kernel
theorem dX7_step_56 : decode cX7_step 56 = .ok (.aload_n 0, 1) := by decide +kernel
theorem dX7_step_57 : decode cX7_step 57 = .ok (.getfield 102, 3) := by decide +kernel
theorem dX7_step_60 : decode cX7_step 60 = .ok (.invokevirtual 117, 3) := by decide +kernel
theorem dX7_step_63 : decode cX7_step 63 = .ok (.putfield 37, 3) := by decide +kernel
theorem dX7_step_66 : decode cX7_step 66 = .ok (.aload_n 0, 1) := by decide +kernel
theorem dX7_step_67 : decode cX7_step 67 = .ok (.getfield 37, 3) := by decide +kernel
theorem dX7_step_70 : decode cX7_step 70 = .ok (.iconst 3, 1) := by decide +kernel
theorem dX7_step_71 : decode cX7_step 71 = .ok (.if_icmp .ne 13, 3) := by decide +kernel
theorem dX7_step_74 : decode cX7_step 74 = .ok (.aload_n 0, 1) := by decide +kernel
theorem dX7_step_75 : decode cX7_step 75 = .ok (.dup, 1) := by decide +kernel
theorem dX7_step_76 : decode cX7_step 76 = .ok (.getfield 23, 3) := by decide +kernel
theorem dX7_step_79 : decode cX7_step 79 = .ok (.iconst 1, 1) := by decide +kernel
theorem dX7_step_80 : decode cX7_step 80 = .ok (.iadd, 1) := by decide +kernel
theorem dX7_step_81 : decode cX7_step 81 = .ok (.putfield 23, 3) := by decide +kernel
theorem dX7_step_84 : decode cX7_step 84 = .ok (.aload_n 0, 1) := by decide +kernel
theorem dX7_step_85 : decode cX7_step 85 = .ok (.getfield 37, 3) := by decide +kernel
theorem dX7_step_88 : decode cX7_step 88 = .ok (.iconst 1, 1) := by decide +kernel
theorem dX7_step_89 : decode cX7_step 89 = .ok (.if_icmp .eq 11, 3) := by decide +kernel
theorem dX7_step_92 : decode cX7_step 92 = .ok (.aload_n 0, 1) := by decide +kernel
theorem dX7_step_93 : decode cX7_step 93 = .ok (.getfield 37, 3) := by decide +kernel
theorem dX7_step_96 : decode cX7_step 96 = .ok (.iconst 2, 1) := by decide +kernel
theorem dX7_step_97 : decode cX7_step 97 = .ok (.if_icmp .ne 42, 3) := by decide +kernel
theorem dX7_step_100 : decode cX7_step 100 = .ok (.aload_n 0, 1) := by decide +kernel
theorem dX7_step_101 : decode cX7_step 101 = .ok (.getfield 23, 3) := by decide +kernel
theorem dX7_step_104 : decode cX7_step 104 = .ok (.aload_n 0, 1) := by decide +kernel
theorem dX7_step_105 : decode cX7_step 105 = .ok (.getfield 15, 3) := by decide +kernel
theorem dX7_step_108 : decode cX7_step 108 = .ok (.if_icmp .ge 31, 3) := by decide +kernel
theorem dX7_step_111 : decode cX7_step 111 = .ok (.aload_n 0, 1) := by decide +kernel
theorem dX7_step_112 : decode cX7_step 112 = .ok (.aload_n 0, 1) := by decide +kernel
theorem dX7_step_113 : decode cX7_step 113 = .ok (.getfield 23, 3) := by decide +kernel
theorem dX7_step_116 : decode cX7_step 116 = .ok (.invokevirtual 117, 3) := by decide +kernel
theorem dX7_step_119 : decode cX7_step 119 = .ok (.aload_n 0, 1) := by decide +kernel
theorem dX7_step_120 : decode cX7_step 120 = .ok (.getfield 37, 3) := by decide +kernel
theorem dX7_step_123 : decode cX7_step 123 = .ok (.if_icmp .ne 16, 3) := by decide +kernel
theorem dX7_step_126 : decode cX7_step 126 = .ok (.aload_n 0, 1) := by decide +kernel
theorem dX7_step_127 : decode cX7_step 127 = .ok (.dup, 1) := by decide +kernel
theorem dX7_step_128 : decode cX7_step 128 = .ok (.getfield 23, 3) := by decide +kernel
theorem dX7_step_131 : decode cX7_step 131 = .ok (.iconst 1, 1) := by decide +kernel
theorem dX7_step_132 : decode cX7_step 132 = .ok (.iadd, 1) := by decide +kernel
theorem dX7_step_133 : decode cX7_step 133 = .ok (.putfield 23, 3) := by decide +kernel
theorem dX7_step_136 : decode cX7_step 136 = .ok (.goto (-52), 3) := by decide +kernel
theorem dX7_step_139 : decode cX7_step 139 = .ok (.return_, 1) := by decide +kernel
set_option maxRecDepth 20000 in
theorem ggX7_tokenAt_X8_within : GoodIn wsX7_tokenAt wsX8_within := goodIn_r _ [5] (by decide +kernel) (by decide +kernel)
set_option maxRecDepth 20000 in
theorem gX7_tokenAt_X8_within_n19 : GoodIn wsX7_tokenAt (wsX8_within) := ggX7_tokenAt_X8_within
theorem dX7_tokenAt_0 : decode cX7_tokenAt 0 = .ok (.iload_n 1, 1) := by decide +kernel
theorem dX7_tokenAt_1 : decode cX7_tokenAt 1 = .ok (.iconst 0, 1) := by decide +kernel
theorem dX7_tokenAt_2 : decode cX7_tokenAt 2 = .ok (.aload_n 0, 1) := by decide +kernel
theorem dX7_tokenAt_3 : decode cX7_tokenAt 3 = .ok (.getfield 15, 3) := by decide +kernel
theorem dX7_tokenAt_6 : decode cX7_tokenAt 6 = .ok (.iconst 1, 1) := by decide +kernel
theorem dX7_tokenAt_7 : decode cX7_tokenAt 7 = .ok (.isub, 1) := by decide +kernel
theorem dX7_tokenAt_8 : decode cX7_tokenAt 8 = .ok (.invokestatic 19, 3) := by decide +kernel
theorem dX7_tokenAt_11 : decode cX7_tokenAt 11 = .ok (.ifCond .ne 5, 3) := by decide +kernel
theorem dX7_tokenAt_14 : decode cX7_tokenAt 14 = .ok (.iconst 0, 1) := by decide +kernel
theorem dX7_tokenAt_15 : decode cX7_tokenAt 15 = .ok (.ireturn, 1) := by decide +kernel
theorem dX7_tokenAt_16 : decode cX7_tokenAt 16 = .ok (.aload_n 0, 1) := by decide +kernel
theorem dX7_tokenAt_17 : decode cX7_tokenAt 17 = .ok (.getfield 9, 3) := by decide +kernel
theorem dX7_tokenAt_20 : decode cX7_tokenAt 20 = .ok (.iload_n 1, 1) := by decide +kernel
theorem dX7_tokenAt_21 : decode cX7_tokenAt 21 = .ok (.iaload, 1) := by decide +kernel
theorem dX7_tokenAt_22 : decode cX7_tokenAt 22 = .ok (.bipush 97, 2) := by decide +kernel
theorem dX7_tokenAt_24 : decode cX7_tokenAt 24 = .ok (.bipush 122, 2) := by decide +kernel
theorem dX7_tokenAt_26 : decode cX7_tokenAt 26 = .ok (.invokestatic 19, 3) := by decide +kernel
theorem dX7_tokenAt_29 : decode cX7_tokenAt 29 = .ok (.ifCond .eq 5, 3) := by decide +kernel
theorem dX7_tokenAt_32 : decode cX7_tokenAt 32 = .ok (.iconst 1, 1) := by decide +kernel
theorem dX7_tokenAt_33 : decode cX7_tokenAt 33 = .ok (.ireturn, 1) := by decide +kernel
theorem dX7_tokenAt_34 : decode cX7_tokenAt 34 = .ok (.aload_n 0, 1) := by decide +kernel
theorem dX7_tokenAt_35 : decode cX7_tokenAt 35 = .ok (.getfield 9, 3) := by decide +kernel
theorem dX7_tokenAt_38 : decode cX7_tokenAt 38 = .ok (.iload_n 1, 1) := by decide +kernel
theorem dX7_tokenAt_39 : decode cX7_tokenAt 39 = .ok (.iaload, 1) := by decide +kernel
theorem dX7_tokenAt_40 : decode cX7_tokenAt 40 = .ok (.bipush 48, 2) := by decide +kernel
theorem dX7_tokenAt_42 : decode cX7_tokenAt 42 = .ok (.bipush 57, 2) := by decide +kernel
theorem dX7_tokenAt_44 : decode cX7_tokenAt 44 = .ok (.invokestatic 19, 3) := by decide +kernel
theorem dX7_tokenAt_47 : decode cX7_tokenAt 47 = .ok (.ifCond .eq 5, 3) := by decide +kernel
theorem dX7_tokenAt_50 : decode cX7_tokenAt 50 = .ok (.iconst 2, 1) := by decide +kernel
theorem dX7_tokenAt_51 : decode cX7_tokenAt 51 = .ok (.ireturn, 1) := by decide +kernel
theorem dX7_tokenAt_52 : decode cX7_tokenAt 52 = .ok (.aload_n 0, 1) := by decide +kernel
theorem dX7_tokenAt_53 : decode cX7_tokenAt 53 = .ok (.getfield 9, 3) := by decide +kernel
theorem dX7_tokenAt_56 : decode cX7_tokenAt 56 = .ok (.iload_n 1, 1) := by decide +kernel
theorem dX7_tokenAt_57 : decode cX7_tokenAt 57 = .ok (.iaload, 1) := by decide +kernel
theorem dX7_tokenAt_58 : decode cX7_tokenAt 58 = .ok (.bipush 59, 2) := by decide +kernel
theorem dX7_tokenAt_60 : decode cX7_tokenAt 60 = .ok (.if_icmp .ne 7, 3) := by decide +kernel
theorem dX7_tokenAt_63 : decode cX7_tokenAt 63 = .ok (.iconst 3, 1) := by decide +kernel
theorem dX7_tokenAt_64 : decode cX7_tokenAt 64 = .ok (.goto 4, 3) := by decide +kernel
theorem dX7_tokenAt_67 : decode cX7_tokenAt 67 = .ok (.iconst 4, 1) := by decide +kernel
theorem dX7_tokenAt_68 : decode cX7_tokenAt 68 = .ok (.ireturn, 1) := by decide +kernel
theorem dJ6_bitCount_0f7a4_0 : decode cJ6_bitCount_0f7a4 0 = .ok (.iload_n 0, 1) := by decide +kernel
theorem dJ6_bitCount_0f7a4_1 : decode cJ6_bitCount_0f7a4 1 = .ok (.iload_n 0, 1) := by decide +kernel
theorem dJ6_bitCount_0f7a4_2 : decode cJ6_bitCount_0f7a4 2 = .ok (.iconst 1, 1) := by decide +kernel
theorem dJ6_bitCount_0f7a4_3 : decode cJ6_bitCount_0f7a4 3 = .ok (.iushr, 1) := by decide +kernel
theorem dJ6_bitCount_0f7a4_4 : decode cJ6_bitCount_0f7a4 4 = .ok (.ldc_w 265, 3) := by decide +kernel
theorem dJ6_bitCount_0f7a4_7 : decode cJ6_bitCount_0f7a4 7 = .ok (.iand, 1) := by decide +kernel
theorem dJ6_bitCount_0f7a4_8 : decode cJ6_bitCount_0f7a4 8 = .ok (.isub, 1) := by decide +kernel
theorem dJ6_bitCount_0f7a4_9 : decode cJ6_bitCount_0f7a4 9 = .ok (.istore_n 0, 1) := by decide +kernel
theorem dJ6_bitCount_0f7a4_10 : decode cJ6_bitCount_0f7a4 10 = .ok (.iload_n 0, 1) := by decide +kernel
theorem dJ6_bitCount_0f7a4_11 : decode cJ6_bitCount_0f7a4 11 = .ok (.ldc_w 266, 3) := by decide +kernel
theorem dJ6_bitCount_0f7a4_14 : decode cJ6_bitCount_0f7a4 14 = .ok (.iand, 1) := by decide +kernel
theorem dJ6_bitCount_0f7a4_15 : decode cJ6_bitCount_0f7a4 15 = .ok (.iload_n 0, 1) := by decide +kernel
theorem dJ6_bitCount_0f7a4_16 : decode cJ6_bitCount_0f7a4 16 = .ok (.iconst 2, 1) := by decide +kernel
theorem dJ6_bitCount_0f7a4_17 : decode cJ6_bitCount_0f7a4 17 = .ok (.iushr, 1) := by decide +kernel
theorem dJ6_bitCount_0f7a4_18 : decode cJ6_bitCount_0f7a4 18 = .ok (.ldc_w 266, 3) := by decide +kernel
theorem dJ6_bitCount_0f7a4_21 : decode cJ6_bitCount_0f7a4 21 = .ok (.iand, 1) := by decide +kernel
theorem dJ6_bitCount_0f7a4_22 : decode cJ6_bitCount_0f7a4 22 = .ok (.iadd, 1) := by decide +kernel
theorem dJ6_bitCount_0f7a4_23 : decode cJ6_bitCount_0f7a4 23 = .ok (.istore_n 0, 1) := by decide +kernel
theorem dJ6_bitCount_0f7a4_24 : decode cJ6_bitCount_0f7a4 24 = .ok (.iload_n 0, 1) := by decide +kernel
theorem dJ6_bitCount_0f7a4_25 : decode cJ6_bitCount_0f7a4 25 = .ok (.iload_n 0, 1) := by decide +kernel
theorem dJ6_bitCount_0f7a4_26 : decode cJ6_bitCount_0f7a4 26 = .ok (.iconst 4, 1) := by decide +kernel
theorem dJ6_bitCount_0f7a4_27 : decode cJ6_bitCount_0f7a4 27 = .ok (.iushr, 1) := by decide +kernel
theorem dJ6_bitCount_0f7a4_28 : decode cJ6_bitCount_0f7a4 28 = .ok (.iadd, 1) := by decide +kernel
theorem dJ6_bitCount_0f7a4_29 : decode cJ6_bitCount_0f7a4 29 = .ok (.ldc_w 267, 3) := by decide +kernel
theorem dJ6_bitCount_0f7a4_32 : decode cJ6_bitCount_0f7a4 32 = .ok (.iand, 1) := by decide +kernel
theorem dJ6_bitCount_0f7a4_33 : decode cJ6_bitCount_0f7a4 33 = .ok (.istore_n 0, 1) := by decide +kernel
theorem dJ6_bitCount_0f7a4_34 : decode cJ6_bitCount_0f7a4 34 = .ok (.iload_n 0, 1) := by decide +kernel
theorem dJ6_bitCount_0f7a4_35 : decode cJ6_bitCount_0f7a4 35 = .ok (.iload_n 0, 1) := by decide +kernel
theorem dJ6_bitCount_0f7a4_36 : decode cJ6_bitCount_0f7a4 36 = .ok (.bipush 8, 2) := by decide +kernel
theorem dJ6_bitCount_0f7a4_38 : decode cJ6_bitCount_0f7a4 38 = .ok (.iushr, 1) := by decide +kernel
theorem dJ6_bitCount_0f7a4_39 : decode cJ6_bitCount_0f7a4 39 = .ok (.iadd, 1) := by decide +kernel
theorem dJ6_bitCount_0f7a4_40 : decode cJ6_bitCount_0f7a4 40 = .ok (.istore_n 0, 1) := by decide +kernel
theorem dJ6_bitCount_0f7a4_41 : decode cJ6_bitCount_0f7a4 41 = .ok (.iload_n 0, 1) := by decide +kernel
theorem dJ6_bitCount_0f7a4_42 : decode cJ6_bitCount_0f7a4 42 = .ok (.iload_n 0, 1) := by decide +kernel
theorem dJ6_bitCount_0f7a4_43 : decode cJ6_bitCount_0f7a4 43 = .ok (.bipush 16, 2) := by decide +kernel
theorem dJ6_bitCount_0f7a4_45 : decode cJ6_bitCount_0f7a4 45 = .ok (.iushr, 1) := by decide +kernel
theorem dJ6_bitCount_0f7a4_46 : decode cJ6_bitCount_0f7a4 46 = .ok (.iadd, 1) := by decide +kernel
theorem dJ6_bitCount_0f7a4_47 : decode cJ6_bitCount_0f7a4 47 = .ok (.istore_n 0, 1) := by decide +kernel
theorem dJ6_bitCount_0f7a4_48 : decode cJ6_bitCount_0f7a4 48 = .ok (.iload_n 0, 1) := by decide +kernel
theorem dJ6_bitCount_0f7a4_49 : decode cJ6_bitCount_0f7a4 49 = .ok (.bipush 63, 2) := by decide +kernel
theorem dJ6_bitCount_0f7a4_51 : decode cJ6_bitCount_0f7a4 51 = .ok (.iand, 1) := by decide +kernel
theorem dJ6_bitCount_0f7a4_52 : decode cJ6_bitCount_0f7a4 52 = .ok (.ireturn, 1) := by decide +kernel
theorem dJ9_min_7cf53_0 : decode cJ9_min_7cf53 0 = .ok (.iload_n 0, 1) := by decide +kernel
theorem dJ9_min_7cf53_1 : decode cJ9_min_7cf53 1 = .ok (.iload_n 1, 1) := by decide +kernel
theorem dJ9_min_7cf53_2 : decode cJ9_min_7cf53 2 = .ok (.if_icmp .gt 7, 3) := by decide +kernel
theorem dJ9_min_7cf53_5 : decode cJ9_min_7cf53 5 = .ok (.iload_n 0, 1) := by decide +kernel
theorem dJ9_min_7cf53_6 : decode cJ9_min_7cf53 6 = .ok (.goto 4, 3) := by decide +kernel
theorem dJ9_min_7cf53_9 : decode cJ9_min_7cf53 9 = .ok (.iload_n 1, 1) := by decide +kernel
theorem dJ9_min_7cf53_10 : decode cJ9_min_7cf53 10 = .ok (.ireturn, 1) := by decide +kernel
set_option maxRecDepth 20000 in
theorem ggJ0_length_8abf5_J0_coder_7d493 : GoodIn wsJ0_length_8abf5 wsJ0_coder_7d493 := goodIn_r _ [6, 7, 8] (by decide +kernel) (by decide +kernel)
set_option maxRecDepth 20000 in
theorem gJ0_length_8abf5_J0_coder_7d493 : GoodIn wsJ0_length_8abf5 (wsV RJ0 335 RJ0 yJ0_coder_7d493 wsJ0_coder_7d493) := goodIn_app (goodIn_of _ (by decide +kernel)) ggJ0_length_8abf5_J0_coder_7d493
theorem dJ0_length_8abf5_0 : decode cJ0_length_8abf5 0 = .ok (.aload_n 0, 1) := by decide +kernel
theorem dJ0_length_8abf5_1 : decode cJ0_length_8abf5 1 = .ok (.getfield 9, 3) := by decide +kernel
theorem dJ0_length_8abf5_4 : decode cJ0_length_8abf5 4 = .ok (.arraylength, 1) := by decide +kernel
theorem dJ0_length_8abf5_5 : decode cJ0_length_8abf5 5 = .ok (.aload_n 0, 1) := by decide +kernel
theorem dJ0_length_8abf5_6 : decode cJ0_length_8abf5 6 = .ok (.invokevirtual 335, 3) := by decide +kernel
theorem dJ0_length_8abf5_9 : decode cJ0_length_8abf5 9 = .ok (.ishr, 1) := by decide +kernel
theorem dJ0_length_8abf5_10 : decode cJ0_length_8abf5 10 = .ok (.ireturn, 1) := by decide +kernel
set_option maxRecDepth 20000 in
theorem ggJ0_charAt_5068e_J0_isLatin1_aae02 : GoodIn wsJ0_charAt_5068e wsJ0_isLatin1_aae02 := goodIn_r _ [6, 7, 8] (by decide +kernel) (by decide +kernel)
set_option maxRecDepth 20000 in
theorem gJ0_charAt_5068e_J0_isLatin1_aae02 : GoodIn wsJ0_charAt_5068e (wsV RJ0 492 RJ0 yJ0_isLatin1_aae02 wsJ0_isLatin1_aae02) := goodIn_app (goodIn_of _ (by decide +kernel)) ggJ0_charAt_5068e_J0_isLatin1_aae02
set_option maxRecDepth 20000 in
theorem ggJ0_charAt_5068e_J1_charAt_3b067 : GoodIn wsJ0_charAt_5068e wsJ1_charAt_3b067 := goodIn_r _ [12, 13, 14, 5, 15, 16, 17, 18, 19, 20] (by decide +kernel) (by decide +kernel)
set_option maxRecDepth 20000 in
theorem gJ0_charAt_5068e_J1_charAt_3b067 : GoodIn wsJ0_charAt_5068e (va_wsS RJ0 495 yJ1_charAt_3b067 wsJ1_charAt_3b067) := goodIn_app (goodIn_of _ (by decide +kernel)) ggJ0_charAt_5068e_J1_charAt_3b067
set_option maxRecDepth 20000 in
theorem ggJ0_charAt_5068e_J2_charAt_3b067 : GoodIn wsJ0_charAt_5068e wsJ2_charAt_3b067 := goodIn_r _ [24, 25, 26, 23, 27, 28, 29, 30, 31, 14, 5, 15, 16, 17, 18, 19, 20, 32, 33, 34, 35, 36, 37] (by decide +kernel) (by decide +kernel)
set_option maxRecDepth 20000 in
theorem gJ0_charAt_5068e_J2_charAt_3b067 : GoodIn wsJ0_charAt_5068e (va_wsS RJ0 498 yJ2_charAt_3b067 wsJ2_charAt_3b067) := goodIn_app (goodIn_of _ (by decide +kernel)) ggJ0_charAt_5068e_J2_charAt_3b067
theorem dJ0_charAt_5068e_0 : decode cJ0_charAt_5068e 0 = .ok (.aload_n 0, 1) := by decide +kernel
theorem dJ0_charAt_5068e_1 : decode cJ0_charAt_5068e 1 = .ok (.invokevirtual 492, 3) := by decide +kernel
theorem dJ0_charAt_5068e_4 : decode cJ0_charAt_5068e 4 = .ok (.ifCond .eq 12, 3) := by decide +kernel
theorem dJ0_charAt_5068e_7 : decode cJ0_charAt_5068e 7 = .ok (.aload_n 0, 1) := by decide +kernel
theorem dJ0_charAt_5068e_8 : decode cJ0_charAt_5068e 8 = .ok (.getfield 9, 3) := by decide +kernel
theorem dJ0_charAt_5068e_11 : decode cJ0_charAt_5068e 11 = .ok (.iload_n 1, 1) := by decide +kernel
theorem dJ0_charAt_5068e_12 : decode cJ0_charAt_5068e 12 = .ok (.invokestatic 495, 3) := by decide +kernel
theorem dJ0_charAt_5068e_15 : decode cJ0_charAt_5068e 15 = .ok (.ireturn, 1) := by decide +kernel
theorem dJ0_charAt_5068e_16 : decode cJ0_charAt_5068e 16 = .ok (.aload_n 0, 1) := by decide +kernel
theorem dJ0_charAt_5068e_17 : decode cJ0_charAt_5068e 17 = .ok (.getfield 9, 3) := by decide +kernel
theorem dJ0_charAt_5068e_20 : decode cJ0_charAt_5068e 20 = .ok (.iload_n 1, 1) := by decide +kernel
theorem dJ0_charAt_5068e_21 : decode cJ0_charAt_5068e 21 = .ok (.invokestatic 498, 3) := by decide +kernel
theorem dJ0_charAt_5068e_24 : decode cJ0_charAt_5068e 24 = .ok (.ireturn, 1) := by decide +kernel
theorem dJ0_coder_7d493_0 : decode cJ0_coder_7d493 0 = .ok (.getstatic 38, 3) := by decide +kernel
theorem dJ0_coder_7d493_3 : decode cJ0_coder_7d493 3 = .ok (.ifCond .eq 10, 3) := by decide +kernel
theorem dJ0_coder_7d493_6 : decode cJ0_coder_7d493 6 = .ok (.aload_n 0, 1) := by decide +kernel
theorem dJ0_coder_7d493_7 : decode cJ0_coder_7d493 7 = .ok (.getfield 15, 3) := by decide +kernel
theorem dJ0_coder_7d493_10 : decode cJ0_coder_7d493 10 = .ok (.goto 4, 3) := by decide +kernel
theorem dJ0_coder_7d493_13 : decode cJ0_coder_7d493 13 = .ok (.iconst 1, 1) := by decide +kernel
theorem dJ0_coder_7d493_14 : decode cJ0_coder_7d493 14 = .ok (.ireturn, 1) := by decide +kernel
theorem dJ0_isLatin1_aae02_0 : decode cJ0_isLatin1_aae02 0 = .ok (.getstatic 38, 3) := by decide +kernel
theorem dJ0_isLatin1_aae02_3 : decode cJ0_isLatin1_aae02 3 = .ok (.ifCond .eq 14, 3) := by decide +kernel
theorem dJ0_isLatin1_aae02_6 : decode cJ0_isLatin1_aae02 6 = .ok (.aload_n 0, 1) := by decide +kernel
theorem dJ0_isLatin1_aae02_7 : decode cJ0_isLatin1_aae02 7 = .ok (.getfield 15, 3) := by decide +kernel
theorem dJ0_isLatin1_aae02_10 : decode cJ0_isLatin1_aae02 10 = .ok (.ifCond .ne 7, 3) := by decide +kernel
theorem dJ0_isLatin1_aae02_13 : decode cJ0_isLatin1_aae02 13 = .ok (.iconst 1, 1) := by decide +kernel
theorem dJ0_isLatin1_aae02_14 : decode cJ0_isLatin1_aae02 14 = .ok (.goto 4, 3) := by decide +kernel
theorem dJ0_isLatin1_aae02_17 : decode cJ0_isLatin1_aae02 17 = .ok (.iconst 0, 1) := by decide +kernel
theorem dJ0_isLatin1_aae02_18 : decode cJ0_isLatin1_aae02 18 = .ok (.ireturn, 1) := by decide +kernel
set_option maxRecDepth 20000 in
theorem ggJ0_checkIndex_df160_J3_checkIndex_8e157 : GoodIn wsJ0_checkIndex_df160 wsJ3_checkIndex_8e157 := goodIn_r _ [5] (by decide +kernel) (by decide +kernel)
set_option maxRecDepth 20000 in
theorem gJ0_checkIndex_df160_J3_checkIndex_8e157 : GoodIn wsJ0_checkIndex_df160 (va_wsS RJ0 1059 yJ3_checkIndex_8e157 wsJ3_checkIndex_8e157) := goodIn_app (goodIn_of _ (by decide +kernel)) ggJ0_checkIndex_df160_J3_checkIndex_8e157
theorem dJ0_checkIndex_df160_0 : decode cJ0_checkIndex_df160 0 = .ok (.iload_n 0, 1) := by decide +kernel
theorem dJ0_checkIndex_df160_1 : decode cJ0_checkIndex_df160 1 = .ok (.iload_n 1, 1) := by decide +kernel
theorem dJ0_checkIndex_df160_2 : decode cJ0_checkIndex_df160 2 = .ok (.getstatic 1053, 3) := by decide +kernel
theorem dJ0_checkIndex_df160_5 : decode cJ0_checkIndex_df160 5 = .ok (.invokestatic 1059, 3) := by decide +kernel
theorem dJ0_checkIndex_df160_8 : decode cJ0_checkIndex_df160 8 = .ok (.pop, 1) := by decide +kernel
theorem dJ0_checkIndex_df160_9 : decode cJ0_checkIndex_df160 9 = .ok (.return_, 1) := by decide +kernel
set_option maxRecDepth 20000 in
theorem ggJ1_charAt_3b067_J0_checkIndex_df160 : GoodIn wsJ1_charAt_3b067 wsJ0_checkIndex_df160 := goodIn_r _ [4, 5, 6, 7, 8, 9] (by decide +kernel) (by decide +kernel)
set_option maxRecDepth 20000 in
theorem gJ1_charAt_3b067_J0_checkIndex_df160 : GoodIn wsJ1_charAt_3b067 (va_wsS RJ1 9 yJ0_checkIndex_df160 wsJ0_checkIndex_df160) := goodIn_app (goodIn_of _ (by decide +kernel)) ggJ1_charAt_3b067_J0_checkIndex_df160
theorem dJ1_charAt_3b067_0 : decode cJ1_charAt_3b067 0 = .ok (.iload_n 1, 1) := by decide +kernel
theorem dJ1_charAt_3b067_1 : decode cJ1_charAt_3b067 1 = .ok (.aload_n 0, 1) := by decide +kernel
theorem dJ1_charAt_3b067_2 : decode cJ1_charAt_3b067 2 = .ok (.arraylength, 1) := by decide +kernel
theorem dJ1_charAt_3b067_3 : decode cJ1_charAt_3b067 3 = .ok (.invokestatic 9, 3) := by decide +kernel
theorem dJ1_charAt_3b067_6 : decode cJ1_charAt_3b067 6 = .ok (.aload_n 0, 1) := by decide +kernel
theorem dJ1_charAt_3b067_7 : decode cJ1_charAt_3b067 7 = .ok (.iload_n 1, 1) := by decide +kernel
theorem dJ1_charAt_3b067_8 : decode cJ1_charAt_3b067 8 = .ok (.baload, 1) := by decide +kernel
theorem dJ1_charAt_3b067_9 : decode cJ1_charAt_3b067 9 = .ok (.sipush 255, 3) := by decide +kernel
theorem dJ1_charAt_3b067_12 : decode cJ1_charAt_3b067 12 = .ok (.iand, 1) := by decide +kernel
theorem dJ1_charAt_3b067_13 : decode cJ1_charAt_3b067 13 = .ok (.i2c, 1) := by decide +kernel
theorem dJ1_charAt_3b067_14 : decode cJ1_charAt_3b067 14 = .ok (.ireturn, 1) := by decide +kernel
set_option maxRecDepth 20000 in
theorem ggJ2_getChar_3b067_J2_length_9d52b : GoodIn wsJ2_getChar_3b067 wsJ2_length_9d52b := goodIn_r _ [7] (by decide +kernel) (by decide +kernel)
set_option maxRecDepth 20000 in
theorem gJ2_getChar_3b067_J2_length_9d52b : GoodIn wsJ2_getChar_3b067 (va_wsS RJ2 48 yJ2_length_9d52b wsJ2_length_9d52b) := goodIn_app (goodIn_of _ (by decide +kernel)) ggJ2_getChar_3b067_J2_length_9d52b
theorem dJ2_getChar_3b067_0 : decode cJ2_getChar_3b067 0 = .ok (.getstatic 44, 3) := by decide +kernel
theorem dJ2_getChar_3b067_3 : decode cJ2_getChar_3b067 3 = .ok (.ifCond .ne 25, 3) := by decide +kernel
theorem dJ2_getChar_3b067_6 : decode cJ2_getChar_3b067 6 = .ok (.iload_n 1, 1) := by decide +kernel
theorem dJ2_getChar_3b067_7 : decode cJ2_getChar_3b067 7 = .ok (.ifCond .lt 11, 3) := by decide +kernel
theorem dJ2_getChar_3b067_10 : decode cJ2_getChar_3b067 10 = .ok (.iload_n 1, 1) := by decide +kernel
theorem dJ2_getChar_3b067_11 : decode cJ2_getChar_3b067 11 = .ok (.aload_n 0, 1) := by decide +kernel
theorem dJ2_getChar_3b067_12 : decode cJ2_getChar_3b067 12 = .ok (.invokestatic 48, 3) := by decide +kernel
theorem dJ2_getChar_3b067_15 : decode cJ2_getChar_3b067 15 = .ok (.if_icmp .lt 13, 3) := by decide +kernel
theorem dJ2_getChar_3b067_18 : decode cJ2_getChar_3b067 18 = .ok (.new 52, 3) := by decide +kernel
theorem dJ2_getChar_3b067_21 : decode cJ2_getChar_3b067 21 = .ok (.dup, 1) := by decide +kernel
theorem dJ2_getChar_3b067_22 : decode cJ2_getChar_3b067 22 = .ok (.ldc 54, 2) := by decide +kernel
theorem dJ2_getChar_3b067_24 : decode cJ2_getChar_3b067 24 = .ok (.invokespecial 56, 3) := by decide +kernel
theorem dJ2_getChar_3b067_27 : decode cJ2_getChar_3b067 27 = .ok (.athrow, 1) := by decide +kernel
theorem dJ2_getChar_3b067_28 : decode cJ2_getChar_3b067 28 = .ok (.iload_n 1, 1) := by decide +kernel
theorem dJ2_getChar_3b067_29 : decode cJ2_getChar_3b067 29 = .ok (.iconst 1, 1) := by decide +kernel
theorem dJ2_getChar_3b067_30 : decode cJ2_getChar_3b067 30 = .ok (.ishl, 1) := by decide +kernel
theorem dJ2_getChar_3b067_31 : decode cJ2_getChar_3b067 31 = .ok (.istore_n 1, 1) := by decide +kernel
theorem dJ2_getChar_3b067_32 : decode cJ2_getChar_3b067 32 = .ok (.aload_n 0, 1) := by decide +kernel
theorem dJ2_getChar_3b067_33 : decode cJ2_getChar_3b067 33 = .ok (.iload_n 1, 1) := by decide +kernel
theorem dJ2_getChar_3b067_34 : decode cJ2_getChar_3b067 34 = .ok (.iinc 1 1, 3) := by decide +kernel
theorem dJ2_getChar_3b067_37 : decode cJ2_getChar_3b067 37 = .ok (.baload, 1) := by decide +kernel
theorem dJ2_getChar_3b067_38 : decode cJ2_getChar_3b067 38 = .ok (.sipush 255, 3) := by decide +kernel
theorem dJ2_getChar_3b067_41 : decode cJ2_getChar_3b067 41 = .ok (.iand, 1) := by decide +kernel
theorem dJ2_getChar_3b067_42 : decode cJ2_getChar_3b067 42 = .ok (.getstatic 59, 3) := by decide +kernel
theorem dJ2_getChar_3b067_45 : decode cJ2_getChar_3b067 45 = .ok (.ishl, 1) := by decide +kernel
theorem dJ2_getChar_3b067_46 : decode cJ2_getChar_3b067 46 = .ok (.aload_n 0, 1) := by decide +kernel
theorem dJ2_getChar_3b067_47 : decode cJ2_getChar_3b067 47 = .ok (.iload_n 1, 1) := by decide +kernel
theorem dJ2_getChar_3b067_48 : decode cJ2_getChar_3b067 48 = .ok (.baload, 1) := by decide +kernel
theorem dJ2_getChar_3b067_49 : decode cJ2_getChar_3b067 49 = .ok (.sipush 255, 3) := by decide +kernel
theorem dJ2_getChar_3b067_52 : decode cJ2_getChar_3b067 52 = .ok (.iand, 1) := by decide +kernel
theorem dJ2_getChar_3b067_53 : decode cJ2_getChar_3b067 53 = .ok (.getstatic 63, 3) := by decide +kernel
theorem dJ2_getChar_3b067_56 : decode cJ2_getChar_3b067 56 = .ok (.ishl, 1) := by decide +kernel
theorem dJ2_getChar_3b067_57 : decode cJ2_getChar_3b067 57 = .ok (.ior, 1) := by decide +kernel
theorem dJ2_getChar_3b067_58 : decode cJ2_getChar_3b067 58 = .ok (.i2c, 1) := by decide +kernel
theorem dJ2_getChar_3b067_59 : decode cJ2_getChar_3b067 59 = .ok (.ireturn, 1) := by decide +kernel
theorem dJ2_length_9d52b_0 : decode cJ2_length_9d52b 0 = .ok (.aload_n 0, 1) := by decide +kernel
theorem dJ2_length_9d52b_1 : decode cJ2_length_9d52b 1 = .ok (.arraylength, 1) := by decide +kernel
theorem dJ2_length_9d52b_2 : decode cJ2_length_9d52b 2 = .ok (.iconst 1, 1) := by decide +kernel
theorem dJ2_length_9d52b_3 : decode cJ2_length_9d52b 3 = .ok (.ishr, 1) := by decide +kernel
theorem dJ2_length_9d52b_4 : decode cJ2_length_9d52b 4 = .ok (.ireturn, 1) := by decide +kernel
set_option maxRecDepth 20000 in
theorem ggJ2_charAt_3b067_J2_checkIndex_2214a : GoodIn wsJ2_charAt_3b067 wsJ2_checkIndex_2214a := goodIn_r _ [4, 5, 6, 3, 7, 8, 9, 10, 11, 12, 13, 14, 15, 16] (by decide +kernel) (by decide +kernel)
set_option maxRecDepth 20000 in
theorem gJ2_charAt_3b067_J2_checkIndex_2214a : GoodIn wsJ2_charAt_3b067 (va_wsS RJ2 67 yJ2_checkIndex_2214a wsJ2_checkIndex_2214a) := goodIn_app (goodIn_of _ (by decide +kernel)) ggJ2_charAt_3b067_J2_checkIndex_2214a
set_option maxRecDepth 20000 in
theorem ggJ2_charAt_3b067_J2_getChar_3b067 : GoodIn wsJ2_charAt_3b067 wsJ2_getChar_3b067 := goodIn_r _ [19, 20, 21, 22, 5, 6, 3, 7] (by decide +kernel) (by decide +kernel)
set_option maxRecDepth 20000 in
theorem gJ2_charAt_3b067_J2_getChar_3b067 : GoodIn wsJ2_charAt_3b067 (va_wsS RJ2 71 yJ2_getChar_3b067 wsJ2_getChar_3b067) := goodIn_app (goodIn_of _ (by decide +kernel)) ggJ2_charAt_3b067_J2_getChar_3b067
theorem dJ2_charAt_3b067_0 : decode cJ2_charAt_3b067 0 = .ok (.iload_n 1, 1) := by decide +kernel
theorem dJ2_charAt_3b067_1 : decode cJ2_charAt_3b067 1 = .ok (.aload_n 0, 1) := by decide +kernel
theorem dJ2_charAt_3b067_2 : decode cJ2_charAt_3b067 2 = .ok (.invokestatic 67, 3) := by decide +kernel
theorem dJ2_charAt_3b067_5 : decode cJ2_charAt_3b067 5 = .ok (.aload_n 0, 1) := by decide +kernel
theorem dJ2_charAt_3b067_6 : decode cJ2_charAt_3b067 6 = .ok (.iload_n 1, 1) := by decide +kernel
theorem dJ2_charAt_3b067_7 : decode cJ2_charAt_3b067 7 = .ok (.invokestatic 71, 3) := by decide +kernel
theorem dJ2_charAt_3b067_10 : decode cJ2_charAt_3b067 10 = .ok (.ireturn, 1) := by decide +kernel
set_option maxRecDepth 20000 in
theorem ggJ2_checkIndex_2214a_J2_length_9d52b : GoodIn wsJ2_checkIndex_2214a wsJ2_length_9d52b := goodIn_r _ [4] (by decide +kernel) (by decide +kernel)
set_option maxRecDepth 20000 in
theorem gJ2_checkIndex_2214a_J2_length_9d52b : GoodIn wsJ2_checkIndex_2214a (va_wsS RJ2 48 yJ2_length_9d52b wsJ2_length_9d52b) := goodIn_app (goodIn_of _ (by decide +kernel)) ggJ2_checkIndex_2214a_J2_length_9d52b
set_option maxRecDepth 20000 in
theorem ggJ2_checkIndex_2214a_J0_checkIndex_df160 : GoodIn wsJ2_checkIndex_2214a wsJ0_checkIndex_df160 := goodIn_r _ [8, 9, 10, 11, 12, 13] (by decide +kernel) (by decide +kernel)
set_option maxRecDepth 20000 in
theorem gJ2_checkIndex_2214a_J0_checkIndex_df160 : GoodIn wsJ2_checkIndex_2214a (va_wsS RJ2 414 yJ0_checkIndex_df160 wsJ0_checkIndex_df160) := goodIn_app (goodIn_of _ (by decide +kernel)) ggJ2_checkIndex_2214a_J0_checkIndex_df160
theorem dJ2_checkIndex_2214a_0 : decode cJ2_checkIndex_2214a 0 = .ok (.iload_n 0, 1) := by decide +kernel
theorem dJ2_checkIndex_2214a_1 : decode cJ2_checkIndex_2214a 1 = .ok (.aload_n 1, 1) := by decide +kernel
theorem dJ2_checkIndex_2214a_2 : decode cJ2_checkIndex_2214a 2 = .ok (.invokestatic 48, 3) := by decide +kernel
theorem dJ2_checkIndex_2214a_5 : decode cJ2_checkIndex_2214a 5 = .ok (.invokestatic 414, 3) := by decide +kernel
theorem dJ2_checkIndex_2214a_8 : decode cJ2_checkIndex_2214a 8 = .ok (.return_, 1) := by decide +kernel
theorem dJ7_fill_d0a16_0 : decode cJ7_fill_d0a16 0 = .ok (.iconst 0, 1) := by decide +kernel
theorem dJ7_fill_d0a16_1 : decode cJ7_fill_d0a16 1 = .ok (.istore_n 3, 1) := by decide +kernel
theorem dJ7_fill_d0a16_2 : decode cJ7_fill_d0a16 2 = .ok (.aload_n 0, 1) := by decide +kernel
theorem dJ7_fill_d0a16_3 : decode cJ7_fill_d0a16 3 = .ok (.arraylength, 1) := by decide +kernel
theorem dJ7_fill_d0a16_4 : decode cJ7_fill_d0a16 4 = .ok (.istore 4, 2) := by decide +kernel
theorem dJ7_fill_d0a16_6 : decode cJ7_fill_d0a16 6 = .ok (.iload_n 3, 1) := by decide +kernel
theorem dJ7_fill_d0a16_7 : decode cJ7_fill_d0a16 7 = .ok (.iload 4, 2) := by decide +kernel
theorem dJ7_fill_d0a16_9 : decode cJ7_fill_d0a16 9 = .ok (.if_icmp .ge 13, 3) := by decide +kernel
theorem dJ7_fill_d0a16_12 : decode cJ7_fill_d0a16 12 = .ok (.aload_n 0, 1) := by decide +kernel
theorem dJ7_fill_d0a16_13 : decode cJ7_fill_d0a16 13 = .ok (.iload_n 3, 1) := by decide +kernel
theorem dJ7_fill_d0a16_14 : decode cJ7_fill_d0a16 14 = .ok (.lload_n 1, 1) := by decide +kernel
theorem dJ7_fill_d0a16_15 : decode cJ7_fill_d0a16 15 = .ok (.lastore, 1) := by decide +kernel
theorem dJ7_fill_d0a16_16 : decode cJ7_fill_d0a16 16 = .ok (.iinc 3 1, 3) := by decide +kernel
theorem dJ7_fill_d0a16_19 : decode cJ7_fill_d0a16 19 = .ok (.goto (-13), 3) := by decide +kernel
theorem dJ7_fill_d0a16_22 : decode cJ7_fill_d0a16 22 = .ok (.return_, 1) := by decide +kernel
theorem dJ7_fill_53178_0 : decode cJ7_fill_53178 0 = .ok (.iconst 0, 1) := by decide +kernel
theorem dJ7_fill_53178_1 : decode cJ7_fill_53178 1 = .ok (.istore_n 2, 1) := by decide +kernel
theorem dJ7_fill_53178_2 : decode cJ7_fill_53178 2 = .ok (.aload_n 0, 1) := by decide +kernel
theorem dJ7_fill_53178_3 : decode cJ7_fill_53178 3 = .ok (.arraylength, 1) := by decide +kernel
theorem dJ7_fill_53178_4 : decode cJ7_fill_53178 4 = .ok (.istore_n 3, 1) := by decide +kernel
theorem dJ7_fill_53178_5 : decode cJ7_fill_53178 5 = .ok (.iload_n 2, 1) := by decide +kernel
theorem dJ7_fill_53178_6 : decode cJ7_fill_53178 6 = .ok (.iload_n 3, 1) := by decide +kernel
theorem dJ7_fill_53178_7 : decode cJ7_fill_53178 7 = .ok (.if_icmp .ge 13, 3) := by decide +kernel
theorem dJ7_fill_53178_10 : decode cJ7_fill_53178 10 = .ok (.aload_n 0, 1) := by decide +kernel
theorem dJ7_fill_53178_11 : decode cJ7_fill_53178 11 = .ok (.iload_n 2, 1) := by decide +kernel
theorem dJ7_fill_53178_12 : decode cJ7_fill_53178 12 = .ok (.iload_n 1, 1) := by decide +kernel
theorem dJ7_fill_53178_13 : decode cJ7_fill_53178 13 = .ok (.iastore, 1) := by decide +kernel
theorem dJ7_fill_53178_14 : decode cJ7_fill_53178 14 = .ok (.iinc 2 1, 3) := by decide +kernel
theorem dJ7_fill_53178_17 : decode cJ7_fill_53178 17 = .ok (.goto (-12), 3) := by decide +kernel
theorem dJ7_fill_53178_20 : decode cJ7_fill_53178 20 = .ok (.return_, 1) := by decide +kernel
theorem dJ3_checkIndex_8e157_0 : decode cJ3_checkIndex_8e157 0 = .ok (.iload_n 0, 1) := by decide +kernel
theorem dJ3_checkIndex_8e157_1 : decode cJ3_checkIndex_8e157 1 = .ok (.ifCond .lt 8, 3) := by decide +kernel
theorem dJ3_checkIndex_8e157_4 : decode cJ3_checkIndex_8e157 4 = .ok (.iload_n 0, 1) := by decide +kernel
theorem dJ3_checkIndex_8e157_5 : decode cJ3_checkIndex_8e157 5 = .ok (.iload_n 1, 1) := by decide +kernel
theorem dJ3_checkIndex_8e157_6 : decode cJ3_checkIndex_8e157 6 = .ok (.if_icmp .lt 10, 3) := by decide +kernel
theorem dJ3_checkIndex_8e157_9 : decode cJ3_checkIndex_8e157 9 = .ok (.aload_n 2, 1) := by decide +kernel
theorem dJ3_checkIndex_8e157_10 : decode cJ3_checkIndex_8e157 10 = .ok (.iload_n 0, 1) := by decide +kernel
theorem dJ3_checkIndex_8e157_11 : decode cJ3_checkIndex_8e157 11 = .ok (.iload_n 1, 1) := by decide +kernel
theorem dJ3_checkIndex_8e157_12 : decode cJ3_checkIndex_8e157 12 = .ok (.invokestatic 95, 3) := by decide +kernel
theorem dJ3_checkIndex_8e157_15 : decode cJ3_checkIndex_8e157 15 = .ok (.athrow, 1) := by decide +kernel
theorem dJ3_checkIndex_8e157_16 : decode cJ3_checkIndex_8e157 16 = .ok (.iload_n 0, 1) := by decide +kernel
theorem dJ3_checkIndex_8e157_17 : decode cJ3_checkIndex_8e157 17 = .ok (.ireturn, 1) := by decide +kernel
