theorem dX9_partyOf_106 : decode cX9_partyOf 106 = .ok (.aload_n 0, 1) := by decide +kernel
theorem dX9_partyOf_107 : decode cX9_partyOf 107 = .ok (.iload_n 1, 1) := by decide +kernel
theorem dX9_partyOf_108 : decode cX9_partyOf 108 = .ok (.invokevirtual 278, 3) := by decide +kernel
theorem dX9_partyOf_111 : decode cX9_partyOf 111 = .ok (.ifCond .eq 7, 3) := by decide +kernel
theorem dX9_partyOf_114 : decode cX9_partyOf 114 = .ok (.iconst 1, 1) := by decide +kernel
theorem dX9_partyOf_115 : decode cX9_partyOf 115 = .ok (.goto 4, 3) := by decide +kernel
theorem dX9_partyOf_118 : decode cX9_partyOf 118 = .ok (.iconst 0, 1) := by decide +kernel
theorem dX9_partyOf_119 : decode cX9_partyOf 119 = .ok (.ireturn, 1) := by decide +kernel
theorem dX9_partyOf_120 : decode cX9_partyOf 120 = .ok (.aload_n 0, 1) := by decide +kernel
theorem dX9_partyOf_121 : decode cX9_partyOf 121 = .ok (.getfield 62, 3) := by decide +kernel
theorem dX9_partyOf_124 : decode cX9_partyOf 124 = .ok (.iload_n 1, 1) := by decide +kernel
theorem dX9_partyOf_125 : decode cX9_partyOf 125 = .ok (.iaload, 1) := by decide +kernel
theorem dX9_partyOf_126 : decode cX9_partyOf 126 = .ok (.ireturn, 1) := by decide +kernel
theorem dX9_partyOf_127 : decode cX9_partyOf 127 = .ok (.aload_n 0, 1) := by decide +kernel
theorem dX9_partyOf_128 : decode cX9_partyOf 128 = .ok (.getfield 65, 3) := by decide +kernel
theorem dX9_partyOf_131 : decode cX9_partyOf 131 = .ok (.iload_n 1, 1) := by decide +kernel
theorem dX9_partyOf_132 : decode cX9_partyOf 132 = .ok (.iaload, 1) := by decide +kernel
theorem dX9_partyOf_133 : decode cX9_partyOf 133 = .ok (.ireturn, 1) := by decide +kernel
set_option maxRecDepth 20000 in
theorem ggX9_heads_X9_isGroup : GoodIn wsX9_heads wsX9_isGroup := goodIn_r _ [5, 6, 7, 8, 4, 9, 27, 28, 29, 30, 31, 32, 33, 34, 35, 36, 37, 38, 39, 40, 41, 42, 43, 44, 45, 46, 47, 48, 49, 50, 51, 52, 53, 54, 55, 56, 57, 58, 59, 60, 61, 62, 63, 64, 65, 66, 67, 68] (by decide +kernel) (by decide +kernel)
set_option maxRecDepth 20000 in
theorem gX9_heads_X9_isGroup : GoodIn wsX9_heads (wsV RX9 281 RX9 yX9_isGroup wsX9_isGroup) := goodIn_app (goodIn_of _ (by decide +kernel)) ggX9_heads_X9_isGroup
set_option maxRecDepth 20000 in
theorem ggX9_heads_X9_headsTogether : GoodIn wsX9_heads wsX9_headsTogether := goodIn_r _ [13, 6, 14, 15, 16, 4, 17, 18, 19, 20, 21, 27, 28, 29, 30, 31, 32, 33, 34, 35, 36, 37, 38, 39, 40, 41, 42, 43, 44, 45, 46, 47, 48, 49, 50, 51, 52, 53, 54, 55, 56, 57, 58, 59, 60, 61, 62, 63, 64, 65, 66, 67, 68] (by decide +kernel) (by decide +kernel)
set_option maxRecDepth 20000 in
theorem gX9_heads_X9_headsTogether : GoodIn wsX9_heads (wsV RX9 272 RX9 yX9_headsTogether wsX9_headsTogether) := goodIn_app (goodIn_of _ (by decide +kernel)) ggX9_heads_X9_headsTogether
set_option maxRecDepth 20000 in
theorem ggX9_heads_X9_refuse : GoodIn wsX9_heads wsX9_refuse := goodIn_r _ [25, 26, 27, 28, 29, 30, 31, 32, 33, 34, 35, 36, 37, 38, 39, 40, 41, 42, 43, 44, 45, 46, 47, 48, 49, 50, 51, 52, 53, 54, 55, 56, 57, 58, 59, 60, 61, 62, 63, 64, 65, 66, 67, 68] (by decide +kernel) (by decide +kernel)
set_option maxRecDepth 20000 in
theorem gX9_heads_X9_refuse : GoodIn wsX9_heads (wsV RX9 109 RX9 yX9_refuse wsX9_refuse) := goodIn_app (goodIn_of _ (by decide +kernel)) ggX9_heads_X9_refuse
theorem dX9_heads_0 : decode cX9_heads 0 = .ok (.aload_n 0, 1) := by decide +kernel
theorem dX9_heads_1 : decode cX9_heads 1 = .ok (.iload_n 1, 1) := by decide +kernel
theorem dX9_heads_2 : decode cX9_heads 2 = .ok (.i2l, 1) := by decide +kernel
theorem dX9_heads_3 : decode cX9_heads 3 = .ok (.invokevirtual 281, 3) := by decide +kernel
theorem dX9_heads_6 : decode cX9_heads 6 = .ok (.ifCond .eq 11, 3) := by decide +kernel
theorem dX9_heads_9 : decode cX9_heads 9 = .ok (.aload_n 0, 1) := by decide +kernel
theorem dX9_heads_10 : decode cX9_heads 10 = .ok (.iload_n 1, 1) := by decide +kernel
theorem dX9_heads_11 : decode cX9_heads 11 = .ok (.invokevirtual 272, 3) := by decide +kernel
theorem dX9_heads_14 : decode cX9_heads 14 = .ok (.goto 10, 3) := by decide +kernel
theorem dX9_heads_17 : decode cX9_heads 17 = .ok (.aload_n 0, 1) := by decide +kernel
theorem dX9_heads_18 : decode cX9_heads 18 = .ok (.sipush (-1002), 3) := by decide +kernel
theorem dX9_heads_21 : decode cX9_heads 21 = .ok (.invokevirtual 109, 3) := by decide +kernel
theorem dX9_heads_24 : decode cX9_heads 24 = .ok (.ireturn, 1) := by decide +kernel
set_option maxRecDepth 20000 in
theorem ggX9_hire_X9_isGroup : GoodIn wsX9_hire wsX9_isGroup := goodIn_r _ [5, 6, 7, 8, 4, 9, 55, 56, 57, 58, 59, 60, 61, 62, 63, 64, 65, 66, 67, 68, 69, 70, 71, 72, 73, 74, 75, 76, 77, 78, 79, 80, 81, 82, 83, 84, 85, 86, 87, 88, 89, 90, 91, 92, 93, 94, 95, 96] (by decide +kernel) (by decide +kernel)
set_option maxRecDepth 20000 in
theorem gX9_hire_X9_isGroup : GoodIn wsX9_hire (wsV RX9 281 RX9 yX9_isGroup wsX9_isGroup) := goodIn_app (goodIn_of _ (by decide +kernel)) ggX9_hire_X9_isGroup
set_option maxRecDepth 20000 in
theorem ggX9_hire_X9_hireOf : GoodIn wsX9_hire wsX9_hireOf := goodIn_r _ [13, 14, 15, 16, 17, 4, 18, 19, 20, 21, 22, 23, 6, 24, 25, 26, 27, 28, 29, 30, 31, 32, 33, 34, 35, 36, 37, 38, 39, 40, 41, 42, 43, 7, 8, 9, 44, 45, 46, 47, 48, 49, 55, 56, 57, 58, 59, 60, 61, 62, 63, 64, 65, 66, 67, 68, 69, 70, 71, 72, 73, 74, 75, 76, 77, 78, 79, 80, 81, 82, 83, 84, 85, 86, 87, 88, 89, 90, 91, 92, 93, 94, 95, 96] (by decide +kernel) (by decide +kernel)
set_option maxRecDepth 20000 in
theorem gX9_hire_X9_hireOf : GoodIn wsX9_hire (wsV RX9 284 RX9 yX9_hireOf wsX9_hireOf) := goodIn_app (goodIn_of _ (by decide +kernel)) ggX9_hire_X9_hireOf
set_option maxRecDepth 20000 in
theorem ggX9_hire_X9_refuse : GoodIn wsX9_hire wsX9_refuse := goodIn_r _ [53, 54, 55, 56, 57, 58, 59, 60, 61, 62, 63, 64, 65, 66, 67, 68, 69, 70, 71, 72, 73, 74, 75, 76, 77, 78, 79, 80, 81, 82, 83, 84, 85, 86, 87, 88, 89, 90, 91, 92, 93, 94, 95, 96] (by decide +kernel) (by decide +kernel)
set_option maxRecDepth 20000 in
theorem gX9_hire_X9_refuse : GoodIn wsX9_hire (wsV RX9 109 RX9 yX9_refuse wsX9_refuse) := goodIn_app (goodIn_of _ (by decide +kernel)) ggX9_hire_X9_refuse
theorem dX9_hire_0 : decode cX9_hire 0 = .ok (.aload_n 0, 1) := by decide +kernel
theorem dX9_hire_1 : decode cX9_hire 1 = .ok (.iload_n 1, 1) := by decide +kernel
theorem dX9_hire_2 : decode cX9_hire 2 = .ok (.i2l, 1) := by decide +kernel
theorem dX9_hire_3 : decode cX9_hire 3 = .ok (.invokevirtual 281, 3) := by decide +kernel
theorem dX9_hire_6 : decode cX9_hire 6 = .ok (.ifCond .eq 11, 3) := by decide +kernel
theorem dX9_hire_9 : decode cX9_hire 9 = .ok (.aload_n 0, 1) := by decide +kernel
theorem dX9_hire_10 : decode cX9_hire 10 = .ok (.iload_n 1, 1) := by decide +kernel
theorem dX9_hire_11 : decode cX9_hire 11 = .ok (.invokevirtual 284, 3) := by decide +kernel
theorem dX9_hire_14 : decode cX9_hire 14 = .ok (.goto 10, 3) := by decide +kernel
theorem dX9_hire_17 : decode cX9_hire 17 = .ok (.aload_n 0, 1) := by decide +kernel
theorem dX9_hire_18 : decode cX9_hire 18 = .ok (.sipush (-1002), 3) := by decide +kernel
theorem dX9_hire_21 : decode cX9_hire 21 = .ok (.invokevirtual 109, 3) := by decide +kernel
theorem dX9_hire_24 : decode cX9_hire 24 = .ok (.ireturn, 1) := by decide +kernel
set_option maxRecDepth 20000 in
theorem ggX9_lacks_X9_isGroup : GoodIn wsX9_lacks wsX9_isGroup := goodIn_r _ [5, 6, 7, 8, 4, 9, 50, 51, 52, 53, 54, 55, 56, 57, 58, 59, 60, 61, 62, 63, 64, 65, 66, 67, 68, 69, 70, 71, 72, 73, 74, 75, 76, 77, 78, 79, 80, 81, 82, 83, 84, 85, 86, 87, 88, 89, 90, 91] (by decide +kernel) (by decide +kernel)
set_option maxRecDepth 20000 in
theorem gX9_lacks_X9_isGroup : GoodIn wsX9_lacks (wsV RX9 281 RX9 yX9_isGroup wsX9_isGroup) := goodIn_app (goodIn_of _ (by decide +kernel)) ggX9_lacks_X9_isGroup
set_option maxRecDepth 20000 in
theorem ggX9_lacks_X9_hireUpTo : GoodIn wsX9_lacks wsX9_hireUpTo := goodIn_r _ [13, 14, 15, 16, 4, 17, 18, 6, 19, 20, 21, 22, 23, 24, 25, 26, 27, 28, 29, 30, 31, 32, 33, 34, 35, 36, 37, 38, 7, 8, 9, 39, 40, 41, 42, 43, 44, 50, 51, 52, 53, 54, 55, 56, 57, 58, 59, 60, 61, 62, 63, 64, 65, 66, 67, 68, 69, 70, 71, 72, 73, 74, 75, 76, 77, 78, 79, 80, 81, 82, 83, 84, 85, 86, 87, 88, 89, 90, 91] (by decide +kernel) (by decide +kernel)
set_option maxRecDepth 20000 in
theorem gX9_lacks_X9_hireUpTo : GoodIn wsX9_lacks (wsV RX9 275 RX9 yX9_hireUpTo wsX9_hireUpTo) := goodIn_app (goodIn_of _ (by decide +kernel)) ggX9_lacks_X9_hireUpTo
set_option maxRecDepth 20000 in
theorem ggX9_lacks_X9_refuse : GoodIn wsX9_lacks wsX9_refuse := goodIn_r _ [48, 49, 50, 51, 52, 53, 54, 55, 56, 57, 58, 59, 60, 61, 62, 63, 64, 65, 66, 67, 68, 69, 70, 71, 72, 73, 74, 75, 76, 77, 78, 79, 80, 81, 82, 83, 84, 85, 86, 87, 88, 89, 90, 91] (by decide +kernel) (by decide +kernel)
set_option maxRecDepth 20000 in
theorem gX9_lacks_X9_refuse : GoodIn wsX9_lacks (wsV RX9 109 RX9 yX9_refuse wsX9_refuse) := goodIn_app (goodIn_of _ (by decide +kernel)) ggX9_lacks_X9_refuse
theorem dX9_lacks_0 : decode cX9_lacks 0 = .ok (.aload_n 0, 1) := by decide +kernel
theorem dX9_lacks_1 : decode cX9_lacks 1 = .ok (.iload_n 1, 1) := by decide +kernel
theorem dX9_lacks_2 : decode cX9_lacks 2 = .ok (.i2l, 1) := by decide +kernel
theorem dX9_lacks_3 : decode cX9_lacks 3 = .ok (.invokevirtual 281, 3) := by decide +kernel
theorem dX9_lacks_6 : decode cX9_lacks 6 = .ok (.ifCond .eq 13, 3) := by decide +kernel
theorem dX9_lacks_9 : decode cX9_lacks 9 = .ok (.aload_n 0, 1) := by decide +kernel
theorem dX9_lacks_10 : decode cX9_lacks 10 = .ok (.iload_n 1, 1) := by decide +kernel
theorem dX9_lacks_11 : decode cX9_lacks 11 = .ok (.bipush 99, 2) := by decide +kernel
theorem dX9_lacks_13 : decode cX9_lacks 13 = .ok (.invokevirtual 275, 3) := by decide +kernel
theorem dX9_lacks_16 : decode cX9_lacks 16 = .ok (.goto 10, 3) := by decide +kernel
theorem dX9_lacks_19 : decode cX9_lacks 19 = .ok (.aload_n 0, 1) := by decide +kernel
theorem dX9_lacks_20 : decode cX9_lacks 20 = .ok (.sipush (-1002), 3) := by decide +kernel
theorem dX9_lacks_23 : decode cX9_lacks 23 = .ok (.invokevirtual 109, 3) := by decide +kernel
theorem dX9_lacks_26 : decode cX9_lacks 26 = .ok (.ireturn, 1) := by decide +kernel
set_option maxRecDepth 20000 in
theorem ggX9_fare_X9_isGroup : GoodIn wsX9_fare wsX9_isGroup := goodIn_r _ [6, 7, 8, 9, 5, 10, 56, 57, 58, 59, 60, 61, 62, 63, 64, 65, 66, 67, 68, 69, 70, 71, 72, 73, 74, 75, 76, 77, 78, 79, 80, 81, 82, 83, 84, 85, 86, 87, 88, 89, 90, 91, 92, 93, 94, 95, 96, 97] (by decide +kernel) (by decide +kernel)
set_option maxRecDepth 20000 in
theorem gX9_fare_X9_isGroup : GoodIn wsX9_fare (wsV RX9 281 RX9 yX9_isGroup wsX9_isGroup) := goodIn_app (goodIn_of _ (by decide +kernel)) ggX9_fare_X9_isGroup
set_option maxRecDepth 20000 in
theorem ggX9_fare_X9_refuse : GoodIn wsX9_fare wsX9_refuse := goodIn_r _ [14, 15, 56, 57, 58, 59, 60, 61, 62, 63, 64, 65, 66, 67, 68, 69, 70, 71, 72, 73, 74, 75, 76, 77, 78, 79, 80, 81, 82, 83, 84, 85, 86, 87, 88, 89, 90, 91, 92, 93, 94, 95, 96, 97] (by decide +kernel) (by decide +kernel)
set_option maxRecDepth 20000 in
theorem gX9_fare_X9_refuse : GoodIn wsX9_fare (wsV RX9 109 RX9 yX9_refuse wsX9_refuse) := goodIn_app (goodIn_of _ (by decide +kernel)) ggX9_fare_X9_refuse
set_option maxRecDepth 20000 in
theorem ggX9_fare_X9_hireOf : GoodIn wsX9_fare wsX9_hireOf := goodIn_r _ [19, 20, 21, 22, 23, 5, 24, 25, 26, 27, 28, 29, 7, 30, 31, 32, 33, 34, 35, 36, 37, 38, 39, 40, 41, 42, 43, 44, 45, 46, 47, 48, 49, 8, 9, 10, 50, 51, 52, 53, 54, 55, 56, 57, 58, 59, 60, 61, 62, 63, 64, 65, 66, 67, 68, 69, 70, 71, 72, 73, 74, 75, 76, 77, 78, 79, 80, 81, 82, 83, 84, 85, 86, 87, 88, 89, 90, 91, 92, 93, 94, 95, 96, 97] (by decide +kernel) (by decide +kernel)
set_option maxRecDepth 20000 in
theorem gX9_fare_X9_hireOf : GoodIn wsX9_fare (wsV RX9 284 RX9 yX9_hireOf wsX9_hireOf) := goodIn_app (goodIn_of _ (by decide +kernel)) ggX9_fare_X9_hireOf
theorem dX9_fare_0 : decode cX9_fare 0 = .ok (.aload_n 0, 1) := by decide +kernel
theorem dX9_fare_1 : decode cX9_fare 1 = .ok (.iload_n 1, 1) := by decide +kernel
theorem dX9_fare_2 : decode cX9_fare 2 = .ok (.i2l, 1) := by decide +kernel
theorem dX9_fare_3 : decode cX9_fare 3 = .ok (.invokevirtual 281, 3) := by decide +kernel
theorem dX9_fare_6 : decode cX9_fare 6 = .ok (.ifCond .ne 11, 3) := by decide +kernel
theorem dX9_fare_9 : decode cX9_fare 9 = .ok (.aload_n 0, 1) := by decide +kernel
theorem dX9_fare_10 : decode cX9_fare 10 = .ok (.sipush (-1002), 3) := by decide +kernel
theorem dX9_fare_13 : decode cX9_fare 13 = .ok (.invokevirtual 109, 3) := by decide +kernel
theorem dX9_fare_16 : decode cX9_fare 16 = .ok (.ireturn, 1) := by decide +kernel
theorem dX9_fare_17 : decode cX9_fare 17 = .ok (.aload_n 0, 1) := by decide +kernel
theorem dX9_fare_18 : decode cX9_fare 18 = .ok (.iload_n 1, 1) := by decide +kernel
theorem dX9_fare_19 : decode cX9_fare 19 = .ok (.invokevirtual 284, 3) := by decide +kernel
theorem dX9_fare_22 : decode cX9_fare 22 = .ok (.istore_n 2, 1) := by decide +kernel
theorem dX9_fare_23 : decode cX9_fare 23 = .ok (.iload_n 2, 1) := by decide +kernel
theorem dX9_fare_24 : decode cX9_fare 24 = .ok (.iconst (-1), 1) := by decide +kernel
theorem dX9_fare_25 : decode cX9_fare 25 = .ok (.if_icmp .ne 7, 3) := by decide +kernel
theorem dX9_fare_28 : decode cX9_fare 28 = .ok (.iconst (-1), 1) := by decide +kernel
theorem dX9_fare_29 : decode cX9_fare 29 = .ok (.goto 9, 3) := by decide +kernel
theorem dX9_fare_32 : decode cX9_fare 32 = .ok (.iload_n 2, 1) := by decide +kernel
theorem dX9_fare_33 : decode cX9_fare 33 = .ok (.aload_n 0, 1) := by decide +kernel
theorem dX9_fare_34 : decode cX9_fare 34 = .ok (.getfield 47, 3) := by decide +kernel
theorem dX9_fare_37 : decode cX9_fare 37 = .ok (.imul, 1) := by decide +kernel
theorem dX9_fare_38 : decode cX9_fare 38 = .ok (.ireturn, 1) := by decide +kernel
set_option maxRecDepth 20000 in
theorem ggX9_spare_X9_isGroup : GoodIn wsX9_spare wsX9_isGroup := goodIn_r _ [6, 7, 8, 9, 5, 10, 55, 56, 57, 58, 59, 60, 61, 62, 63, 64, 65, 66, 67, 68, 69, 70, 71, 72, 73, 74, 75, 76, 77, 78, 79, 80, 81, 82, 83, 84, 85, 86, 87, 88, 89, 90, 91, 92, 93, 94, 95, 96] (by decide +kernel) (by decide +kernel)
set_option maxRecDepth 20000 in
theorem gX9_spare_X9_isGroup : GoodIn wsX9_spare (wsV RX9 281 RX9 yX9_isGroup wsX9_isGroup) := goodIn_app (goodIn_of _ (by decide +kernel)) ggX9_spare_X9_isGroup
set_option maxRecDepth 20000 in
theorem ggX9_spare_X9_refuse : GoodIn wsX9_spare wsX9_refuse := goodIn_r _ [14, 15, 55, 56, 57, 58, 59, 60, 61, 62, 63, 64, 65, 66, 67, 68, 69, 70, 71, 72, 73, 74, 75, 76, 77, 78, 79, 80, 81, 82, 83, 84, 85, 86, 87, 88, 89, 90, 91, 92, 93, 94, 95, 96] (by decide +kernel) (by decide +kernel)
set_option maxRecDepth 20000 in
theorem gX9_spare_X9_refuse : GoodIn wsX9_spare (wsV RX9 109 RX9 yX9_refuse wsX9_refuse) := goodIn_app (goodIn_of _ (by decide +kernel)) ggX9_spare_X9_refuse
set_option maxRecDepth 20000 in
theorem ggX9_spare_X9_hireOf : GoodIn wsX9_spare wsX9_hireOf := goodIn_r _ [19, 20, 21, 22, 23, 5, 24, 25, 26, 27, 28, 29, 7, 30, 31, 32, 33, 34, 35, 36, 37, 38, 39, 40, 41, 42, 43, 44, 45, 46, 47, 1, 48, 8, 9, 10, 49, 50, 51, 52, 53, 54, 55, 56, 57, 58, 59, 60, 61, 62, 63, 64, 65, 66, 67, 68, 69, 70, 71, 72, 73, 74, 75, 76, 77, 78, 79, 80, 81, 82, 83, 84, 85, 86, 87, 88, 89, 90, 91, 92, 93, 94, 95, 96] (by decide +kernel) (by decide +kernel)
set_option maxRecDepth 20000 in
theorem gX9_spare_X9_hireOf : GoodIn wsX9_spare (wsV RX9 284 RX9 yX9_hireOf wsX9_hireOf) := goodIn_app (goodIn_of _ (by decide +kernel)) ggX9_spare_X9_hireOf
set_option maxRecDepth 20000 in
theorem ggX9_spare_X9_headsTogether : GoodIn wsX9_spare wsX9_headsTogether := goodIn_r _ [35, 7, 36, 37, 38, 5, 39, 40, 41, 42, 43, 55, 56, 57, 58, 59, 60, 61, 62, 63, 64, 65, 66, 67, 68, 69, 70, 71, 72, 73, 74, 75, 76, 77, 78, 79, 80, 81, 82, 83, 84, 85, 86, 87, 88, 89, 90, 91, 92, 93, 94, 95, 96] (by decide +kernel) (by decide +kernel)
set_option maxRecDepth 20000 in
theorem gX9_spare_X9_headsTogether : GoodIn wsX9_spare (wsV RX9 272 RX9 yX9_headsTogether wsX9_headsTogether) := goodIn_app (goodIn_of _ (by decide +kernel)) ggX9_spare_X9_headsTogether
theorem dX9_spare_0 : decode cX9_spare 0 = .ok (.aload_n 0, 1) := by decide +kernel
theorem dX9_spare_1 : decode cX9_spare 1 = .ok (.iload_n 1, 1) := by decide +kernel
theorem dX9_spare_2 : decode cX9_spare 2 = .ok (.i2l, 1) := by decide +kernel
theorem dX9_spare_3 : decode cX9_spare 3 = .ok (.invokevirtual 281, 3) := by decide +kernel
theorem dX9_spare_6 : decode cX9_spare 6 = .ok (.ifCond .ne 11, 3) := by decide +kernel
theorem dX9_spare_9 : decode cX9_spare 9 = .ok (.aload_n 0, 1) := by decide +kernel
theorem dX9_spare_10 : decode cX9_spare 10 = .ok (.sipush (-1002), 3) := by decide +kernel
theorem dX9_spare_13 : decode cX9_spare 13 = .ok (.invokevirtual 109, 3) := by decide +kernel
theorem dX9_spare_16 : decode cX9_spare 16 = .ok (.ireturn, 1) := by decide +kernel
theorem dX9_spare_17 : decode cX9_spare 17 = .ok (.aload_n 0, 1) := by decide +kernel
theorem dX9_spare_18 : decode cX9_spare 18 = .ok (.iload_n 1, 1) := by decide +kernel
theorem dX9_spare_19 : decode cX9_spare 19 = .ok (.invokevirtual 284, 3) := by decide +kernel
theorem dX9_spare_22 : decode cX9_spare 22 = .ok (.istore_n 2, 1) := by decide +kernel
theorem dX9_spare_23 : decode cX9_spare 23 = .ok (.iload_n 2, 1) := by decide +kernel
theorem dX9_spare_24 : decode cX9_spare 24 = .ok (.iconst (-1), 1) := by decide +kernel
theorem dX9_spare_25 : decode cX9_spare 25 = .ok (.if_icmp .ne 7, 3) := by decide +kernel
theorem dX9_spare_28 : decode cX9_spare 28 = .ok (.iconst (-1), 1) := by decide +kernel
theorem dX9_spare_29 : decode cX9_spare 29 = .ok (.goto 15, 3) := by decide +kernel
theorem dX9_spare_32 : decode cX9_spare 32 = .ok (.aload_n 0, 1) := by decide +kernel
theorem dX9_spare_33 : decode cX9_spare 33 = .ok (.getfield 37, 3) := by decide +kernel
theorem dX9_spare_36 : decode cX9_spare 36 = .ok (.aload_n 0, 1) := by decide +kernel
theorem dX9_spare_37 : decode cX9_spare 37 = .ok (.iload_n 1, 1) := by decide +kernel
theorem dX9_spare_38 : decode cX9_spare 38 = .ok (.invokevirtual 272, 3) := by decide +kernel
theorem dX9_spare_41 : decode cX9_spare 41 = .ok (.isub, 1) := by decide +kernel
theorem dX9_spare_42 : decode cX9_spare 42 = .ok (.iload_n 2, 1) := by decide +kernel
theorem dX9_spare_43 : decode cX9_spare 43 = .ok (.isub, 1) := by decide +kernel
theorem dX9_spare_44 : decode cX9_spare 44 = .ok (.ireturn, 1) := by decide +kernel
set_option maxRecDepth 20000 in
theorem ggX9_purses_X9_isGroup : GoodIn wsX9_purses wsX9_isGroup := goodIn_r _ [7, 1, 8, 9, 6, 10, 16, 17, 18, 19, 20, 21, 22, 23, 24, 25, 26, 27, 28, 29, 30, 31, 32, 33, 34, 35, 36, 37, 38, 39, 40, 41, 42, 43, 44, 45, 46, 47, 48, 49, 50, 51, 52, 53, 54, 55, 56, 57] (by decide +kernel) (by decide +kernel)
set_option maxRecDepth 20000 in
theorem gX9_purses_X9_isGroup : GoodIn wsX9_purses (wsV RX9 281 RX9 yX9_isGroup wsX9_isGroup) := goodIn_app (goodIn_of _ (by decide +kernel)) ggX9_purses_X9_isGroup
set_option maxRecDepth 20000 in
theorem ggX9_purses_X9_refuse : GoodIn wsX9_purses wsX9_refuse := goodIn_r _ [14, 15, 16, 17, 18, 19, 20, 21, 22, 23, 24, 25, 26, 27, 28, 29, 30, 31, 32, 33, 34, 35, 36, 37, 38, 39, 40, 41, 42, 43, 44, 45, 46, 47, 48, 49, 50, 51, 52, 53, 54, 55, 56, 57] (by decide +kernel) (by decide +kernel)
set_option maxRecDepth 20000 in
theorem gX9_purses_X9_refuse : GoodIn wsX9_purses (wsV RX9 109 RX9 yX9_refuse wsX9_refuse) := goodIn_app (goodIn_of _ (by decide +kernel)) ggX9_purses_X9_refuse
theorem dX9_purses_0 : decode cX9_purses 0 = .ok (.aload_n 0, 1) := by decide +kernel
theorem dX9_purses_1 : decode cX9_purses 1 = .ok (.iload_n 1, 1) := by decide +kernel
theorem dX9_purses_2 : decode cX9_purses 2 = .ok (.i2l, 1) := by decide +kernel
theorem dX9_purses_3 : decode cX9_purses 3 = .ok (.invokevirtual 281, 3) := by decide +kernel
theorem dX9_purses_6 : decode cX9_purses 6 = .ok (.ifCond .ne 11, 3) := by decide +kernel
theorem dX9_purses_9 : decode cX9_purses 9 = .ok (.aload_n 0, 1) := by decide +kernel
theorem dX9_purses_10 : decode cX9_purses 10 = .ok (.sipush (-1002), 3) := by decide +kernel
theorem dX9_purses_13 : decode cX9_purses 13 = .ok (.invokevirtual 109, 3) := by decide +kernel
theorem dX9_purses_16 : decode cX9_purses 16 = .ok (.ireturn, 1) := by decide +kernel
theorem dX9_purses_17 : decode cX9_purses 17 = .ok (.iconst 0, 1) := by decide +kernel
theorem dX9_purses_18 : decode cX9_purses 18 = .ok (.istore_n 2, 1) := by decide +kernel
theorem dX9_purses_19 : decode cX9_purses 19 = .ok (.iconst 0, 1) := by decide +kernel
theorem dX9_purses_20 : decode cX9_purses 20 = .ok (.istore_n 3, 1) := by decide +kernel
theorem dX9_purses_21 : decode cX9_purses 21 = .ok (.iload_n 3, 1) := by decide +kernel
theorem dX9_purses_22 : decode cX9_purses 22 = .ok (.aload_n 0, 1) := by decide +kernel
theorem dX9_purses_23 : decode cX9_purses 23 = .ok (.getfield 93, 3) := by decide +kernel
theorem dX9_purses_26 : decode cX9_purses 26 = .ok (.if_icmp .ge 31, 3) := by decide +kernel
theorem dX9_purses_29 : decode cX9_purses 29 = .ok (.iload_n 2, 1) := by decide +kernel
theorem dX9_purses_30 : decode cX9_purses 30 = .ok (.iload_n 1, 1) := by decide +kernel
theorem dX9_purses_31 : decode cX9_purses 31 = .ok (.iload_n 3, 1) := by decide +kernel
theorem dX9_purses_32 : decode cX9_purses 32 = .ok (.ishr, 1) := by decide +kernel
theorem dX9_purses_33 : decode cX9_purses 33 = .ok (.iconst 1, 1) := by decide +kernel
theorem dX9_purses_34 : decode cX9_purses 34 = .ok (.iand, 1) := by decide +kernel
theorem dX9_purses_35 : decode cX9_purses 35 = .ok (.iconst 1, 1) := by decide +kernel
theorem dX9_purses_36 : decode cX9_purses 36 = .ok (.if_icmp .ne 12, 3) := by decide +kernel
theorem dX9_purses_39 : decode cX9_purses 39 = .ok (.aload_n 0, 1) := by decide +kernel
theorem dX9_purses_40 : decode cX9_purses 40 = .ok (.getfield 59, 3) := by decide +kernel
theorem dX9_purses_43 : decode cX9_purses 43 = .ok (.iload_n 3, 1) := by decide +kernel
theorem dX9_purses_44 : decode cX9_purses 44 = .ok (.iaload, 1) := by decide +kernel
theorem dX9_purses_45 : decode cX9_purses 45 = .ok (.goto 4, 3) := by decide +kernel
theorem dX9_purses_48 : decode cX9_purses 48 = .ok (.iconst 0, 1) := by decide +kernel
theorem dX9_purses_49 : decode cX9_purses 49 = .ok (.iadd, 1) := by decide +kernel
theorem dX9_purses_50 : decode cX9_purses 50 = .ok (.istore_n 2, 1) := by decide +kernel
theorem dX9_purses_51 : decode cX9_purses 51 = .ok (.iinc 3 1, 3) := by decide +kernel
theorem dX9_purses_54 : decode cX9_purses 54 = .ok (.goto (-33), 3) := by decide +kernel
theorem dX9_purses_57 : decode cX9_purses 57 = .ok (.iload_n 2, 1) := by decide +kernel
theorem dX9_purses_58 : decode cX9_purses 58 = .ok (.ireturn, 1) := by decide +kernel
set_option maxRecDepth 20000 in
theorem ggX9_waiting_X9_headsTogether : GoodIn wsX9_waiting wsX9_headsTogether := goodIn_r _ [7, 1, 8, 9, 10, 6, 11, 12, 13, 14, 15, 16, 17, 18, 19, 20, 21, 22, 23, 24, 25, 26, 27, 28, 29, 30, 31, 32, 33, 34, 35, 36, 37, 38, 39, 40, 41, 42, 43, 44, 45, 46, 47, 48, 49, 50, 51, 52, 53, 54, 55, 56, 57] (by decide +kernel) (by decide +kernel)
set_option maxRecDepth 20000 in
theorem gX9_waiting_X9_headsTogether : GoodIn wsX9_waiting (wsV RX9 272 RX9 yX9_headsTogether wsX9_headsTogether) := goodIn_app (goodIn_of _ (by decide +kernel)) ggX9_waiting_X9_headsTogether
theorem dX9_waiting_0 : decode cX9_waiting 0 = .ok (.aload_n 0, 1) := by decide +kernel
theorem dX9_waiting_1 : decode cX9_waiting 1 = .ok (.iconst 1, 1) := by decide +kernel
theorem dX9_waiting_2 : decode cX9_waiting 2 = .ok (.aload_n 0, 1) := by decide +kernel
theorem dX9_waiting_3 : decode cX9_waiting 3 = .ok (.getfield 93, 3) := by decide +kernel
theorem dX9_waiting_6 : decode cX9_waiting 6 = .ok (.ishl, 1) := by decide +kernel
theorem dX9_waiting_7 : decode cX9_waiting 7 = .ok (.iconst 1, 1) := by decide +kernel
theorem dX9_waiting_8 : decode cX9_waiting 8 = .ok (.isub, 1) := by decide +kernel
theorem dX9_waiting_9 : decode cX9_waiting 9 = .ok (.aload_n 0, 1) := by decide +kernel
theorem dX9_waiting_10 : decode cX9_waiting 10 = .ok (.getfield 100, 3) := by decide +kernel
theorem dX9_waiting_13 : decode cX9_waiting 13 = .ok (.iconst (-1), 1) := by decide +kernel
theorem dX9_waiting_14 : decode cX9_waiting 14 = .ok (.ixor, 1) := by decide +kernel
theorem dX9_waiting_15 : decode cX9_waiting 15 = .ok (.iand, 1) := by decide +kernel
theorem dX9_waiting_16 : decode cX9_waiting 16 = .ok (.invokevirtual 272, 3) := by decide +kernel
theorem dX9_waiting_19 : decode cX9_waiting 19 = .ok (.ireturn, 1) := by decide +kernel
set_option maxRecDepth 20000 in
theorem ggX9_many_X9_hireOf : GoodIn wsX9_many wsX9_hireOf := goodIn_r _ [6, 7, 8, 9, 10, 5, 11, 12, 13, 14, 15, 16, 1, 17, 18, 19, 20, 21, 22, 23, 24, 25, 26, 27, 28, 29, 30, 31, 32, 33, 34, 35, 36, 37, 38, 39, 40, 41, 42, 43, 44, 45, 46, 47, 48, 49, 50, 51, 52, 53, 54, 55, 56, 57, 58, 59, 60, 61, 62, 63, 64, 65, 66, 67, 68, 69, 70, 71, 72, 73, 74, 75, 76, 77, 78, 79, 80, 81, 82, 83, 84, 85, 86, 87] (by decide +kernel) (by decide +kernel)
set_option maxRecDepth 20000 in
theorem gX9_many_X9_hireOf : GoodIn wsX9_many (wsV RX9 284 RX9 yX9_hireOf wsX9_hireOf) := goodIn_app (goodIn_of _ (by decide +kernel)) ggX9_many_X9_hireOf
theorem dX9_many_0 : decode cX9_many 0 = .ok (.iconst 0, 1) := by decide +kernel
theorem dX9_many_1 : decode cX9_many 1 = .ok (.istore_n 1, 1) := by decide +kernel
theorem dX9_many_2 : decode cX9_many 2 = .ok (.iconst 1, 1) := by decide +kernel
theorem dX9_many_3 : decode cX9_many 3 = .ok (.istore_n 2, 1) := by decide +kernel
theorem dX9_many_4 : decode cX9_many 4 = .ok (.iload_n 2, 1) := by decide +kernel
theorem dX9_many_5 : decode cX9_many 5 = .ok (.iconst 1, 1) := by decide +kernel
theorem dX9_many_6 : decode cX9_many 6 = .ok (.aload_n 0, 1) := by decide +kernel
theorem dX9_many_7 : decode cX9_many 7 = .ok (.getfield 93, 3) := by decide +kernel
theorem dX9_many_10 : decode cX9_many 10 = .ok (.ishl, 1) := by decide +kernel
theorem dX9_many_11 : decode cX9_many 11 = .ok (.if_icmp .ge 26, 3) := by decide +kernel
theorem dX9_many_14 : decode cX9_many 14 = .ok (.iload_n 1, 1) := by decide +kernel
theorem dX9_many_15 : decode cX9_many 15 = .ok (.aload_n 0, 1) := by decide +kernel
theorem dX9_many_16 : decode cX9_many 16 = .ok (.iload_n 2, 1) := by decide +kernel
theorem dX9_many_17 : decode cX9_many 17 = .ok (.invokevirtual 284, 3) := by decide +kernel
theorem dX9_many_20 : decode cX9_many 20 = .ok (.iconst (-1), 1) := by decide +kernel
theorem dX9_many_21 : decode cX9_many 21 = .ok (.if_icmp .ne 7, 3) := by decide +kernel
theorem dX9_many_24 : decode cX9_many 24 = .ok (.iconst 0, 1) := by decide +kernel
theorem dX9_many_25 : decode cX9_many 25 = .ok (.goto 4, 3) := by decide +kernel
theorem dX9_many_28 : decode cX9_many 28 = .ok (.iconst 1, 1) := by decide +kernel
theorem dX9_many_29 : decode cX9_many 29 = .ok (.iadd, 1) := by decide +kernel
theorem dX9_many_30 : decode cX9_many 30 = .ok (.istore_n 1, 1) := by decide +kernel
theorem dX9_many_31 : decode cX9_many 31 = .ok (.iinc 2 1, 3) := by decide +kernel
theorem dX9_many_34 : decode cX9_many 34 = .ok (.goto (-30), 3) := by decide +kernel
theorem dX9_many_37 : decode cX9_many 37 = .ok (.iload_n 1, 1) := by decide +kernel
theorem dX9_many_38 : decode cX9_many 38 = .ok (.ireturn, 1) := by decide +kernel
set_option maxRecDepth 20000 in
theorem ggX9_stranded_X9_hireOf : GoodIn wsX9_stranded wsX9_hireOf := goodIn_r _ [7, 8, 9, 10, 11, 6, 12, 13, 14, 15, 16, 2, 1, 17, 18, 19, 20, 21, 22, 23, 24, 25, 26, 27, 28, 29, 30, 31, 32, 33, 34, 35, 36, 37, 38, 39, 40, 41, 42, 43, 44, 45, 46, 47, 48, 49, 50, 51, 52, 53, 54, 55, 56, 57, 58, 59, 60, 61, 62, 63, 64, 65, 66, 67, 68, 69, 70, 71, 72, 73, 74, 75, 76, 77, 78, 79, 80, 81, 82, 83, 84, 85, 86, 87] (by decide +kernel) (by decide +kernel)
set_option maxRecDepth 20000 in
theorem gX9_stranded_X9_hireOf : GoodIn wsX9_stranded (wsV RX9 284 RX9 yX9_hireOf wsX9_hireOf) := goodIn_app (goodIn_of _ (by decide +kernel)) ggX9_stranded_X9_hireOf
theorem dX9_stranded_0 : decode cX9_stranded 0 = .ok (.iconst 1, 1) := by decide +kernel
theorem dX9_stranded_1 : decode cX9_stranded 1 = .ok (.aload_n 0, 1) := by decide +kernel
theorem dX9_stranded_2 : decode cX9_stranded 2 = .ok (.getfield 93, 3) := by decide +kernel
theorem dX9_stranded_5 : decode cX9_stranded 5 = .ok (.ishl, 1) := by decide +kernel
theorem dX9_stranded_6 : decode cX9_stranded 6 = .ok (.iconst 1, 1) := by decide +kernel
theorem dX9_stranded_7 : decode cX9_stranded 7 = .ok (.isub, 1) := by decide +kernel
theorem dX9_stranded_8 : decode cX9_stranded 8 = .ok (.aload_n 0, 1) := by decide +kernel
theorem dX9_stranded_9 : decode cX9_stranded 9 = .ok (.getfield 100, 3) := by decide +kernel
theorem dX9_stranded_12 : decode cX9_stranded 12 = .ok (.iconst (-1), 1) := by decide +kernel
theorem dX9_stranded_13 : decode cX9_stranded 13 = .ok (.ixor, 1) := by decide +kernel
theorem dX9_stranded_14 : decode cX9_stranded 14 = .ok (.iand, 1) := by decide +kernel
theorem dX9_stranded_15 : decode cX9_stranded 15 = .ok (.istore_n 1, 1) := by decide +kernel
theorem dX9_stranded_16 : decode cX9_stranded 16 = .ok (.iconst 1, 1) := by decide +kernel
theorem dX9_stranded_17 : decode cX9_stranded 17 = .ok (.istore_n 2, 1) := by decide +kernel
theorem dX9_stranded_18 : decode cX9_stranded 18 = .ok (.iload_n 2, 1) := by decide +kernel
theorem dX9_stranded_19 : decode cX9_stranded 19 = .ok (.iconst 1, 1) := by decide +kernel
theorem dX9_stranded_20 : decode cX9_stranded 20 = .ok (.aload_n 0, 1) := by decide +kernel
theorem dX9_stranded_21 : decode cX9_stranded 21 = .ok (.getfield 93, 3) := by decide +kernel
theorem dX9_stranded_24 : decode cX9_stranded 24 = .ok (.ishl, 1) := by decide +kernel
theorem dX9_stranded_25 : decode cX9_stranded 25 = .ok (.if_icmp .ge 28, 3) := by decide +kernel
theorem dX9_stranded_28 : decode cX9_stranded 28 = .ok (.iload_n 1, 1) := by decide +kernel
theorem dX9_stranded_29 : decode cX9_stranded 29 = .ok (.aload_n 0, 1) := by decide +kernel
theorem dX9_stranded_30 : decode cX9_stranded 30 = .ok (.iload_n 2, 1) := by decide +kernel
theorem dX9_stranded_31 : decode cX9_stranded 31 = .ok (.invokevirtual 284, 3) := by decide +kernel
theorem dX9_stranded_34 : decode cX9_stranded 34 = .ok (.iconst (-1), 1) := by decide +kernel
theorem dX9_stranded_35 : decode cX9_stranded 35 = .ok (.if_icmp .ne 7, 3) := by decide +kernel
theorem dX9_stranded_38 : decode cX9_stranded 38 = .ok (.iload_n 1, 1) := by decide +kernel
theorem dX9_stranded_39 : decode cX9_stranded 39 = .ok (.goto 6, 3) := by decide +kernel
theorem dX9_stranded_42 : decode cX9_stranded 42 = .ok (.iload_n 2, 1) := by decide +kernel
theorem dX9_stranded_43 : decode cX9_stranded 43 = .ok (.iconst (-1), 1) := by decide +kernel
theorem dX9_stranded_44 : decode cX9_stranded 44 = .ok (.ixor, 1) := by decide +kernel
theorem dX9_stranded_45 : decode cX9_stranded 45 = .ok (.iand, 1) := by decide +kernel
theorem dX9_stranded_46 : decode cX9_stranded 46 = .ok (.istore_n 1, 1) := by decide +kernel
theorem dX9_stranded_47 : decode cX9_stranded 47 = .ok (.iinc 2 1, 3) := by decide +kernel
theorem dX9_stranded_50 : decode cX9_stranded 50 = .ok (.goto (-32), 3) := by decide +kernel
theorem dX9_stranded_53 : decode cX9_stranded 53 = .ok (.iload_n 1, 1) := by decide +kernel
theorem dX9_stranded_54 : decode cX9_stranded 54 = .ok (.ireturn, 1) := by decide +kernel
set_option maxRecDepth 20000 in
theorem ggX9_together_X9_isParty : GoodIn wsX9_together wsX9_isParty := goodIn_r _ [6, 1, 7, 8, 5, 9, 55, 56, 57, 58, 59, 60, 61, 62, 63, 64, 65, 66, 67, 68, 69, 70, 71, 72, 73, 74, 75, 76, 77, 78, 79, 80, 81, 82, 83, 84, 85, 86, 87, 88, 89, 90, 91, 92, 93, 94, 95, 96] (by decide +kernel) (by decide +kernel)
set_option maxRecDepth 20000 in
theorem gX9_together_X9_isParty : GoodIn wsX9_together (wsV RX9 120 RX9 yX9_isParty wsX9_isParty) := goodIn_app (goodIn_of _ (by decide +kernel)) ggX9_together_X9_isParty
set_option maxRecDepth 20000 in
theorem ggX9_together_X9_refuse : GoodIn wsX9_together wsX9_refuse := goodIn_r _ [13, 14, 55, 56, 57, 58, 59, 60, 61, 62, 63, 64, 65, 66, 67, 68, 69, 70, 71, 72, 73, 74, 75, 76, 77, 78, 79, 80, 81, 82, 83, 84, 85, 86, 87, 88, 89, 90, 91, 92, 93, 94, 95, 96] (by decide +kernel) (by decide +kernel)
set_option maxRecDepth 20000 in
theorem gX9_together_X9_refuse : GoodIn wsX9_together (wsV RX9 109 RX9 yX9_refuse wsX9_refuse) := goodIn_app (goodIn_of _ (by decide +kernel)) ggX9_together_X9_refuse
set_option maxRecDepth 20000 in
theorem ggX9_together_X9_hireOf : GoodIn wsX9_together wsX9_hireOf := goodIn_r _ [18, 19, 20, 21, 22, 5, 23, 24, 25, 26, 27, 28, 1, 29, 30, 31, 32, 33, 34, 35, 36, 37, 38, 39, 40, 41, 42, 43, 44, 45, 46, 47, 48, 7, 8, 9, 49, 50, 51, 52, 53, 54, 55, 56, 57, 58, 59, 60, 61, 62, 63, 64, 65, 66, 67, 68, 69, 70, 71, 72, 73, 74, 75, 76, 77, 78, 79, 80, 81, 82, 83, 84, 85, 86, 87, 88, 89, 90, 91, 92, 93, 94, 95, 96] (by decide +kernel) (by decide +kernel)
set_option maxRecDepth 20000 in
theorem gX9_together_X9_hireOf : GoodIn wsX9_together (wsV RX9 284 RX9 yX9_hireOf wsX9_hireOf) := goodIn_app (goodIn_of _ (by decide +kernel)) ggX9_together_X9_hireOf
theorem dX9_together_0 : decode cX9_together 0 = .ok (.aload_n 0, 1) := by decide +kernel
theorem dX9_together_1 : decode cX9_together 1 = .ok (.iload_n 1, 1) := by decide +kernel
theorem dX9_together_2 : decode cX9_together 2 = .ok (.invokevirtual 120, 3) := by decide +kernel
theorem dX9_together_5 : decode cX9_together 5 = .ok (.ifCond .eq 16, 3) := by decide +kernel
theorem dX9_together_8 : decode cX9_together 8 = .ok (.aload_n 0, 1) := by decide +kernel
theorem dX9_together_9 : decode cX9_together 9 = .ok (.iload_n 2, 1) := by decide +kernel
theorem dX9_together_10 : decode cX9_together 10 = .ok (.invokevirtual 120, 3) := by decide +kernel
theorem dX9_together_13 : decode cX9_together 13 = .ok (.ifCond .eq 8, 3) := by decide +kernel
theorem dX9_together_16 : decode cX9_together 16 = .ok (.iload_n 1, 1) := by decide +kernel
theorem dX9_together_17 : decode cX9_together 17 = .ok (.iload_n 2, 1) := by decide +kernel
theorem dX9_together_18 : decode cX9_together 18 = .ok (.if_icmp .ne 11, 3) := by decide +kernel
theorem dX9_together_21 : decode cX9_together 21 = .ok (.aload_n 0, 1) := by decide +kernel
theorem dX9_together_22 : decode cX9_together 22 = .ok (.sipush (-1002), 3) := by decide +kernel
theorem dX9_together_25 : decode cX9_together 25 = .ok (.invokevirtual 109, 3) := by decide +kernel
theorem dX9_together_28 : decode cX9_together 28 = .ok (.ireturn, 1) := by decide +kernel
theorem dX9_together_29 : decode cX9_together 29 = .ok (.iconst 1, 1) := by decide +kernel
theorem dX9_together_30 : decode cX9_together 30 = .ok (.iload_n 1, 1) := by decide +kernel
theorem dX9_together_31 : decode cX9_together 31 = .ok (.ishl, 1) := by decide +kernel
theorem dX9_together_32 : decode cX9_together 32 = .ok (.iconst 1, 1) := by decide +kernel
theorem dX9_together_33 : decode cX9_together 33 = .ok (.iload_n 2, 1) := by decide +kernel
theorem dX9_together_34 : decode cX9_together 34 = .ok (.ishl, 1) := by decide +kernel
theorem dX9_together_35 : decode cX9_together 35 = .ok (.ior, 1) := by decide +kernel
theorem dX9_together_36 : decode cX9_together 36 = .ok (.istore_n 3, 1) := by decide +kernel
theorem dX9_together_37 : decode cX9_together 37 = .ok (.iconst 0, 1) := by decide +kernel
theorem dX9_together_38 : decode cX9_together 38 = .ok (.istore 4, 2) := by decide +kernel
theorem dX9_together_40 : decode cX9_together 40 = .ok (.iconst 1, 1) := by decide +kernel
theorem dX9_together_41 : decode cX9_together 41 = .ok (.istore 5, 2) := by decide +kernel
theorem dX9_together_43 : decode cX9_together 43 = .ok (.iload 5, 2) := by decide +kernel
theorem dX9_together_45 : decode cX9_together 45 = .ok (.iconst 1, 1) := by decide +kernel
theorem dX9_together_46 : decode cX9_together 46 = .ok (.aload_n 0, 1) := by decide +kernel
theorem dX9_together_47 : decode cX9_together 47 = .ok (.getfield 93, 3) := by decide +kernel
theorem dX9_together_50 : decode cX9_together 50 = .ok (.ishl, 1) := by decide +kernel
theorem dX9_together_51 : decode cX9_together 51 = .ok (.if_icmp .ge 37, 3) := by decide +kernel
theorem dX9_together_54 : decode cX9_together 54 = .ok (.iload 4, 2) := by decide +kernel
theorem dX9_together_56 : decode cX9_together 56 = .ok (.iload 5, 2) := by decide +kernel
theorem dX9_together_58 : decode cX9_together 58 = .ok (.iload_n 3, 1) := by decide +kernel
theorem dX9_together_59 : decode cX9_together 59 = .ok (.iand, 1) := by decide +kernel
theorem dX9_together_60 : decode cX9_together 60 = .ok (.iload_n 3, 1) := by decide +kernel
theorem dX9_together_61 : decode cX9_together 61 = .ok (.if_icmp .ne 17, 3) := by decide +kernel
theorem dX9_together_64 : decode cX9_together 64 = .ok (.aload_n 0, 1) := by decide +kernel
theorem dX9_together_65 : decode cX9_together 65 = .ok (.iload 5, 2) := by decide +kernel
theorem dX9_together_67 : decode cX9_together 67 = .ok (.invokevirtual 284, 3) := by decide +kernel
theorem dX9_together_70 : decode cX9_together 70 = .ok (.iconst (-1), 1) := by decide +kernel
theorem dX9_together_71 : decode cX9_together 71 = .ok (.if_icmp .eq 7, 3) := by decide +kernel
theorem dX9_together_74 : decode cX9_together 74 = .ok (.iconst 1, 1) := by decide +kernel
theorem dX9_together_75 : decode cX9_together 75 = .ok (.goto 4, 3) := by decide +kernel
theorem dX9_together_78 : decode cX9_together 78 = .ok (.iconst 0, 1) := by decide +kernel
theorem dX9_together_79 : decode cX9_together 79 = .ok (.iadd, 1) := by decide +kernel
theorem dX9_together_80 : decode cX9_together 80 = .ok (.istore 4, 2) := by decide +kernel
theorem dX9_together_82 : decode cX9_together 82 = .ok (.iinc 5 1, 3) := by decide +kernel
theorem dX9_together_85 : decode cX9_together 85 = .ok (.goto (-42), 3) := by decide +kernel
theorem dX9_together_88 : decode cX9_together 88 = .ok (.iload 4, 2) := by decide +kernel
theorem dX9_together_90 : decode cX9_together 90 = .ok (.ireturn, 1) := by decide +kernel
set_option maxRecDepth 20000 in
theorem ggX9_alone_X9_hireUpTo : GoodIn wsX9_alone wsX9_hireUpTo := goodIn_r _ [6, 7, 8, 9, 5, 10, 11, 1, 12, 13, 14, 15, 16, 17, 18, 19, 20, 21, 22, 23, 24, 25, 26, 27, 28, 29, 30, 31, 32, 33, 34, 35, 36, 37, 38, 39, 40, 41, 42, 43, 44, 45, 46, 47, 48, 49, 50, 51, 52, 53, 54, 55, 56, 57, 58, 59, 60, 61, 62, 63, 64, 65, 66, 67, 68, 69, 70, 71, 72, 73, 74, 75, 76, 77, 78, 79, 80, 81, 82] (by decide +kernel) (by decide +kernel)
set_option maxRecDepth 20000 in
theorem gX9_alone_X9_hireUpTo : GoodIn wsX9_alone (wsV RX9 275 RX9 yX9_hireUpTo wsX9_hireUpTo) := goodIn_app (goodIn_of _ (by decide +kernel)) ggX9_alone_X9_hireUpTo
theorem dX9_alone_0 : decode cX9_alone 0 = .ok (.iconst 0, 1) := by decide +kernel
theorem dX9_alone_1 : decode cX9_alone 1 = .ok (.istore_n 1, 1) := by decide +kernel
theorem dX9_alone_2 : decode cX9_alone 2 = .ok (.iconst 0, 1) := by decide +kernel
theorem dX9_alone_3 : decode cX9_alone 3 = .ok (.istore_n 2, 1) := by decide +kernel
theorem dX9_alone_4 : decode cX9_alone 4 = .ok (.iload_n 2, 1) := by decide +kernel
theorem dX9_alone_5 : decode cX9_alone 5 = .ok (.aload_n 0, 1) := by decide +kernel
theorem dX9_alone_6 : decode cX9_alone 6 = .ok (.getfield 93, 3) := by decide +kernel
theorem dX9_alone_9 : decode cX9_alone 9 = .ok (.if_icmp .ge 30, 3) := by decide +kernel
theorem dX9_alone_12 : decode cX9_alone 12 = .ok (.iload_n 1, 1) := by decide +kernel
theorem dX9_alone_13 : decode cX9_alone 13 = .ok (.aload_n 0, 1) := by decide +kernel
theorem dX9_alone_14 : decode cX9_alone 14 = .ok (.iconst 1, 1) := by decide +kernel
theorem dX9_alone_15 : decode cX9_alone 15 = .ok (.iload_n 2, 1) := by decide +kernel
theorem dX9_alone_16 : decode cX9_alone 16 = .ok (.ishl, 1) := by decide +kernel
theorem dX9_alone_17 : decode cX9_alone 17 = .ok (.iconst 0, 1) := by decide +kernel
theorem dX9_alone_18 : decode cX9_alone 18 = .ok (.invokevirtual 275, 3) := by decide +kernel
theorem dX9_alone_21 : decode cX9_alone 21 = .ok (.ifCond .ne 9, 3) := by decide +kernel
theorem dX9_alone_24 : decode cX9_alone 24 = .ok (.iconst 1, 1) := by decide +kernel
theorem dX9_alone_25 : decode cX9_alone 25 = .ok (.iload_n 2, 1) := by decide +kernel
theorem dX9_alone_26 : decode cX9_alone 26 = .ok (.ishl, 1) := by decide +kernel
theorem dX9_alone_27 : decode cX9_alone 27 = .ok (.goto 4, 3) := by decide +kernel
theorem dX9_alone_30 : decode cX9_alone 30 = .ok (.iconst 0, 1) := by decide +kernel
theorem dX9_alone_31 : decode cX9_alone 31 = .ok (.ior, 1) := by decide +kernel
theorem dX9_alone_32 : decode cX9_alone 32 = .ok (.istore_n 1, 1) := by decide +kernel
theorem dX9_alone_33 : decode cX9_alone 33 = .ok (.iinc 2 1, 3) := by decide +kernel
theorem dX9_alone_36 : decode cX9_alone 36 = .ok (.goto (-32), 3) := by decide +kernel
theorem dX9_alone_39 : decode cX9_alone 39 = .ok (.iload_n 1, 1) := by decide +kernel
theorem dX9_alone_40 : decode cX9_alone 40 = .ok (.ireturn, 1) := by decide +kernel
set_option maxRecDepth 20000 in
theorem ggX9_fullest_X9_in : GoodIn wsX9_fullest wsX9_in := goodIn_r _ [5] (by decide +kernel) (by decide +kernel)
set_option maxRecDepth 20000 in
theorem gX9_fullest_X9_in : GoodIn wsX9_fullest (va_wsS RX9 96 yX9_in wsX9_in) := goodIn_app (goodIn_of _ (by decide +kernel)) ggX9_fullest_X9_in
set_option maxRecDepth 20000 in
theorem ggX9_fullest_X9_refuse : GoodIn wsX9_fullest wsX9_refuse := goodIn_r _ [9, 10, 51, 52, 53, 54, 55, 56, 57, 58, 59, 60, 61, 62, 63, 64, 65, 66, 67, 68, 69, 70, 71, 72, 73, 74, 75, 76, 77, 78, 79, 80, 81, 82, 83, 84, 85, 86, 87, 88, 89, 90, 91, 92] (by decide +kernel) (by decide +kernel)
set_option maxRecDepth 20000 in
theorem gX9_fullest_X9_refuse : GoodIn wsX9_fullest (wsV RX9 109 RX9 yX9_refuse wsX9_refuse) := goodIn_app (goodIn_of _ (by decide +kernel)) ggX9_fullest_X9_refuse
set_option maxRecDepth 20000 in
theorem ggX9_fullest_X9_hireOf : GoodIn wsX9_fullest wsX9_hireOf := goodIn_r _ [14, 15, 16, 17, 18, 4, 19, 20, 21, 22, 23, 24, 1, 25, 26, 27, 28, 29, 30, 31, 32, 33, 34, 35, 36, 37, 38, 39, 40, 41, 42, 43, 44, 2, 3, 5, 45, 46, 47, 48, 49, 50, 51, 52, 53, 54, 55, 56, 57, 58, 59, 60, 61, 62, 63, 64, 65, 66, 67, 68, 69, 70, 71, 72, 73, 74, 75, 76, 77, 78, 79, 80, 81, 82, 83, 84, 85, 86, 87, 88, 89, 90, 91, 92] (by decide +kernel) (by decide +kernel)
set_option maxRecDepth 20000 in
theorem gX9_fullest_X9_hireOf : GoodIn wsX9_fullest (wsV RX9 284 RX9 yX9_hireOf wsX9_hireOf) := goodIn_app (goodIn_of _ (by decide +kernel)) ggX9_fullest_X9_hireOf
set_option maxRecDepth 20000 in
theorem ggX9_fullest_X9_headsTogether : GoodIn wsX9_fullest wsX9_headsTogether := goodIn_r _ [30, 1, 31, 32, 33, 4, 34, 35, 36, 37, 38, 51, 52, 53, 54, 55, 56, 57, 58, 59, 60, 61, 62, 63, 64, 65, 66, 67, 68, 69, 70, 71, 72, 73, 74, 75, 76, 77, 78, 79, 80, 81, 82, 83, 84, 85, 86, 87, 88, 89, 90, 91, 92] (by decide +kernel) (by decide +kernel)
set_option maxRecDepth 20000 in
theorem gX9_fullest_X9_headsTogether : GoodIn wsX9_fullest (wsV RX9 272 RX9 yX9_headsTogether wsX9_headsTogether) := goodIn_app (goodIn_of _ (by decide +kernel)) ggX9_fullest_X9_headsTogether
theorem dX9_fullest_0 : decode cX9_fullest 0 = .ok (.iload_n 1, 1) := by decide +kernel
theorem dX9_fullest_1 : decode cX9_fullest 1 = .ok (.i2l, 1) := by decide +kernel
theorem dX9_fullest_2 : decode cX9_fullest 2 = .ok (.lconst 0, 1) := by decide +kernel
theorem dX9_fullest_3 : decode cX9_fullest 3 = .ok (.lconst 1, 1) := by decide +kernel
theorem dX9_fullest_4 : decode cX9_fullest 4 = .ok (.invokestatic 96, 3) := by decide +kernel
theorem dX9_fullest_7 : decode cX9_fullest 7 = .ok (.ifCond .ne 11, 3) := by decide +kernel
theorem dX9_fullest_10 : decode cX9_fullest 10 = .ok (.aload_n 0, 1) := by decide +kernel
theorem dX9_fullest_11 : decode cX9_fullest 11 = .ok (.sipush (-1002), 3) := by decide +kernel
theorem dX9_fullest_14 : decode cX9_fullest 14 = .ok (.invokevirtual 109, 3) := by decide +kernel
theorem dX9_fullest_17 : decode cX9_fullest 17 = .ok (.ireturn, 1) := by decide +kernel
theorem dX9_fullest_18 : decode cX9_fullest 18 = .ok (.iconst (-1), 1) := by decide +kernel
theorem dX9_fullest_19 : decode cX9_fullest 19 = .ok (.istore_n 2, 1) := by decide +kernel
theorem dX9_fullest_20 : decode cX9_fullest 20 = .ok (.iconst (-1), 1) := by decide +kernel
theorem dX9_fullest_21 : decode cX9_fullest 21 = .ok (.istore_n 3, 1) := by decide +kernel
theorem dX9_fullest_22 : decode cX9_fullest 22 = .ok (.iconst 1, 1) := by decide +kernel
theorem dX9_fullest_23 : decode cX9_fullest 23 = .ok (.istore 4, 2) := by decide +kernel
theorem dX9_fullest_25 : decode cX9_fullest 25 = .ok (.iload 4, 2) := by decide +kernel
theorem dX9_fullest_27 : decode cX9_fullest 27 = .ok (.iconst 1, 1) := by decide +kernel
theorem dX9_fullest_28 : decode cX9_fullest 28 = .ok (.aload_n 0, 1) := by decide +kernel
theorem dX9_fullest_29 : decode cX9_fullest 29 = .ok (.getfield 93, 3) := by decide +kernel
theorem dX9_fullest_32 : decode cX9_fullest 32 = .ok (.ishl, 1) := by decide +kernel
theorem dX9_fullest_33 : decode cX9_fullest 33 = .ok (.if_icmp .ge 57, 3) := by decide +kernel
theorem dX9_fullest_36 : decode cX9_fullest 36 = .ok (.aload_n 0, 1) := by decide +kernel
theorem dX9_fullest_37 : decode cX9_fullest 37 = .ok (.iload 4, 2) := by decide +kernel
theorem dX9_fullest_39 : decode cX9_fullest 39 = .ok (.invokevirtual 284, 3) := by decide +kernel
theorem dX9_fullest_42 : decode cX9_fullest 42 = .ok (.iconst (-1), 1) := by decide +kernel
theorem dX9_fullest_43 : decode cX9_fullest 43 = .ok (.if_icmp .ne 7, 3) := by decide +kernel
theorem dX9_fullest_46 : decode cX9_fullest 46 = .ok (.iconst (-1), 1) := by decide +kernel
theorem dX9_fullest_47 : decode cX9_fullest 47 = .ok (.goto 9, 3) := by decide +kernel
theorem dX9_fullest_50 : decode cX9_fullest 50 = .ok (.aload_n 0, 1) := by decide +kernel
theorem dX9_fullest_51 : decode cX9_fullest 51 = .ok (.iload 4, 2) := by decide +kernel
theorem dX9_fullest_53 : decode cX9_fullest 53 = .ok (.invokevirtual 272, 3) := by decide +kernel
theorem dX9_fullest_56 : decode cX9_fullest 56 = .ok (.istore 5, 2) := by decide +kernel
theorem dX9_fullest_58 : decode cX9_fullest 58 = .ok (.iload 5, 2) := by decide +kernel
theorem dX9_fullest_60 : decode cX9_fullest 60 = .ok (.iload_n 3, 1) := by decide +kernel
theorem dX9_fullest_61 : decode cX9_fullest 61 = .ok (.if_icmp .le 8, 3) := by decide +kernel
theorem dX9_fullest_64 : decode cX9_fullest 64 = .ok (.iload 4, 2) := by decide +kernel
theorem dX9_fullest_66 : decode cX9_fullest 66 = .ok (.goto 4, 3) := by decide +kernel
theorem dX9_fullest_69 : decode cX9_fullest 69 = .ok (.iload_n 2, 1) := by decide +kernel
theorem dX9_fullest_70 : decode cX9_fullest 70 = .ok (.istore_n 2, 1) := by decide +kernel
theorem dX9_fullest_71 : decode cX9_fullest 71 = .ok (.iload 5, 2) := by decide +kernel
theorem dX9_fullest_73 : decode cX9_fullest 73 = .ok (.iload_n 3, 1) := by decide +kernel
theorem dX9_fullest_74 : decode cX9_fullest 74 = .ok (.if_icmp .le 8, 3) := by decide +kernel
theorem dX9_fullest_77 : decode cX9_fullest 77 = .ok (.iload 5, 2) := by decide +kernel
theorem dX9_fullest_79 : decode cX9_fullest 79 = .ok (.goto 4, 3) := by decide +kernel
theorem dX9_fullest_82 : decode cX9_fullest 82 = .ok (.iload_n 3, 1) := by decide +kernel
theorem dX9_fullest_83 : decode cX9_fullest 83 = .ok (.istore_n 3, 1) := by decide +kernel
theorem dX9_fullest_84 : decode cX9_fullest 84 = .ok (.iinc 4 1, 3) := by decide +kernel
theorem dX9_fullest_87 : decode cX9_fullest 87 = .ok (.goto (-62), 3) := by decide +kernel
theorem dX9_fullest_90 : decode cX9_fullest 90 = .ok (.iload_n 1, 1) := by decide +kernel
theorem dX9_fullest_91 : decode cX9_fullest 91 = .ok (.ifCond .ne 7, 3) := by decide +kernel
theorem dX9_fullest_94 : decode cX9_fullest 94 = .ok (.iload_n 2, 1) := by decide +kernel
theorem dX9_fullest_95 : decode cX9_fullest 95 = .ok (.goto 4, 3) := by decide +kernel
theorem dX9_fullest_98 : decode cX9_fullest 98 = .ok (.iload_n 3, 1) := by decide +kernel
theorem dX9_fullest_99 : decode cX9_fullest 99 = .ok (.ireturn, 1) := by decide +kernel
set_option maxRecDepth 20000 in
theorem ggX9_noWaiting_X9_isParty : GoodIn wsX9_noWaiting wsX9_isParty := goodIn_r _ [5, 6, 7, 8, 4, 9, 20, 21, 22, 23, 24, 25, 26, 27, 28, 29, 30, 31, 32, 33, 34, 35, 36, 37, 38, 39, 40, 41, 42, 43, 44, 45, 46, 47, 48, 49, 50, 51, 52, 53, 54, 55, 56, 57, 58, 59, 60, 61] (by decide +kernel) (by decide +kernel)
set_option maxRecDepth 20000 in
theorem gX9_noWaiting_X9_isParty : GoodIn wsX9_noWaiting (wsV RX9 120 RX9 yX9_isParty wsX9_isParty) := goodIn_app (goodIn_of _ (by decide +kernel)) ggX9_noWaiting_X9_isParty
set_option maxRecDepth 20000 in
theorem ggX9_noWaiting_X9_refuse : GoodIn wsX9_noWaiting wsX9_refuse := goodIn_r _ [13, 14, 20, 21, 22, 23, 24, 25, 26, 27, 28, 29, 30, 31, 32, 33, 34, 35, 36, 37, 38, 39, 40, 41, 42, 43, 44, 45, 46, 47, 48, 49, 50, 51, 52, 53, 54, 55, 56, 57, 58, 59, 60, 61] (by decide +kernel) (by decide +kernel)
set_option maxRecDepth 20000 in
theorem gX9_noWaiting_X9_refuse : GoodIn wsX9_noWaiting (wsV RX9 109 RX9 yX9_refuse wsX9_refuse) := goodIn_app (goodIn_of _ (by decide +kernel)) ggX9_noWaiting_X9_refuse
set_option maxRecDepth 20000 in
theorem ggX9_noWaiting_X9_isOver : GoodIn wsX9_noWaiting wsX9_isOver := goodIn_r _ [18, 19, 20, 21, 22, 23, 24, 25, 26, 27, 28, 29, 30, 31, 32, 33, 34, 35, 36, 37, 38, 39, 40, 41, 42, 43, 44, 45, 46, 47, 48, 49, 50, 51, 52, 53, 54, 55, 56, 57, 58, 59, 60, 61] (by decide +kernel) (by decide +kernel)
set_option maxRecDepth 20000 in
theorem gX9_noWaiting_X9_isOver : GoodIn wsX9_noWaiting (wsV RX9 278 RX9 yX9_isOver wsX9_isOver) := goodIn_app (goodIn_of _ (by decide +kernel)) ggX9_noWaiting_X9_isOver
theorem dX9_noWaiting_0 : decode cX9_noWaiting 0 = .ok (.aload_n 0, 1) := by decide +kernel
theorem dX9_noWaiting_1 : decode cX9_noWaiting 1 = .ok (.iload_n 1, 1) := by decide +kernel
theorem dX9_noWaiting_2 : decode cX9_noWaiting 2 = .ok (.invokevirtual 120, 3) := by decide +kernel
theorem dX9_noWaiting_5 : decode cX9_noWaiting 5 = .ok (.ifCond .ne 13, 3) := by decide +kernel
theorem dX9_noWaiting_8 : decode cX9_noWaiting 8 = .ok (.aload_n 0, 1) := by decide +kernel
theorem dX9_noWaiting_9 : decode cX9_noWaiting 9 = .ok (.sipush (-1002), 3) := by decide +kernel
theorem dX9_noWaiting_12 : decode cX9_noWaiting 12 = .ok (.invokevirtual 109, 3) := by decide +kernel
theorem dX9_noWaiting_15 : decode cX9_noWaiting 15 = .ok (.goto 22, 3) := by decide +kernel
theorem dX9_noWaiting_18 : decode cX9_noWaiting 18 = .ok (.aload_n 0, 1) := by decide +kernel
theorem dX9_noWaiting_19 : decode cX9_noWaiting 19 = .ok (.iload_n 1, 1) := by decide +kernel
theorem dX9_noWaiting_20 : decode cX9_noWaiting 20 = .ok (.invokevirtual 278, 3) := by decide +kernel
theorem dX9_noWaiting_23 : decode cX9_noWaiting 23 = .ok (.ifCond .eq 13, 3) := by decide +kernel
theorem dX9_noWaiting_26 : decode cX9_noWaiting 26 = .ok (.aload_n 0, 1) := by decide +kernel
theorem dX9_noWaiting_27 : decode cX9_noWaiting 27 = .ok (.sipush (-1005), 3) := by decide +kernel
theorem dX9_noWaiting_30 : decode cX9_noWaiting 30 = .ok (.invokevirtual 109, 3) := by decide +kernel
theorem dX9_noWaiting_33 : decode cX9_noWaiting 33 = .ok (.goto 4, 3) := by decide +kernel
theorem dX9_noWaiting_36 : decode cX9_noWaiting 36 = .ok (.iconst 0, 1) := by decide +kernel
theorem dX9_noWaiting_37 : decode cX9_noWaiting 37 = .ok (.ireturn, 1) := by decide +kernel
set_option maxRecDepth 20000 in
theorem ggX9_along_X9_noWaiting : GoodIn wsX9_along wsX9_noWaiting := goodIn_r _ [6, 7, 8, 9, 5, 10, 1, 11, 12, 13, 14, 15, 16, 17, 18, 19, 20, 21, 22, 23, 63, 64, 65, 66, 67, 68, 69, 70, 71, 72, 73, 74, 75, 76, 77, 78, 79, 80, 81, 82, 83, 84, 85, 86, 87, 88, 89, 90, 91, 92, 93, 94, 95, 96, 97, 98, 99, 100, 101, 102, 103, 104] (by decide +kernel) (by decide +kernel)
set_option maxRecDepth 20000 in
theorem gX9_along_X9_noWaiting : GoodIn wsX9_along (wsV RX9 287 RX9 yX9_noWaiting wsX9_noWaiting) := goodIn_app (goodIn_of _ (by decide +kernel)) ggX9_along_X9_noWaiting
set_option maxRecDepth 20000 in
theorem ggX9_along_X9_hireOf : GoodIn wsX9_along wsX9_hireOf := goodIn_r _ [27, 28, 29, 30, 31, 5, 32, 33, 34, 35, 36, 23, 1, 37, 38, 39, 40, 41, 42, 43, 44, 45, 46, 47, 48, 49, 50, 51, 52, 53, 54, 55, 56, 11, 12, 13, 57, 58, 59, 60, 61, 62, 63, 64, 65, 66, 67, 68, 69, 70, 71, 72, 73, 74, 75, 76, 77, 78, 79, 80, 81, 82, 83, 84, 85, 86, 87, 88, 89, 90, 91, 92, 93, 94, 95, 96, 97, 98, 99, 100, 101, 102, 103, 104] (by decide +kernel) (by decide +kernel)
set_option maxRecDepth 20000 in
theorem gX9_along_X9_hireOf : GoodIn wsX9_along (wsV RX9 284 RX9 yX9_hireOf wsX9_hireOf) := goodIn_app (goodIn_of _ (by decide +kernel)) ggX9_along_X9_hireOf
theorem dX9_along_0 : decode cX9_along 0 = .ok (.aload_n 0, 1) := by decide +kernel
theorem dX9_along_1 : decode cX9_along 1 = .ok (.iload_n 1, 1) := by decide +kernel
theorem dX9_along_2 : decode cX9_along 2 = .ok (.invokevirtual 287, 3) := by decide +kernel
theorem dX9_along_5 : decode cX9_along 5 = .ok (.istore_n 2, 1) := by decide +kernel
theorem dX9_along_6 : decode cX9_along 6 = .ok (.iload_n 2, 1) := by decide +kernel
theorem dX9_along_7 : decode cX9_along 7 = .ok (.ifCond .eq 5, 3) := by decide +kernel
theorem dX9_along_10 : decode cX9_along 10 = .ok (.iload_n 2, 1) := by decide +kernel
theorem dX9_along_11 : decode cX9_along 11 = .ok (.ireturn, 1) := by decide +kernel
theorem dX9_along_12 : decode cX9_along 12 = .ok (.iconst (-1), 1) := by decide +kernel
theorem dX9_along_13 : decode cX9_along 13 = .ok (.istore_n 3, 1) := by decide +kernel
theorem dX9_along_14 : decode cX9_along 14 = .ok (.iconst 0, 1) := by decide +kernel
theorem dX9_along_15 : decode cX9_along 15 = .ok (.istore 4, 2) := by decide +kernel
theorem dX9_along_17 : decode cX9_along 17 = .ok (.iconst 0, 1) := by decide +kernel
theorem dX9_along_18 : decode cX9_along 18 = .ok (.istore 5, 2) := by decide +kernel
theorem dX9_along_20 : decode cX9_along 20 = .ok (.iload 5, 2) := by decide +kernel
theorem dX9_along_22 : decode cX9_along 22 = .ok (.aload_n 0, 1) := by decide +kernel
theorem dX9_along_23 : decode cX9_along 23 = .ok (.getfield 93, 3) := by decide +kernel
theorem dX9_along_26 : decode cX9_along 26 = .ok (.if_icmp .ge 84, 3) := by decide +kernel
theorem dX9_along_29 : decode cX9_along 29 = .ok (.iload 5, 2) := by decide +kernel
theorem dX9_along_31 : decode cX9_along 31 = .ok (.iload_n 1, 1) := by decide +kernel
theorem dX9_along_32 : decode cX9_along 32 = .ok (.if_icmp .ne 7, 3) := by decide +kernel
theorem dX9_along_35 : decode cX9_along 35 = .ok (.iconst (-1), 1) := by decide +kernel
theorem dX9_along_36 : decode cX9_along 36 = .ok (.goto 15, 3) := by decide +kernel
theorem dX9_along_39 : decode cX9_along 39 = .ok (.aload_n 0, 1) := by decide +kernel
theorem dX9_along_40 : decode cX9_along 40 = .ok (.iconst 1, 1) := by decide +kernel
theorem dX9_along_41 : decode cX9_along 41 = .ok (.iload_n 1, 1) := by decide +kernel
theorem dX9_along_42 : decode cX9_along 42 = .ok (.ishl, 1) := by decide +kernel
theorem dX9_along_43 : decode cX9_along 43 = .ok (.iconst 1, 1) := by decide +kernel
theorem dX9_along_44 : decode cX9_along 44 = .ok (.iload 5, 2) := by decide +kernel
theorem dX9_along_46 : decode cX9_along 46 = .ok (.ishl, 1) := by decide +kernel
theorem dX9_along_47 : decode cX9_along 47 = .ok (.ior, 1) := by decide +kernel
theorem dX9_along_48 : decode cX9_along 48 = .ok (.invokevirtual 284, 3) := by decide +kernel
theorem dX9_along_51 : decode cX9_along 51 = .ok (.istore 6, 2) := by decide +kernel
theorem dX9_along_53 : decode cX9_along 53 = .ok (.iload 6, 2) := by decide +kernel
theorem dX9_along_55 : decode cX9_along 55 = .ok (.iconst (-1), 1) := by decide +kernel
theorem dX9_along_56 : decode cX9_along 56 = .ok (.if_icmp .eq 19, 3) := by decide +kernel
theorem dX9_along_59 : decode cX9_along 59 = .ok (.iload_n 3, 1) := by decide +kernel
theorem dX9_along_60 : decode cX9_along 60 = .ok (.iconst (-1), 1) := by decide +kernel
theorem dX9_along_61 : decode cX9_along 61 = .ok (.if_icmp .eq 10, 3) := by decide +kernel
theorem dX9_along_64 : decode cX9_along 64 = .ok (.iload 6, 2) := by decide +kernel
theorem dX9_along_66 : decode cX9_along 66 = .ok (.iload 4, 2) := by decide +kernel
theorem dX9_along_68 : decode cX9_along 68 = .ok (.if_icmp .ge 7, 3) := by decide +kernel
theorem dX9_along_71 : decode cX9_along 71 = .ok (.iconst 1, 1) := by decide +kernel
theorem dX9_along_72 : decode cX9_along 72 = .ok (.goto 4, 3) := by decide +kernel
theorem dX9_along_75 : decode cX9_along 75 = .ok (.iconst 0, 1) := by decide +kernel
theorem dX9_along_76 : decode cX9_along 76 = .ok (.istore 7, 2) := by decide +kernel
theorem dX9_along_78 : decode cX9_along 78 = .ok (.iload 7, 2) := by decide +kernel
theorem dX9_along_80 : decode cX9_along 80 = .ok (.ifCond .eq 8, 3) := by decide +kernel
theorem dX9_along_83 : decode cX9_along 83 = .ok (.iload 5, 2) := by decide +kernel
theorem dX9_along_85 : decode cX9_along 85 = .ok (.goto 4, 3) := by decide +kernel
theorem dX9_along_88 : decode cX9_along 88 = .ok (.iload_n 3, 1) := by decide +kernel
theorem dX9_along_89 : decode cX9_along 89 = .ok (.istore_n 3, 1) := by decide +kernel
theorem dX9_along_90 : decode cX9_along 90 = .ok (.iload 7, 2) := by decide +kernel
theorem dX9_along_92 : decode cX9_along 92 = .ok (.ifCond .eq 8, 3) := by decide +kernel
theorem dX9_along_95 : decode cX9_along 95 = .ok (.iload 6, 2) := by decide +kernel
theorem dX9_along_97 : decode cX9_along 97 = .ok (.goto 5, 3) := by decide +kernel
theorem dX9_along_100 : decode cX9_along 100 = .ok (.iload 4, 2) := by decide +kernel
theorem dX9_along_102 : decode cX9_along 102 = .ok (.istore 4, 2) := by decide +kernel
theorem dX9_along_104 : decode cX9_along 104 = .ok (.iinc 5 1, 3) := by decide +kernel
theorem dX9_along_107 : decode cX9_along 107 = .ok (.goto (-87), 3) := by decide +kernel
theorem dX9_along_110 : decode cX9_along 110 = .ok (.iload_n 3, 1) := by decide +kernel
theorem dX9_along_111 : decode cX9_along 111 = .ok (.ireturn, 1) := by decide +kernel
set_option maxRecDepth 20000 in
theorem ggX9_cheapest_X9_noWaiting : GoodIn wsX9_cheapest wsX9_noWaiting := goodIn_r _ [6, 7, 8, 9, 5, 10, 1, 11, 12, 13, 14, 15, 16, 17, 18, 19, 20, 21, 22, 23, 63, 64, 65, 66, 67, 68, 69, 70, 71, 72, 73, 74, 75, 76, 77, 78, 79, 80, 81, 82, 83, 84, 85, 86, 87, 88, 89, 90, 91, 92, 93, 94, 95, 96, 97, 98, 99, 100, 101, 102, 103, 104] (by decide +kernel) (by decide +kernel)
set_option maxRecDepth 20000 in
theorem gX9_cheapest_X9_noWaiting : GoodIn wsX9_cheapest (wsV RX9 287 RX9 yX9_noWaiting wsX9_noWaiting) := goodIn_app (goodIn_of _ (by decide +kernel)) ggX9_cheapest_X9_noWaiting
set_option maxRecDepth 20000 in
theorem ggX9_cheapest_X9_hireOf : GoodIn wsX9_cheapest wsX9_hireOf := goodIn_r _ [27, 28, 29, 30, 31, 5, 32, 33, 34, 35, 36, 23, 1, 37, 38, 39, 40, 41, 42, 43, 44, 45, 46, 47, 48, 49, 50, 51, 52, 53, 54, 55, 56, 11, 12, 13, 57, 58, 59, 60, 61, 62, 63, 64, 65, 66, 67, 68, 69, 70, 71, 72, 73, 74, 75, 76, 77, 78, 79, 80, 81, 82, 83, 84, 85, 86, 87, 88, 89, 90, 91, 92, 93, 94, 95, 96, 97, 98, 99, 100, 101, 102, 103, 104] (by decide +kernel) (by decide +kernel)
set_option maxRecDepth 20000 in
theorem gX9_cheapest_X9_hireOf : GoodIn wsX9_cheapest (wsV RX9 284 RX9 yX9_hireOf wsX9_hireOf) := goodIn_app (goodIn_of _ (by decide +kernel)) ggX9_cheapest_X9_hireOf
theorem dX9_cheapest_0 : decode cX9_cheapest 0 = .ok (.aload_n 0, 1) := by decide +kernel
theorem dX9_cheapest_1 : decode cX9_cheapest 1 = .ok (.iload_n 1, 1) := by decide +kernel
theorem dX9_cheapest_2 : decode cX9_cheapest 2 = .ok (.invokevirtual 287, 3) := by decide +kernel
theorem dX9_cheapest_5 : decode cX9_cheapest 5 = .ok (.istore_n 2, 1) := by decide +kernel
theorem dX9_cheapest_6 : decode cX9_cheapest 6 = .ok (.iload_n 2, 1) := by decide +kernel
theorem dX9_cheapest_7 : decode cX9_cheapest 7 = .ok (.ifCond .eq 5, 3) := by decide +kernel
theorem dX9_cheapest_10 : decode cX9_cheapest 10 = .ok (.iload_n 2, 1) := by decide +kernel
theorem dX9_cheapest_11 : decode cX9_cheapest 11 = .ok (.ireturn, 1) := by decide +kernel
theorem dX9_cheapest_12 : decode cX9_cheapest 12 = .ok (.iconst (-1), 1) := by decide +kernel
theorem dX9_cheapest_13 : decode cX9_cheapest 13 = .ok (.istore_n 3, 1) := by decide +kernel
theorem dX9_cheapest_14 : decode cX9_cheapest 14 = .ok (.iconst 0, 1) := by decide +kernel
theorem dX9_cheapest_15 : decode cX9_cheapest 15 = .ok (.istore 4, 2) := by decide +kernel
theorem dX9_cheapest_17 : decode cX9_cheapest 17 = .ok (.iconst 1, 1) := by decide +kernel
theorem dX9_cheapest_18 : decode cX9_cheapest 18 = .ok (.istore 5, 2) := by decide +kernel
theorem dX9_cheapest_20 : decode cX9_cheapest 20 = .ok (.iload 5, 2) := by decide +kernel
theorem dX9_cheapest_22 : decode cX9_cheapest 22 = .ok (.iconst 1, 1) := by decide +kernel
theorem dX9_cheapest_23 : decode cX9_cheapest 23 = .ok (.aload_n 0, 1) := by decide +kernel
theorem dX9_cheapest_24 : decode cX9_cheapest 24 = .ok (.getfield 93, 3) := by decide +kernel
theorem dX9_cheapest_27 : decode cX9_cheapest 27 = .ok (.ishl, 1) := by decide +kernel
theorem dX9_cheapest_28 : decode cX9_cheapest 28 = .ok (.if_icmp .ge 82, 3) := by decide +kernel
theorem dX9_cheapest_31 : decode cX9_cheapest 31 = .ok (.iload 5, 2) := by decide +kernel
theorem dX9_cheapest_33 : decode cX9_cheapest 33 = .ok (.iload_n 1, 1) := by decide +kernel
theorem dX9_cheapest_34 : decode cX9_cheapest 34 = .ok (.ishr, 1) := by decide +kernel
theorem dX9_cheapest_35 : decode cX9_cheapest 35 = .ok (.iconst 1, 1) := by decide +kernel
theorem dX9_cheapest_36 : decode cX9_cheapest 36 = .ok (.iand, 1) := by decide +kernel
theorem dX9_cheapest_37 : decode cX9_cheapest 37 = .ok (.iconst 1, 1) := by decide +kernel
theorem dX9_cheapest_38 : decode cX9_cheapest 38 = .ok (.if_icmp .ne 12, 3) := by decide +kernel
theorem dX9_cheapest_41 : decode cX9_cheapest 41 = .ok (.aload_n 0, 1) := by decide +kernel
theorem dX9_cheapest_42 : decode cX9_cheapest 42 = .ok (.iload 5, 2) := by decide +kernel
theorem dX9_cheapest_44 : decode cX9_cheapest 44 = .ok (.invokevirtual 284, 3) := by decide +kernel
theorem dX9_cheapest_47 : decode cX9_cheapest 47 = .ok (.goto 4, 3) := by decide +kernel
theorem dX9_cheapest_50 : decode cX9_cheapest 50 = .ok (.iconst (-1), 1) := by decide +kernel
theorem dX9_cheapest_51 : decode cX9_cheapest 51 = .ok (.istore 6, 2) := by decide +kernel
theorem dX9_cheapest_53 : decode cX9_cheapest 53 = .ok (.iload 6, 2) := by decide +kernel
theorem dX9_cheapest_55 : decode cX9_cheapest 55 = .ok (.iconst (-1), 1) := by decide +kernel
theorem dX9_cheapest_56 : decode cX9_cheapest 56 = .ok (.if_icmp .eq 19, 3) := by decide +kernel
theorem dX9_cheapest_59 : decode cX9_cheapest 59 = .ok (.iload_n 3, 1) := by decide +kernel
theorem dX9_cheapest_60 : decode cX9_cheapest 60 = .ok (.iconst (-1), 1) := by decide +kernel
theorem dX9_cheapest_61 : decode cX9_cheapest 61 = .ok (.if_icmp .eq 10, 3) := by decide +kernel
theorem dX9_cheapest_64 : decode cX9_cheapest 64 = .ok (.iload 6, 2) := by decide +kernel
theorem dX9_cheapest_66 : decode cX9_cheapest 66 = .ok (.iload 4, 2) := by decide +kernel
theorem dX9_cheapest_68 : decode cX9_cheapest 68 = .ok (.if_icmp .ge 7, 3) := by decide +kernel
theorem dX9_cheapest_71 : decode cX9_cheapest 71 = .ok (.iconst 1, 1) := by decide +kernel
theorem dX9_cheapest_72 : decode cX9_cheapest 72 = .ok (.goto 4, 3) := by decide +kernel
theorem dX9_cheapest_75 : decode cX9_cheapest 75 = .ok (.iconst 0, 1) := by decide +kernel
theorem dX9_cheapest_76 : decode cX9_cheapest 76 = .ok (.istore 7, 2) := by decide +kernel
theorem dX9_cheapest_78 : decode cX9_cheapest 78 = .ok (.iload 7, 2) := by decide +kernel
theorem dX9_cheapest_80 : decode cX9_cheapest 80 = .ok (.ifCond .eq 8, 3) := by decide +kernel
theorem dX9_cheapest_83 : decode cX9_cheapest 83 = .ok (.iload 5, 2) := by decide +kernel
theorem dX9_cheapest_85 : decode cX9_cheapest 85 = .ok (.goto 4, 3) := by decide +kernel
theorem dX9_cheapest_88 : decode cX9_cheapest 88 = .ok (.iload_n 3, 1) := by decide +kernel
theorem dX9_cheapest_89 : decode cX9_cheapest 89 = .ok (.istore_n 3, 1) := by decide +kernel
theorem dX9_cheapest_90 : decode cX9_cheapest 90 = .ok (.iload 7, 2) := by decide +kernel
theorem dX9_cheapest_92 : decode cX9_cheapest 92 = .ok (.ifCond .eq 8, 3) := by decide +kernel
theorem dX9_cheapest_95 : decode cX9_cheapest 95 = .ok (.iload 6, 2) := by decide +kernel
theorem dX9_cheapest_97 : decode cX9_cheapest 97 = .ok (.goto 5, 3) := by decide +kernel
theorem dX9_cheapest_100 : decode cX9_cheapest 100 = .ok (.iload 4, 2) := by decide +kernel
theorem dX9_cheapest_102 : decode cX9_cheapest 102 = .ok (.istore 4, 2) := by decide +kernel
theorem dX9_cheapest_104 : decode cX9_cheapest 104 = .ok (.iinc 5 1, 3) := by decide +kernel
theorem dX9_cheapest_107 : decode cX9_cheapest 107 = .ok (.goto (-87), 3) := by decide +kernel
theorem dX9_cheapest_110 : decode cX9_cheapest 110 = .ok (.iload_n 3, 1) := by decide +kernel
theorem dX9_cheapest_111 : decode cX9_cheapest 111 = .ok (.ireturn, 1) := by decide +kernel
set_option maxRecDepth 20000 in
theorem ggX9_fit__X9_noWaiting : GoodIn wsX9_fit_ wsX9_noWaiting := goodIn_r _ [6, 7, 8, 9, 5, 10, 11, 12, 13, 14, 15, 16, 17, 18, 19, 20, 21, 22, 23, 24, 58, 59, 60, 61, 62, 63, 64, 65, 66, 67, 68, 69, 70, 71, 72, 73, 74, 75, 76, 77, 78, 79, 80, 81, 82, 83, 84, 85, 86, 87, 88, 89, 90, 91, 92, 93, 94, 95, 96, 97, 98, 99] (by decide +kernel) (by decide +kernel)
set_option maxRecDepth 20000 in
theorem gX9_fit__X9_noWaiting : GoodIn wsX9_fit_ (wsV RX9 287 RX9 yX9_noWaiting wsX9_noWaiting) := goodIn_app (goodIn_of _ (by decide +kernel)) ggX9_fit__X9_noWaiting
set_option maxRecDepth 20000 in
theorem ggX9_fit__X9_hireUpTo : GoodIn wsX9_fit_ wsX9_hireUpTo := goodIn_r _ [28, 29, 30, 31, 5, 32, 24, 11, 33, 34, 35, 36, 37, 38, 39, 40, 41, 42, 1, 43, 44, 45, 46, 47, 48, 49, 50, 51, 12, 13, 14, 52, 53, 54, 55, 56, 57, 58, 59, 60, 61, 62, 63, 64, 65, 66, 67, 68, 69, 70, 71, 72, 73, 74, 75, 76, 77, 78, 79, 80, 81, 82, 83, 84, 85, 86, 87, 88, 89, 90, 91, 92, 93, 94, 95, 96, 97, 98, 99] (by decide +kernel) (by decide +kernel)
set_option maxRecDepth 20000 in
theorem gX9_fit__X9_hireUpTo : GoodIn wsX9_fit_ (wsV RX9 275 RX9 yX9_hireUpTo wsX9_hireUpTo) := goodIn_app (goodIn_of _ (by decide +kernel)) ggX9_fit__X9_hireUpTo
theorem dX9_fit__0 : decode cX9_fit_ 0 = .ok (.aload_n 0, 1) := by decide +kernel
theorem dX9_fit__1 : decode cX9_fit_ 1 = .ok (.iload_n 1, 1) := by decide +kernel
theorem dX9_fit__2 : decode cX9_fit_ 2 = .ok (.invokevirtual 287, 3) := by decide +kernel
theorem dX9_fit__5 : decode cX9_fit_ 5 = .ok (.istore_n 2, 1) := by decide +kernel
theorem dX9_fit__6 : decode cX9_fit_ 6 = .ok (.iload_n 2, 1) := by decide +kernel
theorem dX9_fit__7 : decode cX9_fit_ 7 = .ok (.ifCond .eq 5, 3) := by decide +kernel
theorem dX9_fit__10 : decode cX9_fit_ 10 = .ok (.iload_n 2, 1) := by decide +kernel
theorem dX9_fit__11 : decode cX9_fit_ 11 = .ok (.ireturn, 1) := by decide +kernel
theorem dX9_fit__12 : decode cX9_fit_ 12 = .ok (.aload_n 0, 1) := by decide +kernel
theorem dX9_fit__13 : decode cX9_fit_ 13 = .ok (.getfield 56, 3) := by decide +kernel
theorem dX9_fit__16 : decode cX9_fit_ 16 = .ok (.iload_n 1, 1) := by decide +kernel
theorem dX9_fit__17 : decode cX9_fit_ 17 = .ok (.iaload, 1) := by decide +kernel
theorem dX9_fit__18 : decode cX9_fit_ 18 = .ok (.istore_n 3, 1) := by decide +kernel
theorem dX9_fit__19 : decode cX9_fit_ 19 = .ok (.iconst (-1), 1) := by decide +kernel
theorem dX9_fit__20 : decode cX9_fit_ 20 = .ok (.istore 4, 2) := by decide +kernel
theorem dX9_fit__22 : decode cX9_fit_ 22 = .ok (.bipush 40, 2) := by decide +kernel
theorem dX9_fit__24 : decode cX9_fit_ 24 = .ok (.istore 5, 2) := by decide +kernel
theorem dX9_fit__26 : decode cX9_fit_ 26 = .ok (.iload 5, 2) := by decide +kernel
theorem dX9_fit__28 : decode cX9_fit_ 28 = .ok (.iconst 1, 1) := by decide +kernel
theorem dX9_fit__29 : decode cX9_fit_ 29 = .ok (.if_icmp .lt 37, 3) := by decide +kernel
theorem dX9_fit__32 : decode cX9_fit_ 32 = .ok (.aload_n 0, 1) := by decide +kernel
theorem dX9_fit__33 : decode cX9_fit_ 33 = .ok (.getfield 56, 3) := by decide +kernel
theorem dX9_fit__36 : decode cX9_fit_ 36 = .ok (.iload_n 1, 1) := by decide +kernel
theorem dX9_fit__37 : decode cX9_fit_ 37 = .ok (.iload 5, 2) := by decide +kernel
theorem dX9_fit__39 : decode cX9_fit_ 39 = .ok (.iastore, 1) := by decide +kernel
theorem dX9_fit__40 : decode cX9_fit_ 40 = .ok (.aload_n 0, 1) := by decide +kernel
theorem dX9_fit__41 : decode cX9_fit_ 41 = .ok (.iconst 1, 1) := by decide +kernel
theorem dX9_fit__42 : decode cX9_fit_ 42 = .ok (.iload_n 1, 1) := by decide +kernel
theorem dX9_fit__43 : decode cX9_fit_ 43 = .ok (.ishl, 1) := by decide +kernel
theorem dX9_fit__44 : decode cX9_fit_ 44 = .ok (.iconst 0, 1) := by decide +kernel
theorem dX9_fit__45 : decode cX9_fit_ 45 = .ok (.invokevirtual 275, 3) := by decide +kernel
theorem dX9_fit__48 : decode cX9_fit_ 48 = .ok (.ifCond .ne 8, 3) := by decide +kernel
theorem dX9_fit__51 : decode cX9_fit_ 51 = .ok (.iload 5, 2) := by decide +kernel
theorem dX9_fit__53 : decode cX9_fit_ 53 = .ok (.goto 5, 3) := by decide +kernel
theorem dX9_fit__56 : decode cX9_fit_ 56 = .ok (.iload 4, 2) := by decide +kernel
theorem dX9_fit__58 : decode cX9_fit_ 58 = .ok (.istore 4, 2) := by decide +kernel
theorem dX9_fit__60 : decode cX9_fit_ 60 = .ok (.iinc 5 (-1), 3) := by decide +kernel
theorem dX9_fit__63 : decode cX9_fit_ 63 = .ok (.goto (-37), 3) := by decide +kernel
theorem dX9_fit__66 : decode cX9_fit_ 66 = .ok (.aload_n 0, 1) := by decide +kernel
theorem dX9_fit__67 : decode cX9_fit_ 67 = .ok (.getfield 56, 3) := by decide +kernel
theorem dX9_fit__70 : decode cX9_fit_ 70 = .ok (.iload_n 1, 1) := by decide +kernel
theorem dX9_fit__71 : decode cX9_fit_ 71 = .ok (.iload_n 3, 1) := by decide +kernel
theorem dX9_fit__72 : decode cX9_fit_ 72 = .ok (.iastore, 1) := by decide +kernel
theorem dX9_fit__73 : decode cX9_fit_ 73 = .ok (.iload 4, 2) := by decide +kernel
theorem dX9_fit__75 : decode cX9_fit_ 75 = .ok (.ireturn, 1) := by decide +kernel
theorem dX9_knotOf_0 : decode cX9_knotOf 0 = .ok (.iconst 1, 1) := by decide +kernel
theorem dX9_knotOf_1 : decode cX9_knotOf 1 = .ok (.iload_n 1, 1) := by decide +kernel
theorem dX9_knotOf_2 : decode cX9_knotOf 2 = .ok (.ishl, 1) := by decide +kernel
theorem dX9_knotOf_3 : decode cX9_knotOf 3 = .ok (.istore_n 2, 1) := by decide +kernel
theorem dX9_knotOf_4 : decode cX9_knotOf 4 = .ok (.iconst 0, 1) := by decide +kernel
theorem dX9_knotOf_5 : decode cX9_knotOf 5 = .ok (.istore_n 3, 1) := by decide +kernel
theorem dX9_knotOf_6 : decode cX9_knotOf 6 = .ok (.iload_n 3, 1) := by decide +kernel
theorem dX9_knotOf_7 : decode cX9_knotOf 7 = .ok (.aload_n 0, 1) := by decide +kernel
theorem dX9_knotOf_8 : decode cX9_knotOf 8 = .ok (.getfield 93, 3) := by decide +kernel
theorem dX9_knotOf_11 : decode cX9_knotOf 11 = .ok (.if_icmp .ge 51, 3) := by decide +kernel
theorem dX9_knotOf_14 : decode cX9_knotOf 14 = .ok (.iconst 0, 1) := by decide +kernel
theorem dX9_knotOf_15 : decode cX9_knotOf 15 = .ok (.istore 4, 2) := by decide +kernel
theorem dX9_knotOf_17 : decode cX9_knotOf 17 = .ok (.iload 4, 2) := by decide +kernel
theorem dX9_knotOf_19 : decode cX9_knotOf 19 = .ok (.aload_n 0, 1) := by decide +kernel
theorem dX9_knotOf_20 : decode cX9_knotOf 20 = .ok (.getfield 93, 3) := by decide +kernel
theorem dX9_knotOf_23 : decode cX9_knotOf 23 = .ok (.if_icmp .ge 33, 3) := by decide +kernel
theorem dX9_knotOf_26 : decode cX9_knotOf 26 = .ok (.iload_n 2, 1) := by decide +kernel
theorem dX9_knotOf_27 : decode cX9_knotOf 27 = .ok (.iload_n 2, 1) := by decide +kernel
theorem dX9_knotOf_28 : decode cX9_knotOf 28 = .ok (.iload 4, 2) := by decide +kernel
theorem dX9_knotOf_30 : decode cX9_knotOf 30 = .ok (.ishr, 1) := by decide +kernel
theorem dX9_knotOf_31 : decode cX9_knotOf 31 = .ok (.iconst 1, 1) := by decide +kernel
theorem dX9_knotOf_32 : decode cX9_knotOf 32 = .ok (.iand, 1) := by decide +kernel
theorem dX9_knotOf_33 : decode cX9_knotOf 33 = .ok (.iconst 1, 1) := by decide +kernel
theorem dX9_knotOf_34 : decode cX9_knotOf 34 = .ok (.if_icmp .ne 13, 3) := by decide +kernel
theorem dX9_knotOf_37 : decode cX9_knotOf 37 = .ok (.aload_n 0, 1) := by decide +kernel
theorem dX9_knotOf_38 : decode cX9_knotOf 38 = .ok (.getfield 62, 3) := by decide +kernel
theorem dX9_knotOf_41 : decode cX9_knotOf 41 = .ok (.iload 4, 2) := by decide +kernel
theorem dX9_knotOf_43 : decode cX9_knotOf 43 = .ok (.iaload, 1) := by decide +kernel
theorem dX9_knotOf_44 : decode cX9_knotOf 44 = .ok (.goto 4, 3) := by decide +kernel
theorem dX9_knotOf_47 : decode cX9_knotOf 47 = .ok (.iconst 0, 1) := by decide +kernel
theorem dX9_knotOf_48 : decode cX9_knotOf 48 = .ok (.ior, 1) := by decide +kernel
theorem dX9_knotOf_49 : decode cX9_knotOf 49 = .ok (.istore_n 2, 1) := by decide +kernel
theorem dX9_knotOf_50 : decode cX9_knotOf 50 = .ok (.iinc 4 1, 3) := by decide +kernel
theorem dX9_knotOf_53 : decode cX9_knotOf 53 = .ok (.goto (-36), 3) := by decide +kernel
theorem dX9_knotOf_56 : decode cX9_knotOf 56 = .ok (.iinc 3 1, 3) := by decide +kernel
theorem dX9_knotOf_59 : decode cX9_knotOf 59 = .ok (.goto (-53), 3) := by decide +kernel
theorem dX9_knotOf_62 : decode cX9_knotOf 62 = .ok (.iload_n 2, 1) := by decide +kernel
theorem dX9_knotOf_63 : decode cX9_knotOf 63 = .ok (.ireturn, 1) := by decide +kernel
set_option maxRecDepth 20000 in
theorem ggX9_knot_X9_isParty : GoodIn wsX9_knot wsX9_isParty := goodIn_r _ [5, 6, 7, 8, 4, 9, 20, 21, 22, 23, 24, 25, 26, 27, 28, 29, 30, 31, 32, 33, 34, 35, 36, 37, 38, 39, 40, 41, 42, 43, 44, 45, 46, 47, 48, 49, 50, 51, 52, 53, 54, 55, 56, 57, 58, 59, 60, 61] (by decide +kernel) (by decide +kernel)
set_option maxRecDepth 20000 in
theorem gX9_knot_X9_isParty : GoodIn wsX9_knot (wsV RX9 120 RX9 yX9_isParty wsX9_isParty) := goodIn_app (goodIn_of _ (by decide +kernel)) ggX9_knot_X9_isParty
set_option maxRecDepth 20000 in
theorem ggX9_knot_X9_knotOf : GoodIn wsX9_knot wsX9_knotOf := goodIn_r _ [13, 6, 14, 20, 21, 22, 23, 24, 25, 26, 27, 28, 29, 30, 31, 32, 33, 34, 35, 36, 37, 38, 39, 40, 41, 42, 43, 44, 45, 46, 47, 48, 49, 50, 51, 52, 53, 54, 55, 56, 57, 58, 59, 60, 61] (by decide +kernel) (by decide +kernel)
set_option maxRecDepth 20000 in
theorem gX9_knot_X9_knotOf : GoodIn wsX9_knot (wsV RX9 290 RX9 yX9_knotOf wsX9_knotOf) := goodIn_app (goodIn_of _ (by decide +kernel)) ggX9_knot_X9_knotOf
set_option maxRecDepth 20000 in
theorem ggX9_knot_X9_refuse : GoodIn wsX9_knot wsX9_refuse := goodIn_r _ [18, 19, 20, 21, 22, 23, 24, 25, 26, 27, 28, 29, 30, 31, 32, 33, 34, 35, 36, 37, 38, 39, 40, 41, 42, 43, 44, 45, 46, 47, 48, 49, 50, 51, 52, 53, 54, 55, 56, 57, 58, 59, 60, 61] (by decide +kernel) (by decide +kernel)
set_option maxRecDepth 20000 in
theorem gX9_knot_X9_refuse : GoodIn wsX9_knot (wsV RX9 109 RX9 yX9_refuse wsX9_refuse) := goodIn_app (goodIn_of _ (by decide +kernel)) ggX9_knot_X9_refuse
theorem dX9_knot_0 : decode cX9_knot 0 = .ok (.aload_n 0, 1) := by decide +kernel
theorem dX9_knot_1 : decode cX9_knot 1 = .ok (.iload_n 1, 1) := by decide +kernel
theorem dX9_knot_2 : decode cX9_knot 2 = .ok (.invokevirtual 120, 3) := by decide +kernel
theorem dX9_knot_5 : decode cX9_knot 5 = .ok (.ifCond .eq 11, 3) := by decide +kernel
theorem dX9_knot_8 : decode cX9_knot 8 = .ok (.aload_n 0, 1) := by decide +kernel
theorem dX9_knot_9 : decode cX9_knot 9 = .ok (.iload_n 1, 1) := by decide +kernel
theorem dX9_knot_10 : decode cX9_knot 10 = .ok (.invokevirtual 290, 3) := by decide +kernel
theorem dX9_knot_13 : decode cX9_knot 13 = .ok (.goto 10, 3) := by decide +kernel
theorem dX9_knot_16 : decode cX9_knot 16 = .ok (.aload_n 0, 1) := by decide +kernel
theorem dX9_knot_17 : decode cX9_knot 17 = .ok (.sipush (-1002), 3) := by decide +kernel
theorem dX9_knot_20 : decode cX9_knot 20 = .ok (.invokevirtual 109, 3) := by decide +kernel
theorem dX9_knot_23 : decode cX9_knot 23 = .ok (.ireturn, 1) := by decide +kernel
set_option maxRecDepth 20000 in
theorem ggX9_torn_X9_knotOf : GoodIn wsX9_torn wsX9_knotOf := goodIn_r _ [7, 1, 8, 9, 10, 11, 12, 13, 14, 15, 16, 17, 18, 19, 20, 21, 22, 23, 24, 25, 26, 27, 28, 29, 30, 31, 32, 33, 34, 35, 36, 37, 38, 39, 40, 41, 42, 43, 44, 45, 46, 47, 48, 49, 50] (by decide +kernel) (by decide +kernel)
set_option maxRecDepth 20000 in
theorem gX9_torn_X9_knotOf : GoodIn wsX9_torn (wsV RX9 290 RX9 yX9_knotOf wsX9_knotOf) := goodIn_app (goodIn_of _ (by decide +kernel)) ggX9_torn_X9_knotOf
theorem dX9_torn_0 : decode cX9_torn 0 = .ok (.iconst 0, 1) := by decide +kernel
theorem dX9_torn_1 : decode cX9_torn 1 = .ok (.istore_n 1, 1) := by decide +kernel
theorem dX9_torn_2 : decode cX9_torn 2 = .ok (.iconst 0, 1) := by decide +kernel
theorem dX9_torn_3 : decode cX9_torn 3 = .ok (.istore_n 2, 1) := by decide +kernel
theorem dX9_torn_4 : decode cX9_torn 4 = .ok (.iload_n 2, 1) := by decide +kernel
theorem dX9_torn_5 : decode cX9_torn 5 = .ok (.aload_n 0, 1) := by decide +kernel
theorem dX9_torn_6 : decode cX9_torn 6 = .ok (.getfield 93, 3) := by decide +kernel
theorem dX9_torn_9 : decode cX9_torn 9 = .ok (.if_icmp .ge 32, 3) := by decide +kernel
theorem dX9_torn_12 : decode cX9_torn 12 = .ok (.iload_n 1, 1) := by decide +kernel
theorem dX9_torn_13 : decode cX9_torn 13 = .ok (.aload_n 0, 1) := by decide +kernel
theorem dX9_torn_14 : decode cX9_torn 14 = .ok (.iload_n 2, 1) := by decide +kernel
theorem dX9_torn_15 : decode cX9_torn 15 = .ok (.invokevirtual 290, 3) := by decide +kernel
theorem dX9_torn_18 : decode cX9_torn 18 = .ok (.aload_n 0, 1) := by decide +kernel
theorem dX9_torn_19 : decode cX9_torn 19 = .ok (.getfield 65, 3) := by decide +kernel
theorem dX9_torn_22 : decode cX9_torn 22 = .ok (.iload_n 2, 1) := by decide +kernel
theorem dX9_torn_23 : decode cX9_torn 23 = .ok (.iaload, 1) := by decide +kernel
theorem dX9_torn_24 : decode cX9_torn 24 = .ok (.iand, 1) := by decide +kernel
theorem dX9_torn_25 : decode cX9_torn 25 = .ok (.ifCond .eq 7, 3) := by decide +kernel
theorem dX9_torn_28 : decode cX9_torn 28 = .ok (.iconst 1, 1) := by decide +kernel
theorem dX9_torn_29 : decode cX9_torn 29 = .ok (.goto 4, 3) := by decide +kernel
theorem dX9_torn_32 : decode cX9_torn 32 = .ok (.iconst 0, 1) := by decide +kernel
theorem dX9_torn_33 : decode cX9_torn 33 = .ok (.ior, 1) := by decide +kernel
theorem dX9_torn_34 : decode cX9_torn 34 = .ok (.istore_n 1, 1) := by decide +kernel
theorem dX9_torn_35 : decode cX9_torn 35 = .ok (.iinc 2 1, 3) := by decide +kernel
theorem dX9_torn_38 : decode cX9_torn 38 = .ok (.goto (-34), 3) := by decide +kernel
theorem dX9_torn_41 : decode cX9_torn 41 = .ok (.iload_n 1, 1) := by decide +kernel
theorem dX9_torn_42 : decode cX9_torn 42 = .ok (.ireturn, 1) := by decide +kernel
set_option maxRecDepth 20000 in
theorem ggX9_ofKind_X9_in : GoodIn wsX9_ofKind wsX9_in := goodIn_r _ [7] (by decide +kernel) (by decide +kernel)
set_option maxRecDepth 20000 in
theorem gX9_ofKind_X9_in : GoodIn wsX9_ofKind (va_wsS RX9 96 yX9_in wsX9_in) := goodIn_app (goodIn_of _ (by decide +kernel)) ggX9_ofKind_X9_in
set_option maxRecDepth 20000 in
theorem ggX9_ofKind_X9_refuse : GoodIn wsX9_ofKind wsX9_refuse := goodIn_r _ [11, 12, 13, 14, 15, 16, 17, 18, 19, 20, 21, 22, 23, 24, 25, 26, 27, 28, 29, 30, 31, 32, 33, 34, 35, 36, 37, 38, 39, 40, 41, 42, 43, 44, 45, 46, 47, 48, 49, 50, 51, 52, 53, 54] (by decide +kernel) (by decide +kernel)
set_option maxRecDepth 20000 in
theorem gX9_ofKind_X9_refuse : GoodIn wsX9_ofKind (wsV RX9 109 RX9 yX9_refuse wsX9_refuse) := goodIn_app (goodIn_of _ (by decide +kernel)) ggX9_ofKind_X9_refuse
theorem dX9_ofKind_0 : decode cX9_ofKind 0 = .ok (.iload_n 1, 1) := by decide +kernel
theorem dX9_ofKind_1 : decode cX9_ofKind 1 = .ok (.i2l, 1) := by decide +kernel
theorem dX9_ofKind_2 : decode cX9_ofKind 2 = .ok (.lconst 0, 1) := by decide +kernel
theorem dX9_ofKind_3 : decode cX9_ofKind 3 = .ok (.ldc2_w 124, 3) := by decide +kernel
theorem dX9_ofKind_6 : decode cX9_ofKind 6 = .ok (.invokestatic 96, 3) := by decide +kernel
theorem dX9_ofKind_9 : decode cX9_ofKind 9 = .ok (.ifCond .ne 11, 3) := by decide +kernel
theorem dX9_ofKind_12 : decode cX9_ofKind 12 = .ok (.aload_n 0, 1) := by decide +kernel
theorem dX9_ofKind_13 : decode cX9_ofKind 13 = .ok (.sipush (-1002), 3) := by decide +kernel
theorem dX9_ofKind_16 : decode cX9_ofKind 16 = .ok (.invokevirtual 109, 3) := by decide +kernel
theorem dX9_ofKind_19 : decode cX9_ofKind 19 = .ok (.ireturn, 1) := by decide +kernel
theorem dX9_ofKind_20 : decode cX9_ofKind 20 = .ok (.iconst 0, 1) := by decide +kernel
theorem dX9_ofKind_21 : decode cX9_ofKind 21 = .ok (.istore_n 2, 1) := by decide +kernel
theorem dX9_ofKind_22 : decode cX9_ofKind 22 = .ok (.iconst 0, 1) := by decide +kernel
theorem dX9_ofKind_23 : decode cX9_ofKind 23 = .ok (.istore_n 3, 1) := by decide +kernel
theorem dX9_ofKind_24 : decode cX9_ofKind 24 = .ok (.iload_n 3, 1) := by decide +kernel
theorem dX9_ofKind_25 : decode cX9_ofKind 25 = .ok (.aload_n 0, 1) := by decide +kernel
theorem dX9_ofKind_26 : decode cX9_ofKind 26 = .ok (.getfield 93, 3) := by decide +kernel
theorem dX9_ofKind_29 : decode cX9_ofKind 29 = .ok (.if_icmp .ge 27, 3) := by decide +kernel
theorem dX9_ofKind_32 : decode cX9_ofKind 32 = .ok (.iload_n 2, 1) := by decide +kernel
theorem dX9_ofKind_33 : decode cX9_ofKind 33 = .ok (.aload_n 0, 1) := by decide +kernel
theorem dX9_ofKind_34 : decode cX9_ofKind 34 = .ok (.getfield 50, 3) := by decide +kernel
theorem dX9_ofKind_37 : decode cX9_ofKind 37 = .ok (.iload_n 3, 1) := by decide +kernel
theorem dX9_ofKind_38 : decode cX9_ofKind 38 = .ok (.iaload, 1) := by decide +kernel
theorem dX9_ofKind_39 : decode cX9_ofKind 39 = .ok (.iload_n 1, 1) := by decide +kernel
theorem dX9_ofKind_40 : decode cX9_ofKind 40 = .ok (.if_icmp .ne 7, 3) := by decide +kernel
theorem dX9_ofKind_43 : decode cX9_ofKind 43 = .ok (.iconst 1, 1) := by decide +kernel
theorem dX9_ofKind_44 : decode cX9_ofKind 44 = .ok (.goto 4, 3) := by decide +kernel
theorem dX9_ofKind_47 : decode cX9_ofKind 47 = .ok (.iconst 0, 1) := by decide +kernel
theorem dX9_ofKind_48 : decode cX9_ofKind 48 = .ok (.iadd, 1) := by decide +kernel
theorem dX9_ofKind_49 : decode cX9_ofKind 49 = .ok (.istore_n 2, 1) := by decide +kernel
theorem dX9_ofKind_50 : decode cX9_ofKind 50 = .ok (.iinc 3 1, 3) := by decide +kernel
theorem dX9_ofKind_53 : decode cX9_ofKind 53 = .ok (.goto (-29), 3) := by decide +kernel
theorem dX9_ofKind_56 : decode cX9_ofKind 56 = .ok (.iload_n 2, 1) := by decide +kernel
theorem dX9_ofKind_57 : decode cX9_ofKind 57 = .ok (.ireturn, 1) := by decide +kernel
theorem dX9_waitingBits_0 : decode cX9_waitingBits 0 = .ok (.iconst 1, 1) := by decide +kernel
theorem dX9_waitingBits_1 : decode cX9_waitingBits 1 = .ok (.aload_n 0, 1) := by decide +kernel
theorem dX9_waitingBits_2 : decode cX9_waitingBits 2 = .ok (.getfield 93, 3) := by decide +kernel
theorem dX9_waitingBits_5 : decode cX9_waitingBits 5 = .ok (.ishl, 1) := by decide +kernel
theorem dX9_waitingBits_6 : decode cX9_waitingBits 6 = .ok (.iconst 1, 1) := by decide +kernel
theorem dX9_waitingBits_7 : decode cX9_waitingBits 7 = .ok (.isub, 1) := by decide +kernel
theorem dX9_waitingBits_8 : decode cX9_waitingBits 8 = .ok (.aload_n 0, 1) := by decide +kernel
theorem dX9_waitingBits_9 : decode cX9_waitingBits 9 = .ok (.getfield 100, 3) := by decide +kernel
theorem dX9_waitingBits_12 : decode cX9_waitingBits 12 = .ok (.iconst (-1), 1) := by decide +kernel
theorem dX9_waitingBits_13 : decode cX9_waitingBits 13 = .ok (.ixor, 1) := by decide +kernel
theorem dX9_waitingBits_14 : decode cX9_waitingBits 14 = .ok (.iand, 1) := by decide +kernel
theorem dX9_waitingBits_15 : decode cX9_waitingBits 15 = .ok (.ireturn, 1) := by decide +kernel
set_option maxRecDepth 20000 in
theorem ggX9_findPlan_X9_waitingBits : GoodIn wsX9_findPlan wsX9_waitingBits := goodIn_r _ [7, 8, 9, 52, 53, 54, 55, 56, 57, 58, 59, 60, 61, 62, 63, 64, 65, 66, 67, 68, 69, 70, 71, 72, 73, 74, 75, 76, 77, 78, 79, 80, 81, 82, 83, 84, 85, 86, 87, 88, 89, 90, 91, 92, 93] (by decide +kernel) (by decide +kernel)
set_option maxRecDepth 20000 in
theorem gX9_findPlan_X9_waitingBits : GoodIn wsX9_findPlan (wsV RX9 293 RX9 yX9_waitingBits wsX9_waitingBits) := goodIn_app (goodIn_of _ (by decide +kernel)) ggX9_findPlan_X9_waitingBits
set_option maxRecDepth 20000 in
theorem ggX9_findPlan_X9_hireOf : GoodIn wsX9_findPlan wsX9_hireOf := goodIn_r _ [13, 14, 15, 16, 17, 6, 18, 19, 20, 21, 22, 9, 8, 23, 24, 25, 26, 27, 28, 29, 30, 31, 32, 33, 34, 35, 36, 37, 38, 39, 40, 41, 42, 43, 44, 45, 46, 47, 48, 49, 50, 51, 52, 53, 54, 55, 56, 57, 58, 59, 60, 61, 62, 63, 64, 65, 66, 67, 68, 69, 70, 71, 72, 73, 74, 75, 76, 77, 78, 79, 80, 81, 82, 83, 84, 85, 86, 87, 88, 89, 90, 91, 92, 93] (by decide +kernel) (by decide +kernel)
set_option maxRecDepth 20000 in
theorem gX9_findPlan_X9_hireOf : GoodIn wsX9_findPlan (wsV RX9 284 RX9 yX9_hireOf wsX9_hireOf) := goodIn_app (goodIn_of _ (by decide +kernel)) ggX9_findPlan_X9_hireOf
theorem dX9_findPlan_0 : decode cX9_findPlan 0 = .ok (.aload_n 0, 1) := by decide +kernel
theorem dX9_findPlan_1 : decode cX9_findPlan 1 = .ok (.invokevirtual 293, 3) := by decide +kernel
theorem dX9_findPlan_4 : decode cX9_findPlan 4 = .ok (.istore_n 1, 1) := by decide +kernel
theorem dX9_findPlan_5 : decode cX9_findPlan 5 = .ok (.aload_n 0, 1) := by decide +kernel
theorem dX9_findPlan_6 : decode cX9_findPlan 6 = .ok (.getfield 80, 3) := by decide +kernel
theorem dX9_findPlan_9 : decode cX9_findPlan 9 = .ok (.iconst 0, 1) := by decide +kernel
theorem dX9_findPlan_10 : decode cX9_findPlan 10 = .ok (.iconst 0, 1) := by decide +kernel
theorem dX9_findPlan_11 : decode cX9_findPlan 11 = .ok (.iastore, 1) := by decide +kernel
theorem dX9_findPlan_12 : decode cX9_findPlan 12 = .ok (.iconst 1, 1) := by decide +kernel
theorem dX9_findPlan_13 : decode cX9_findPlan 13 = .ok (.istore_n 2, 1) := by decide +kernel
theorem dX9_findPlan_14 : decode cX9_findPlan 14 = .ok (.iload_n 2, 1) := by decide +kernel
theorem dX9_findPlan_15 : decode cX9_findPlan 15 = .ok (.iload_n 1, 1) := by decide +kernel
theorem dX9_findPlan_16 : decode cX9_findPlan 16 = .ok (.if_icmp .gt 141, 3) := by decide +kernel
theorem dX9_findPlan_19 : decode cX9_findPlan 19 = .ok (.aload_n 0, 1) := by decide +kernel
theorem dX9_findPlan_20 : decode cX9_findPlan 20 = .ok (.getfield 77, 3) := by decide +kernel
theorem dX9_findPlan_23 : decode cX9_findPlan 23 = .ok (.iload_n 2, 1) := by decide +kernel
theorem dX9_findPlan_24 : decode cX9_findPlan 24 = .ok (.aload_n 0, 1) := by decide +kernel
theorem dX9_findPlan_25 : decode cX9_findPlan 25 = .ok (.iload_n 2, 1) := by decide +kernel
theorem dX9_findPlan_26 : decode cX9_findPlan 26 = .ok (.invokevirtual 284, 3) := by decide +kernel
theorem dX9_findPlan_29 : decode cX9_findPlan 29 = .ok (.iastore, 1) := by decide +kernel
theorem dX9_findPlan_30 : decode cX9_findPlan 30 = .ok (.aload_n 0, 1) := by decide +kernel
theorem dX9_findPlan_31 : decode cX9_findPlan 31 = .ok (.getfield 80, 3) := by decide +kernel
theorem dX9_findPlan_34 : decode cX9_findPlan 34 = .ok (.iload_n 2, 1) := by decide +kernel
theorem dX9_findPlan_35 : decode cX9_findPlan 35 = .ok (.iconst (-1), 1) := by decide +kernel
theorem dX9_findPlan_36 : decode cX9_findPlan 36 = .ok (.iastore, 1) := by decide +kernel
theorem dX9_findPlan_37 : decode cX9_findPlan 37 = .ok (.iload_n 2, 1) := by decide +kernel
theorem dX9_findPlan_38 : decode cX9_findPlan 38 = .ok (.istore_n 3, 1) := by decide +kernel
theorem dX9_findPlan_39 : decode cX9_findPlan 39 = .ok (.iload_n 3, 1) := by decide +kernel
theorem dX9_findPlan_40 : decode cX9_findPlan 40 = .ok (.ifCond .le 111, 3) := by decide +kernel
theorem dX9_findPlan_43 : decode cX9_findPlan 43 = .ok (.iload_n 2, 1) := by decide +kernel
theorem dX9_findPlan_44 : decode cX9_findPlan 44 = .ok (.iload_n 1, 1) := by decide +kernel
theorem dX9_findPlan_45 : decode cX9_findPlan 45 = .ok (.iconst (-1), 1) := by decide +kernel
theorem dX9_findPlan_46 : decode cX9_findPlan 46 = .ok (.ixor, 1) := by decide +kernel
theorem dX9_findPlan_47 : decode cX9_findPlan 47 = .ok (.iand, 1) := by decide +kernel
theorem dX9_findPlan_48 : decode cX9_findPlan 48 = .ok (.ifCond .ne 103, 3) := by decide +kernel
theorem dX9_findPlan_51 : decode cX9_findPlan 51 = .ok (.aload_n 0, 1) := by decide +kernel
theorem dX9_findPlan_52 : decode cX9_findPlan 52 = .ok (.getfield 80, 3) := by decide +kernel
theorem dX9_findPlan_55 : decode cX9_findPlan 55 = .ok (.iload_n 2, 1) := by decide +kernel
theorem dX9_findPlan_56 : decode cX9_findPlan 56 = .ok (.iload_n 3, 1) := by decide +kernel
theorem dX9_findPlan_57 : decode cX9_findPlan 57 = .ok (.iconst (-1), 1) := by decide +kernel
theorem dX9_findPlan_58 : decode cX9_findPlan 58 = .ok (.ixor, 1) := by decide +kernel
theorem dX9_findPlan_59 : decode cX9_findPlan 59 = .ok (.iand, 1) := by decide +kernel
theorem dX9_findPlan_60 : decode cX9_findPlan 60 = .ok (.iaload, 1) := by decide +kernel
theorem dX9_findPlan_61 : decode cX9_findPlan 61 = .ok (.istore 4, 2) := by decide +kernel
theorem dX9_findPlan_63 : decode cX9_findPlan 63 = .ok (.aload_n 0, 1) := by decide +kernel
theorem dX9_findPlan_64 : decode cX9_findPlan 64 = .ok (.getfield 77, 3) := by decide +kernel
theorem dX9_findPlan_67 : decode cX9_findPlan 67 = .ok (.iload_n 3, 1) := by decide +kernel
theorem dX9_findPlan_68 : decode cX9_findPlan 68 = .ok (.iaload, 1) := by decide +kernel
theorem dX9_findPlan_69 : decode cX9_findPlan 69 = .ok (.iconst (-1), 1) := by decide +kernel
theorem dX9_findPlan_70 : decode cX9_findPlan 70 = .ok (.if_icmp .eq 9, 3) := by decide +kernel
theorem dX9_findPlan_73 : decode cX9_findPlan 73 = .ok (.iload 4, 2) := by decide +kernel
theorem dX9_findPlan_75 : decode cX9_findPlan 75 = .ok (.iconst (-1), 1) := by decide +kernel
theorem dX9_findPlan_76 : decode cX9_findPlan 76 = .ok (.if_icmp .ne 7, 3) := by decide +kernel
theorem dX9_findPlan_79 : decode cX9_findPlan 79 = .ok (.iconst (-1), 1) := by decide +kernel
theorem dX9_findPlan_80 : decode cX9_findPlan 80 = .ok (.goto 16, 3) := by decide +kernel
theorem dX9_findPlan_83 : decode cX9_findPlan 83 = .ok (.iload 4, 2) := by decide +kernel
theorem dX9_findPlan_85 : decode cX9_findPlan 85 = .ok (.sipush 1000, 3) := by decide +kernel
theorem dX9_findPlan_88 : decode cX9_findPlan 88 = .ok (.iadd, 1) := by decide +kernel
theorem dX9_findPlan_89 : decode cX9_findPlan 89 = .ok (.aload_n 0, 1) := by decide +kernel
theorem dX9_findPlan_90 : decode cX9_findPlan 90 = .ok (.getfield 77, 3) := by decide +kernel
theorem dX9_findPlan_93 : decode cX9_findPlan 93 = .ok (.iload_n 3, 1) := by decide +kernel
theorem dX9_findPlan_94 : decode cX9_findPlan 94 = .ok (.iaload, 1) := by decide +kernel
theorem dX9_findPlan_95 : decode cX9_findPlan 95 = .ok (.iadd, 1) := by decide +kernel
theorem dX9_findPlan_96 : decode cX9_findPlan 96 = .ok (.istore 5, 2) := by decide +kernel
theorem dX9_findPlan_98 : decode cX9_findPlan 98 = .ok (.aload_n 0, 1) := by decide +kernel
theorem dX9_findPlan_99 : decode cX9_findPlan 99 = .ok (.getfield 80, 3) := by decide +kernel
theorem dX9_findPlan_102 : decode cX9_findPlan 102 = .ok (.iload_n 2, 1) := by decide +kernel
theorem dX9_findPlan_103 : decode cX9_findPlan 103 = .ok (.iload 5, 2) := by decide +kernel
theorem dX9_findPlan_105 : decode cX9_findPlan 105 = .ok (.iconst (-1), 1) := by decide +kernel
theorem dX9_findPlan_106 : decode cX9_findPlan 106 = .ok (.if_icmp .eq 29, 3) := by decide +kernel
theorem dX9_findPlan_109 : decode cX9_findPlan 109 = .ok (.aload_n 0, 1) := by decide +kernel
theorem dX9_findPlan_110 : decode cX9_findPlan 110 = .ok (.getfield 80, 3) := by decide +kernel
theorem dX9_findPlan_113 : decode cX9_findPlan 113 = .ok (.iload_n 2, 1) := by decide +kernel
theorem dX9_findPlan_114 : decode cX9_findPlan 114 = .ok (.iaload, 1) := by decide +kernel
theorem dX9_findPlan_115 : decode cX9_findPlan 115 = .ok (.iconst (-1), 1) := by decide +kernel
theorem dX9_findPlan_116 : decode cX9_findPlan 116 = .ok (.if_icmp .eq 14, 3) := by decide +kernel
theorem dX9_findPlan_119 : decode cX9_findPlan 119 = .ok (.iload 5, 2) := by decide +kernel
theorem dX9_findPlan_121 : decode cX9_findPlan 121 = .ok (.aload_n 0, 1) := by decide +kernel
theorem dX9_findPlan_122 : decode cX9_findPlan 122 = .ok (.getfield 80, 3) := by decide +kernel
theorem dX9_findPlan_125 : decode cX9_findPlan 125 = .ok (.iload_n 2, 1) := by decide +kernel
theorem dX9_findPlan_126 : decode cX9_findPlan 126 = .ok (.iaload, 1) := by decide +kernel
theorem dX9_findPlan_127 : decode cX9_findPlan 127 = .ok (.if_icmp .ge 8, 3) := by decide +kernel
theorem dX9_findPlan_130 : decode cX9_findPlan 130 = .ok (.iload 5, 2) := by decide +kernel
theorem dX9_findPlan_132 : decode cX9_findPlan 132 = .ok (.goto 9, 3) := by decide +kernel
theorem dX9_findPlan_135 : decode cX9_findPlan 135 = .ok (.aload_n 0, 1) := by decide +kernel
theorem dX9_findPlan_136 : decode cX9_findPlan 136 = .ok (.getfield 80, 3) := by decide +kernel
theorem dX9_findPlan_139 : decode cX9_findPlan 139 = .ok (.iload_n 2, 1) := by decide +kernel
theorem dX9_findPlan_140 : decode cX9_findPlan 140 = .ok (.iaload, 1) := by decide +kernel
theorem dX9_findPlan_141 : decode cX9_findPlan 141 = .ok (.iastore, 1) := by decide +kernel
theorem dX9_findPlan_142 : decode cX9_findPlan 142 = .ok (.iload_n 3, 1) := by decide +kernel
theorem dX9_findPlan_143 : decode cX9_findPlan 143 = .ok (.iconst 1, 1) := by decide +kernel
theorem dX9_findPlan_144 : decode cX9_findPlan 144 = .ok (.isub, 1) := by decide +kernel
theorem dX9_findPlan_145 : decode cX9_findPlan 145 = .ok (.iload_n 2, 1) := by decide +kernel
theorem dX9_findPlan_146 : decode cX9_findPlan 146 = .ok (.iand, 1) := by decide +kernel
theorem dX9_findPlan_147 : decode cX9_findPlan 147 = .ok (.istore_n 3, 1) := by decide +kernel
theorem dX9_findPlan_148 : decode cX9_findPlan 148 = .ok (.goto (-109), 3) := by decide +kernel
theorem dX9_findPlan_151 : decode cX9_findPlan 151 = .ok (.iinc 2 1, 3) := by decide +kernel
theorem dX9_findPlan_154 : decode cX9_findPlan 154 = .ok (.goto (-140), 3) := by decide +kernel
theorem dX9_findPlan_157 : decode cX9_findPlan 157 = .ok (.aload_n 0, 1) := by decide +kernel
theorem dX9_findPlan_158 : decode cX9_findPlan 158 = .ok (.getfield 80, 3) := by decide +kernel
theorem dX9_findPlan_161 : decode cX9_findPlan 161 = .ok (.iload_n 1, 1) := by decide +kernel
theorem dX9_findPlan_162 : decode cX9_findPlan 162 = .ok (.iaload, 1) := by decide +kernel
theorem dX9_findPlan_163 : decode cX9_findPlan 163 = .ok (.ireturn, 1) := by decide +kernel
theorem dX9_begins_0 : decode cX9_begins 0 = .ok (.aload_n 0, 1) := by decide +kernel
theorem dX9_begins_1 : decode cX9_begins 1 = .ok (.getfield 80, 3) := by decide +kernel
theorem dX9_begins_4 : decode cX9_begins 4 = .ok (.iload_n 1, 1) := by decide +kernel
theorem dX9_begins_5 : decode cX9_begins 5 = .ok (.iload_n 2, 1) := by decide +kernel
theorem dX9_begins_6 : decode cX9_begins 6 = .ok (.iconst (-1), 1) := by decide +kernel
theorem dX9_begins_7 : decode cX9_begins 7 = .ok (.ixor, 1) := by decide +kernel
theorem dX9_begins_8 : decode cX9_begins 8 = .ok (.iand, 1) := by decide +kernel
theorem dX9_begins_9 : decode cX9_begins 9 = .ok (.iaload, 1) := by decide +kernel
theorem dX9_begins_10 : decode cX9_begins 10 = .ok (.istore_n 3, 1) := by decide +kernel
theorem dX9_begins_11 : decode cX9_begins 11 = .ok (.iload_n 2, 1) := by decide +kernel
theorem dX9_begins_12 : decode cX9_begins 12 = .ok (.iload_n 1, 1) := by decide +kernel
theorem dX9_begins_13 : decode cX9_begins 13 = .ok (.iconst (-1), 1) := by decide +kernel
theorem dX9_begins_14 : decode cX9_begins 14 = .ok (.ixor, 1) := by decide +kernel
theorem dX9_begins_15 : decode cX9_begins 15 = .ok (.iand, 1) := by decide +kernel
theorem dX9_begins_16 : decode cX9_begins 16 = .ok (.ifCond .ne 43, 3) := by decide +kernel
theorem dX9_begins_19 : decode cX9_begins 19 = .ok (.aload_n 0, 1) := by decide +kernel
theorem dX9_begins_20 : decode cX9_begins 20 = .ok (.getfield 77, 3) := by decide +kernel
theorem dX9_begins_23 : decode cX9_begins 23 = .ok (.iload_n 2, 1) := by decide +kernel
theorem dX9_begins_24 : decode cX9_begins 24 = .ok (.iaload, 1) := by decide +kernel
theorem dX9_begins_25 : decode cX9_begins 25 = .ok (.iconst (-1), 1) := by decide +kernel
theorem dX9_begins_26 : decode cX9_begins 26 = .ok (.if_icmp .eq 33, 3) := by decide +kernel
theorem dX9_begins_29 : decode cX9_begins 29 = .ok (.iload_n 3, 1) := by decide +kernel
theorem dX9_begins_30 : decode cX9_begins 30 = .ok (.iconst (-1), 1) := by decide +kernel
theorem dX9_begins_31 : decode cX9_begins 31 = .ok (.if_icmp .eq 28, 3) := by decide +kernel
theorem dX9_begins_34 : decode cX9_begins 34 = .ok (.iload_n 3, 1) := by decide +kernel
theorem dX9_begins_35 : decode cX9_begins 35 = .ok (.sipush 1000, 3) := by decide +kernel
theorem dX9_begins_38 : decode cX9_begins 38 = .ok (.iadd, 1) := by decide +kernel
theorem dX9_begins_39 : decode cX9_begins 39 = .ok (.aload_n 0, 1) := by decide +kernel
theorem dX9_begins_40 : decode cX9_begins 40 = .ok (.getfield 77, 3) := by decide +kernel
theorem dX9_begins_43 : decode cX9_begins 43 = .ok (.iload_n 2, 1) := by decide +kernel
theorem dX9_begins_44 : decode cX9_begins 44 = .ok (.iaload, 1) := by decide +kernel
theorem dX9_begins_45 : decode cX9_begins 45 = .ok (.iadd, 1) := by decide +kernel
theorem dX9_begins_46 : decode cX9_begins 46 = .ok (.aload_n 0, 1) := by decide +kernel
theorem dX9_begins_47 : decode cX9_begins 47 = .ok (.getfield 80, 3) := by decide +kernel
theorem dX9_begins_50 : decode cX9_begins 50 = .ok (.iload_n 1, 1) := by decide +kernel
theorem dX9_begins_51 : decode cX9_begins 51 = .ok (.iaload, 1) := by decide +kernel
theorem dX9_begins_52 : decode cX9_begins 52 = .ok (.if_icmp .ne 7, 3) := by decide +kernel
theorem dX9_begins_55 : decode cX9_begins 55 = .ok (.iconst 1, 1) := by decide +kernel
theorem dX9_begins_56 : decode cX9_begins 56 = .ok (.goto 4, 3) := by decide +kernel
theorem dX9_begins_59 : decode cX9_begins 59 = .ok (.iconst 0, 1) := by decide +kernel
theorem dX9_begins_60 : decode cX9_begins 60 = .ok (.ireturn, 1) := by decide +kernel
set_option maxRecDepth 20000 in
theorem ggX9_plan_X9_refuse : GoodIn wsX9_plan wsX9_refuse := goodIn_r _ [5, 6, 65, 66, 67, 68, 69, 70, 71, 72, 73, 74, 75, 76, 77, 78, 79, 80, 81, 82, 83, 84, 85, 86, 87, 88, 89, 90, 91, 92, 93, 94, 95, 96, 97, 98, 99, 100, 101, 102, 103, 104, 105, 106] (by decide +kernel) (by decide +kernel)
set_option maxRecDepth 20000 in
theorem gX9_plan_X9_refuse : GoodIn wsX9_plan (wsV RX9 109 RX9 yX9_refuse wsX9_refuse) := goodIn_app (goodIn_of _ (by decide +kernel)) ggX9_plan_X9_refuse
set_option maxRecDepth 20000 in
theorem ggX9_plan_X9_findPlan : GoodIn wsX9_plan wsX9_findPlan := goodIn_r _ [10, 11, 12, 13, 14, 15, 4, 16, 17, 18, 19, 20, 21, 22, 23, 24, 25, 26, 27, 28, 29, 30, 31, 32, 33, 34, 35, 36, 37, 38, 39, 40, 41, 42, 43, 44, 45, 46, 47, 48, 49, 50, 51, 52, 53, 54, 55, 56, 57, 58, 59, 60, 65, 66, 67, 68, 69, 70, 71, 72, 73, 74, 75, 76, 77, 78, 79, 80, 81, 82, 83, 84, 85, 86, 87, 88, 89, 90, 91, 92, 93, 94, 95, 96, 97, 98, 99, 100, 101, 102, 103, 104, 105, 106] (by decide +kernel) (by decide +kernel)
set_option maxRecDepth 20000 in
theorem gX9_plan_X9_findPlan : GoodIn wsX9_plan (wsV RX9 296 RX9 yX9_findPlan wsX9_findPlan) := goodIn_app (goodIn_of _ (by decide +kernel)) ggX9_plan_X9_findPlan
set_option maxRecDepth 20000 in
theorem ggX9_plan_X9_waitingBits : GoodIn wsX9_plan wsX9_waitingBits := goodIn_r _ [16, 17, 18, 65, 66, 67, 68, 69, 70, 71, 72, 73, 74, 75, 76, 77, 78, 79, 80, 81, 82, 83, 84, 85, 86, 87, 88, 89, 90, 91, 92, 93, 94, 95, 96, 97, 98, 99, 100, 101, 102, 103, 104, 105, 106] (by decide +kernel) (by decide +kernel)
set_option maxRecDepth 20000 in
theorem gX9_plan_X9_waitingBits : GoodIn wsX9_plan (wsV RX9 293 RX9 yX9_waitingBits wsX9_waitingBits) := goodIn_app (goodIn_of _ (by decide +kernel)) ggX9_plan_X9_waitingBits
set_option maxRecDepth 20000 in
theorem ggX9_plan_X9_begins : GoodIn wsX9_plan wsX9_begins := goodIn_r _ [64, 11, 12, 65, 66, 67, 68, 69, 70, 71, 72, 73, 74, 75, 76, 77, 78, 79, 80, 81, 82, 83, 84, 85, 86, 87, 88, 89, 90, 91, 92, 93, 94, 95, 96, 97, 98, 99, 100, 101, 102, 103, 104, 105, 106] (by decide +kernel) (by decide +kernel)
set_option maxRecDepth 20000 in
theorem gX9_plan_X9_begins : GoodIn wsX9_plan (wsV RX9 299 RX9 yX9_begins wsX9_begins) := goodIn_app (goodIn_of _ (by decide +kernel)) ggX9_plan_X9_begins
theorem dX9_plan_0 : decode cX9_plan 0 = .ok (.iload_n 1, 1) := by decide +kernel
theorem dX9_plan_1 : decode cX9_plan 1 = .ok (.bipush (-2), 2) := by decide +kernel
theorem dX9_plan_3 : decode cX9_plan 3 = .ok (.if_icmp .ge 11, 3) := by decide +kernel
theorem dX9_plan_6 : decode cX9_plan 6 = .ok (.aload_n 0, 1) := by decide +kernel
theorem dX9_plan_7 : decode cX9_plan 7 = .ok (.sipush (-1002), 3) := by decide +kernel
theorem dX9_plan_10 : decode cX9_plan 10 = .ok (.invokevirtual 109, 3) := by decide +kernel
theorem dX9_plan_13 : decode cX9_plan 13 = .ok (.ireturn, 1) := by decide +kernel
theorem dX9_plan_14 : decode cX9_plan 14 = .ok (.aload_n 0, 1) := by decide +kernel
theorem dX9_plan_15 : decode cX9_plan 15 = .ok (.invokevirtual 296, 3) := by decide +kernel
theorem dX9_plan_18 : decode cX9_plan 18 = .ok (.istore_n 2, 1) := by decide +kernel
theorem dX9_plan_19 : decode cX9_plan 19 = .ok (.iload_n 2, 1) := by decide +kernel
theorem dX9_plan_20 : decode cX9_plan 20 = .ok (.iconst (-1), 1) := by decide +kernel
theorem dX9_plan_21 : decode cX9_plan 21 = .ok (.if_icmp .ne 5, 3) := by decide +kernel
theorem dX9_plan_24 : decode cX9_plan 24 = .ok (.iconst (-1), 1) := by decide +kernel
theorem dX9_plan_25 : decode cX9_plan 25 = .ok (.ireturn, 1) := by decide +kernel
theorem dX9_plan_26 : decode cX9_plan 26 = .ok (.iload_n 1, 1) := by decide +kernel
theorem dX9_plan_27 : decode cX9_plan 27 = .ok (.ifCond .ge 22, 3) := by decide +kernel
theorem dX9_plan_30 : decode cX9_plan 30 = .ok (.iload_n 1, 1) := by decide +kernel
theorem dX9_plan_31 : decode cX9_plan 31 = .ok (.iconst (-1), 1) := by decide +kernel
theorem dX9_plan_32 : decode cX9_plan 32 = .ok (.if_icmp .ne 11, 3) := by decide +kernel
theorem dX9_plan_35 : decode cX9_plan 35 = .ok (.iload_n 2, 1) := by decide +kernel
theorem dX9_plan_36 : decode cX9_plan 36 = .ok (.sipush 1000, 3) := by decide +kernel
theorem dX9_plan_39 : decode cX9_plan 39 = .ok (.irem, 1) := by decide +kernel
theorem dX9_plan_40 : decode cX9_plan 40 = .ok (.goto 8, 3) := by decide +kernel
theorem dX9_plan_43 : decode cX9_plan 43 = .ok (.iload_n 2, 1) := by decide +kernel
theorem dX9_plan_44 : decode cX9_plan 44 = .ok (.sipush 1000, 3) := by decide +kernel
theorem dX9_plan_47 : decode cX9_plan 47 = .ok (.idiv, 1) := by decide +kernel
theorem dX9_plan_48 : decode cX9_plan 48 = .ok (.ireturn, 1) := by decide +kernel
theorem dX9_plan_49 : decode cX9_plan 49 = .ok (.iload_n 1, 1) := by decide +kernel
theorem dX9_plan_50 : decode cX9_plan 50 = .ok (.iload_n 2, 1) := by decide +kernel
theorem dX9_plan_51 : decode cX9_plan 51 = .ok (.sipush 1000, 3) := by decide +kernel
theorem dX9_plan_54 : decode cX9_plan 54 = .ok (.idiv, 1) := by decide +kernel
theorem dX9_plan_55 : decode cX9_plan 55 = .ok (.if_icmp .lt 11, 3) := by decide +kernel
theorem dX9_plan_58 : decode cX9_plan 58 = .ok (.aload_n 0, 1) := by decide +kernel
theorem dX9_plan_59 : decode cX9_plan 59 = .ok (.sipush (-1005), 3) := by decide +kernel
theorem dX9_plan_62 : decode cX9_plan 62 = .ok (.invokevirtual 109, 3) := by decide +kernel
theorem dX9_plan_65 : decode cX9_plan 65 = .ok (.ireturn, 1) := by decide +kernel
theorem dX9_plan_66 : decode cX9_plan 66 = .ok (.aload_n 0, 1) := by decide +kernel
theorem dX9_plan_67 : decode cX9_plan 67 = .ok (.invokevirtual 293, 3) := by decide +kernel
theorem dX9_plan_70 : decode cX9_plan 70 = .ok (.istore_n 3, 1) := by decide +kernel
theorem dX9_plan_71 : decode cX9_plan 71 = .ok (.iconst 0, 1) := by decide +kernel
theorem dX9_plan_72 : decode cX9_plan 72 = .ok (.istore 4, 2) := by decide +kernel
theorem dX9_plan_74 : decode cX9_plan 74 = .ok (.iconst 0, 1) := by decide +kernel
theorem dX9_plan_75 : decode cX9_plan 75 = .ok (.istore 5, 2) := by decide +kernel
theorem dX9_plan_77 : decode cX9_plan 77 = .ok (.iload 5, 2) := by decide +kernel
theorem dX9_plan_79 : decode cX9_plan 79 = .ok (.iload_n 1, 1) := by decide +kernel
theorem dX9_plan_80 : decode cX9_plan 80 = .ok (.if_icmp .gt 35, 3) := by decide +kernel
theorem dX9_plan_83 : decode cX9_plan 83 = .ok (.iconst 1, 1) := by decide +kernel
theorem dX9_plan_84 : decode cX9_plan 84 = .ok (.istore 4, 2) := by decide +kernel
theorem dX9_plan_86 : decode cX9_plan 86 = .ok (.aload_n 0, 1) := by decide +kernel
theorem dX9_plan_87 : decode cX9_plan 87 = .ok (.iload_n 3, 1) := by decide +kernel
theorem dX9_plan_88 : decode cX9_plan 88 = .ok (.iload 4, 2) := by decide +kernel
theorem dX9_plan_90 : decode cX9_plan 90 = .ok (.invokevirtual 299, 3) := by decide +kernel
theorem dX9_plan_93 : decode cX9_plan 93 = .ok (.ifCond .ne 9, 3) := by decide +kernel
theorem dX9_plan_96 : decode cX9_plan 96 = .ok (.iinc 4 1, 3) := by decide +kernel
theorem dX9_plan_99 : decode cX9_plan 99 = .ok (.goto (-13), 3) := by decide +kernel
theorem dX9_plan_102 : decode cX9_plan 102 = .ok (.iload_n 3, 1) := by decide +kernel
theorem dX9_plan_103 : decode cX9_plan 103 = .ok (.iload 4, 2) := by decide +kernel
theorem dX9_plan_105 : decode cX9_plan 105 = .ok (.iconst (-1), 1) := by decide +kernel
theorem dX9_plan_106 : decode cX9_plan 106 = .ok (.ixor, 1) := by decide +kernel
theorem dX9_plan_107 : decode cX9_plan 107 = .ok (.iand, 1) := by decide +kernel
theorem dX9_plan_108 : decode cX9_plan 108 = .ok (.istore_n 3, 1) := by decide +kernel
theorem dX9_plan_109 : decode cX9_plan 109 = .ok (.iinc 5 1, 3) := by decide +kernel
theorem dX9_plan_112 : decode cX9_plan 112 = .ok (.goto (-35), 3) := by decide +kernel
theorem dX9_plan_115 : decode cX9_plan 115 = .ok (.iload 4, 2) := by decide +kernel
theorem dX9_plan_117 : decode cX9_plan 117 = .ok (.ireturn, 1) := by decide +kernel
set_option maxRecDepth 20000 in
theorem ggX9_time_X9_findPlan : GoodIn wsX9_time wsX9_findPlan := goodIn_r _ [5, 6, 7, 8, 9, 10, 4, 11, 12, 13, 14, 15, 16, 17, 18, 19, 20, 21, 22, 23, 24, 25, 26, 27, 28, 29, 30, 31, 32, 33, 34, 35, 36, 37, 38, 39, 40, 41, 42, 43, 44, 45, 46, 47, 48, 49, 50, 51, 52, 53, 54, 55, 56, 57, 58, 59, 60, 61, 62, 63, 64, 65, 66, 67, 68, 69, 70, 71, 72, 73, 74, 75, 76, 77, 78, 79, 80, 81, 82, 83, 84, 85, 86, 87, 88, 89, 90, 91, 92, 93, 94, 95, 96, 97] (by decide +kernel) (by decide +kernel)
set_option maxRecDepth 20000 in
theorem gX9_time_X9_findPlan : GoodIn wsX9_time (wsV RX9 296 RX9 yX9_findPlan wsX9_findPlan) := goodIn_app (goodIn_of _ (by decide +kernel)) ggX9_time_X9_findPlan
theorem dX9_time_0 : decode cX9_time 0 = .ok (.aload_n 0, 1) := by decide +kernel
theorem dX9_time_1 : decode cX9_time 1 = .ok (.invokevirtual 296, 3) := by decide +kernel
theorem dX9_time_4 : decode cX9_time 4 = .ok (.istore_n 1, 1) := by decide +kernel
theorem dX9_time_5 : decode cX9_time 5 = .ok (.iload_n 1, 1) := by decide +kernel
theorem dX9_time_6 : decode cX9_time 6 = .ok (.iconst (-1), 1) := by decide +kernel
theorem dX9_time_7 : decode cX9_time 7 = .ok (.if_icmp .ne 7, 3) := by decide +kernel
theorem dX9_time_10 : decode cX9_time 10 = .ok (.iconst (-1), 1) := by decide +kernel
theorem dX9_time_11 : decode cX9_time 11 = .ok (.goto 11, 3) := by decide +kernel
theorem dX9_time_14 : decode cX9_time 14 = .ok (.iload_n 1, 1) := by decide +kernel
theorem dX9_time_15 : decode cX9_time 15 = .ok (.sipush 1000, 3) := by decide +kernel
theorem dX9_time_18 : decode cX9_time 18 = .ok (.idiv, 1) := by decide +kernel
theorem dX9_time_19 : decode cX9_time 19 = .ok (.bipush 20, 2) := by decide +kernel
theorem dX9_time_21 : decode cX9_time 21 = .ok (.imul, 1) := by decide +kernel
theorem dX9_time_22 : decode cX9_time 22 = .ok (.ireturn, 1) := by decide +kernel
set_option maxRecDepth 20000 in
theorem ggX9_worth_X9_noWaiting : GoodIn wsX9_worth wsX9_noWaiting := goodIn_r _ [6, 7, 8, 9, 5, 10, 11, 12, 13, 14, 15, 16, 17, 18, 19, 20, 21, 22, 23, 1, 73, 74, 75, 76, 77, 78, 79, 80, 81, 82, 83, 84, 85, 86, 87, 88, 89, 90, 91, 92, 93, 94, 95, 96, 97, 98, 99, 100, 101, 102, 103, 104, 105, 106, 107, 108, 109, 110, 111, 112, 113, 114] (by decide +kernel) (by decide +kernel)
set_option maxRecDepth 20000 in
theorem gX9_worth_X9_noWaiting : GoodIn wsX9_worth (wsV RX9 287 RX9 yX9_noWaiting wsX9_noWaiting) := goodIn_app (goodIn_of _ (by decide +kernel)) ggX9_worth_X9_noWaiting
set_option maxRecDepth 20000 in
theorem ggX9_worth_X9_findPlan : GoodIn wsX9_worth wsX9_findPlan := goodIn_r _ [27, 28, 29, 30, 31, 32, 5, 33, 11, 1, 34, 35, 36, 37, 38, 39, 40, 41, 42, 43, 44, 45, 46, 47, 48, 49, 50, 51, 52, 53, 54, 55, 56, 57, 58, 59, 60, 61, 62, 63, 64, 65, 66, 12, 13, 14, 67, 68, 69, 70, 71, 72, 73, 74, 75, 76, 77, 78, 79, 80, 81, 82, 83, 84, 85, 86, 87, 88, 89, 90, 91, 92, 93, 94, 95, 96, 97, 98, 99, 100, 101, 102, 103, 104, 105, 106, 107, 108, 109, 110, 111, 112, 113, 114] (by decide +kernel) (by decide +kernel)
set_option maxRecDepth 20000 in
theorem gX9_worth_X9_findPlan : GoodIn wsX9_worth (wsV RX9 296 RX9 yX9_findPlan wsX9_findPlan) := goodIn_app (goodIn_of _ (by decide +kernel)) ggX9_worth_X9_findPlan
theorem dX9_worth_0 : decode cX9_worth 0 = .ok (.aload_n 0, 1) := by decide +kernel
theorem dX9_worth_1 : decode cX9_worth 1 = .ok (.iload_n 1, 1) := by decide +kernel
theorem dX9_worth_2 : decode cX9_worth 2 = .ok (.invokevirtual 287, 3) := by decide +kernel
theorem dX9_worth_5 : decode cX9_worth 5 = .ok (.istore_n 2, 1) := by decide +kernel
theorem dX9_worth_6 : decode cX9_worth 6 = .ok (.iload_n 2, 1) := by decide +kernel
theorem dX9_worth_7 : decode cX9_worth 7 = .ok (.ifCond .eq 5, 3) := by decide +kernel
theorem dX9_worth_10 : decode cX9_worth 10 = .ok (.iload_n 2, 1) := by decide +kernel
theorem dX9_worth_11 : decode cX9_worth 11 = .ok (.ireturn, 1) := by decide +kernel
theorem dX9_worth_12 : decode cX9_worth 12 = .ok (.aload_n 0, 1) := by decide +kernel
theorem dX9_worth_13 : decode cX9_worth 13 = .ok (.invokevirtual 296, 3) := by decide +kernel
theorem dX9_worth_16 : decode cX9_worth 16 = .ok (.istore_n 3, 1) := by decide +kernel
theorem dX9_worth_17 : decode cX9_worth 17 = .ok (.aload_n 0, 1) := by decide +kernel
theorem dX9_worth_18 : decode cX9_worth 18 = .ok (.dup, 1) := by decide +kernel
theorem dX9_worth_19 : decode cX9_worth 19 = .ok (.getfield 100, 3) := by decide +kernel
theorem dX9_worth_22 : decode cX9_worth 22 = .ok (.iconst 1, 1) := by decide +kernel
theorem dX9_worth_23 : decode cX9_worth 23 = .ok (.iload_n 1, 1) := by decide +kernel
theorem dX9_worth_24 : decode cX9_worth 24 = .ok (.ishl, 1) := by decide +kernel
theorem dX9_worth_25 : decode cX9_worth 25 = .ok (.ior, 1) := by decide +kernel
theorem dX9_worth_26 : decode cX9_worth 26 = .ok (.putfield 100, 3) := by decide +kernel
theorem dX9_worth_29 : decode cX9_worth 29 = .ok (.aload_n 0, 1) := by decide +kernel
theorem dX9_worth_30 : decode cX9_worth 30 = .ok (.invokevirtual 296, 3) := by decide +kernel
theorem dX9_worth_33 : decode cX9_worth 33 = .ok (.istore 4, 2) := by decide +kernel
theorem dX9_worth_35 : decode cX9_worth 35 = .ok (.aload_n 0, 1) := by decide +kernel
theorem dX9_worth_36 : decode cX9_worth 36 = .ok (.dup, 1) := by decide +kernel
theorem dX9_worth_37 : decode cX9_worth 37 = .ok (.getfield 100, 3) := by decide +kernel
theorem dX9_worth_40 : decode cX9_worth 40 = .ok (.iconst 1, 1) := by decide +kernel
theorem dX9_worth_41 : decode cX9_worth 41 = .ok (.iload_n 1, 1) := by decide +kernel
theorem dX9_worth_42 : decode cX9_worth 42 = .ok (.ishl, 1) := by decide +kernel
theorem dX9_worth_43 : decode cX9_worth 43 = .ok (.iconst (-1), 1) := by decide +kernel
theorem dX9_worth_44 : decode cX9_worth 44 = .ok (.ixor, 1) := by decide +kernel
theorem dX9_worth_45 : decode cX9_worth 45 = .ok (.iand, 1) := by decide +kernel
theorem dX9_worth_46 : decode cX9_worth 46 = .ok (.putfield 100, 3) := by decide +kernel
theorem dX9_worth_49 : decode cX9_worth 49 = .ok (.iload_n 3, 1) := by decide +kernel
theorem dX9_worth_50 : decode cX9_worth 50 = .ok (.iconst (-1), 1) := by decide +kernel
theorem dX9_worth_51 : decode cX9_worth 51 = .ok (.if_icmp .eq 9, 3) := by decide +kernel
theorem dX9_worth_54 : decode cX9_worth 54 = .ok (.iload 4, 2) := by decide +kernel
theorem dX9_worth_56 : decode cX9_worth 56 = .ok (.iconst (-1), 1) := by decide +kernel
theorem dX9_worth_57 : decode cX9_worth 57 = .ok (.if_icmp .ne 9, 3) := by decide +kernel
theorem dX9_worth_60 : decode cX9_worth 60 = .ok (.sipush (-1000), 3) := by decide +kernel
theorem dX9_worth_63 : decode cX9_worth 63 = .ok (.goto 15, 3) := by decide +kernel
theorem dX9_worth_66 : decode cX9_worth 66 = .ok (.iload 4, 2) := by decide +kernel
theorem dX9_worth_68 : decode cX9_worth 68 = .ok (.sipush 1000, 3) := by decide +kernel
theorem dX9_worth_71 : decode cX9_worth 71 = .ok (.irem, 1) := by decide +kernel
theorem dX9_worth_72 : decode cX9_worth 72 = .ok (.iload_n 3, 1) := by decide +kernel
theorem dX9_worth_73 : decode cX9_worth 73 = .ok (.sipush 1000, 3) := by decide +kernel
theorem dX9_worth_76 : decode cX9_worth 76 = .ok (.irem, 1) := by decide +kernel
theorem dX9_worth_77 : decode cX9_worth 77 = .ok (.isub, 1) := by decide +kernel
theorem dX9_worth_78 : decode cX9_worth 78 = .ok (.ireturn, 1) := by decide +kernel
theorem dX9_isLess_0 : decode cX9_isLess 0 = .ok (.iload_n 0, 1) := by decide +kernel
theorem dX9_isLess_1 : decode cX9_isLess 1 = .ok (.iconst (-1), 1) := by decide +kernel
theorem dX9_isLess_2 : decode cX9_isLess 2 = .ok (.if_icmp .eq 17, 3) := by decide +kernel
theorem dX9_isLess_5 : decode cX9_isLess 5 = .ok (.iload_n 1, 1) := by decide +kernel
theorem dX9_isLess_6 : decode cX9_isLess 6 = .ok (.iconst (-1), 1) := by decide +kernel
theorem dX9_isLess_7 : decode cX9_isLess 7 = .ok (.if_icmp .eq 8, 3) := by decide +kernel
theorem dX9_isLess_10 : decode cX9_isLess 10 = .ok (.iload_n 0, 1) := by decide +kernel
theorem dX9_isLess_11 : decode cX9_isLess 11 = .ok (.iload_n 1, 1) := by decide +kernel
theorem dX9_isLess_12 : decode cX9_isLess 12 = .ok (.if_icmp .ge 7, 3) := by decide +kernel
theorem dX9_isLess_15 : decode cX9_isLess 15 = .ok (.iconst 1, 1) := by decide +kernel
theorem dX9_isLess_16 : decode cX9_isLess 16 = .ok (.goto 4, 3) := by decide +kernel
theorem dX9_isLess_19 : decode cX9_isLess 19 = .ok (.iconst 0, 1) := by decide +kernel
theorem dX9_isLess_20 : decode cX9_isLess 20 = .ok (.ireturn, 1) := by decide +kernel
set_option maxRecDepth 20000 in
theorem ggX9_crossingsBy_X9_findPlan : GoodIn wsX9_crossingsBy wsX9_findPlan := goodIn_r _ [6, 7, 8, 9, 10, 11, 5, 12, 13, 14, 15, 16, 17, 18, 19, 20, 21, 22, 23, 24, 25, 26, 27, 28, 29, 30, 31, 32, 33, 34, 35, 36, 37, 38, 39, 40, 41, 42, 43, 44, 45, 46, 1, 47, 48, 49, 50, 51, 52, 53, 54, 55, 56, 57, 58, 59, 60, 61, 62, 63, 64, 65, 66, 67, 68, 69, 70, 71, 72, 73, 74, 75, 76, 77, 78, 79, 80, 81, 82, 83, 84, 85, 86, 87, 88, 89, 90, 91, 92, 93, 94, 95, 96, 97] (by decide +kernel) (by decide +kernel)
set_option maxRecDepth 20000 in
theorem gX9_crossingsBy_X9_findPlan : GoodIn wsX9_crossingsBy (wsV RX9 296 RX9 yX9_findPlan wsX9_findPlan) := goodIn_app (goodIn_of _ (by decide +kernel)) ggX9_crossingsBy_X9_findPlan
theorem dX9_crossingsBy_0 : decode cX9_crossingsBy 0 = .ok (.aload_n 0, 1) := by decide +kernel
theorem dX9_crossingsBy_1 : decode cX9_crossingsBy 1 = .ok (.getfield 151, 3) := by decide +kernel
theorem dX9_crossingsBy_4 : decode cX9_crossingsBy 4 = .ok (.istore_n 2, 1) := by decide +kernel
theorem dX9_crossingsBy_5 : decode cX9_crossingsBy 5 = .ok (.aload_n 0, 1) := by decide +kernel
theorem dX9_crossingsBy_6 : decode cX9_crossingsBy 6 = .ok (.iload_n 1, 1) := by decide +kernel
theorem dX9_crossingsBy_7 : decode cX9_crossingsBy 7 = .ok (.putfield 151, 3) := by decide +kernel
theorem dX9_crossingsBy_10 : decode cX9_crossingsBy 10 = .ok (.aload_n 0, 1) := by decide +kernel
theorem dX9_crossingsBy_11 : decode cX9_crossingsBy 11 = .ok (.invokevirtual 296, 3) := by decide +kernel
theorem dX9_crossingsBy_14 : decode cX9_crossingsBy 14 = .ok (.istore_n 3, 1) := by decide +kernel
theorem dX9_crossingsBy_15 : decode cX9_crossingsBy 15 = .ok (.aload_n 0, 1) := by decide +kernel
theorem dX9_crossingsBy_16 : decode cX9_crossingsBy 16 = .ok (.iload_n 2, 1) := by decide +kernel
theorem dX9_crossingsBy_17 : decode cX9_crossingsBy 17 = .ok (.putfield 151, 3) := by decide +kernel
theorem dX9_crossingsBy_20 : decode cX9_crossingsBy 20 = .ok (.iload_n 3, 1) := by decide +kernel
theorem dX9_crossingsBy_21 : decode cX9_crossingsBy 21 = .ok (.iconst (-1), 1) := by decide +kernel
theorem dX9_crossingsBy_22 : decode cX9_crossingsBy 22 = .ok (.if_icmp .ne 7, 3) := by decide +kernel
theorem dX9_crossingsBy_25 : decode cX9_crossingsBy 25 = .ok (.iconst (-1), 1) := by decide +kernel
theorem dX9_crossingsBy_26 : decode cX9_crossingsBy 26 = .ok (.goto 8, 3) := by decide +kernel
theorem dX9_crossingsBy_29 : decode cX9_crossingsBy 29 = .ok (.iload_n 3, 1) := by decide +kernel
theorem dX9_crossingsBy_30 : decode cX9_crossingsBy 30 = .ok (.sipush 1000, 3) := by decide +kernel
theorem dX9_crossingsBy_33 : decode cX9_crossingsBy 33 = .ok (.idiv, 1) := by decide +kernel
theorem dX9_crossingsBy_34 : decode cX9_crossingsBy 34 = .ok (.ireturn, 1) := by decide +kernel
set_option maxRecDepth 20000 in
theorem ggX9_laws_X9_in : GoodIn wsX9_laws wsX9_in := goodIn_r _ [6] (by decide +kernel) (by decide +kernel)
set_option maxRecDepth 20000 in
theorem gX9_laws_X9_in : GoodIn wsX9_laws (va_wsS RX9 96 yX9_in wsX9_in) := goodIn_app (goodIn_of _ (by decide +kernel)) ggX9_laws_X9_in
set_option maxRecDepth 20000 in
theorem ggX9_laws_X9_refuse : GoodIn wsX9_laws wsX9_refuse := goodIn_r _ [10, 11, 70, 71, 72, 73, 74, 75, 76, 77, 78, 79, 80, 81, 82, 83, 84, 85, 86, 87, 88, 89, 90, 91, 92, 93, 94, 95, 96, 97, 98, 99, 100, 101, 102, 103, 104, 105, 106, 107, 108, 109, 110, 111] (by decide +kernel) (by decide +kernel)
set_option maxRecDepth 20000 in
theorem gX9_laws_X9_refuse : GoodIn wsX9_laws (wsV RX9 109 RX9 yX9_refuse wsX9_refuse) := goodIn_app (goodIn_of _ (by decide +kernel)) ggX9_laws_X9_refuse
set_option maxRecDepth 20000 in
theorem ggX9_laws_X9_crossingsBy : GoodIn wsX9_laws wsX9_crossingsBy := goodIn_r _ [15, 16, 17, 18, 19, 5, 20, 21, 22, 23, 24, 25, 26, 27, 28, 29, 30, 31, 32, 33, 34, 35, 36, 37, 38, 39, 40, 41, 42, 43, 44, 45, 46, 47, 48, 49, 50, 51, 52, 53, 54, 55, 56, 57, 58, 59, 60, 3, 4, 6, 61, 62, 63, 64, 65, 66, 70, 71, 72, 73, 74, 75, 76, 77, 78, 79, 80, 81, 82, 83, 84, 85, 86, 87, 88, 89, 90, 91, 92, 93, 94, 95, 96, 97, 98, 99, 100, 101, 102, 103, 104, 105, 106, 107, 108, 109, 110, 111] (by decide +kernel) (by decide +kernel)
set_option maxRecDepth 20000 in
theorem gX9_laws_X9_crossingsBy : GoodIn wsX9_laws (wsV RX9 304 RX9 yX9_crossingsBy wsX9_crossingsBy) := goodIn_app (goodIn_of _ (by decide +kernel)) ggX9_laws_X9_crossingsBy
set_option maxRecDepth 20000 in
theorem ggX9_laws_X9_isLess : GoodIn wsX9_laws wsX9_isLess := goodIn_r _ [69] (by decide +kernel) (by decide +kernel)
set_option maxRecDepth 20000 in
theorem gX9_laws_X9_isLess : GoodIn wsX9_laws (va_wsS RX9 307 yX9_isLess wsX9_isLess) := goodIn_app (goodIn_of _ (by decide +kernel)) ggX9_laws_X9_isLess
theorem dX9_laws_0 : decode cX9_laws 0 = .ok (.iload_n 1, 1) := by decide +kernel
theorem dX9_laws_1 : decode cX9_laws 1 = .ok (.i2l, 1) := by decide +kernel
theorem dX9_laws_2 : decode cX9_laws 2 = .ok (.ldc2_w 302, 3) := by decide +kernel
theorem dX9_laws_5 : decode cX9_laws 5 = .ok (.ldc2_w 154, 3) := by decide +kernel
theorem dX9_laws_8 : decode cX9_laws 8 = .ok (.invokestatic 96, 3) := by decide +kernel
theorem dX9_laws_11 : decode cX9_laws 11 = .ok (.ifCond .ne 11, 3) := by decide +kernel
theorem dX9_laws_14 : decode cX9_laws 14 = .ok (.aload_n 0, 1) := by decide +kernel
theorem dX9_laws_15 : decode cX9_laws 15 = .ok (.sipush (-1002), 3) := by decide +kernel
theorem dX9_laws_18 : decode cX9_laws 18 = .ok (.invokevirtual 109, 3) := by decide +kernel
theorem dX9_laws_21 : decode cX9_laws 21 = .ok (.ireturn, 1) := by decide +kernel
theorem dX9_laws_22 : decode cX9_laws 22 = .ok (.iload_n 1, 1) := by decide +kernel
theorem dX9_laws_23 : decode cX9_laws 23 = .ok (.iconst (-1), 1) := by decide +kernel
theorem dX9_laws_24 : decode cX9_laws 24 = .ok (.if_icmp .eq 9, 3) := by decide +kernel
theorem dX9_laws_27 : decode cX9_laws 27 = .ok (.aload_n 0, 1) := by decide +kernel
theorem dX9_laws_28 : decode cX9_laws 28 = .ok (.iload_n 1, 1) := by decide +kernel
theorem dX9_laws_29 : decode cX9_laws 29 = .ok (.invokevirtual 304, 3) := by decide +kernel
theorem dX9_laws_32 : decode cX9_laws 32 = .ok (.ireturn, 1) := by decide +kernel
theorem dX9_laws_33 : decode cX9_laws 33 = .ok (.iconst 0, 1) := by decide +kernel
theorem dX9_laws_34 : decode cX9_laws 34 = .ok (.istore_n 2, 1) := by decide +kernel
theorem dX9_laws_35 : decode cX9_laws 35 = .ok (.iconst 1, 1) := by decide +kernel
theorem dX9_laws_36 : decode cX9_laws 36 = .ok (.istore_n 3, 1) := by decide +kernel
theorem dX9_laws_37 : decode cX9_laws 37 = .ok (.iload_n 3, 1) := by decide +kernel
theorem dX9_laws_38 : decode cX9_laws 38 = .ok (.iconst 3, 1) := by decide +kernel
theorem dX9_laws_39 : decode cX9_laws 39 = .ok (.if_icmp .gt 31, 3) := by decide +kernel
theorem dX9_laws_42 : decode cX9_laws 42 = .ok (.aload_n 0, 1) := by decide +kernel
theorem dX9_laws_43 : decode cX9_laws 43 = .ok (.iload_n 3, 1) := by decide +kernel
theorem dX9_laws_44 : decode cX9_laws 44 = .ok (.invokevirtual 304, 3) := by decide +kernel
theorem dX9_laws_47 : decode cX9_laws 47 = .ok (.aload_n 0, 1) := by decide +kernel
theorem dX9_laws_48 : decode cX9_laws 48 = .ok (.iload_n 2, 1) := by decide +kernel
theorem dX9_laws_49 : decode cX9_laws 49 = .ok (.invokevirtual 304, 3) := by decide +kernel
theorem dX9_laws_52 : decode cX9_laws 52 = .ok (.invokestatic 307, 3) := by decide +kernel
theorem dX9_laws_55 : decode cX9_laws 55 = .ok (.ifCond .eq 7, 3) := by decide +kernel
theorem dX9_laws_58 : decode cX9_laws 58 = .ok (.iload_n 3, 1) := by decide +kernel
theorem dX9_laws_59 : decode cX9_laws 59 = .ok (.goto 4, 3) := by decide +kernel
theorem dX9_laws_62 : decode cX9_laws 62 = .ok (.iload_n 2, 1) := by decide +kernel
theorem dX9_laws_63 : decode cX9_laws 63 = .ok (.istore_n 2, 1) := by decide +kernel
theorem dX9_laws_64 : decode cX9_laws 64 = .ok (.iinc 3 1, 3) := by decide +kernel
theorem dX9_laws_67 : decode cX9_laws 67 = .ok (.goto (-30), 3) := by decide +kernel
theorem dX9_laws_70 : decode cX9_laws 70 = .ok (.iload_n 2, 1) := by decide +kernel
theorem dX9_laws_71 : decode cX9_laws 71 = .ok (.ireturn, 1) := by decide +kernel
set_option maxRecDepth 20000 in
theorem ggX9_rules_X9_findPlan : GoodIn wsX9_rules wsX9_findPlan := goodIn_r _ [6, 7, 8, 9, 10, 11, 5, 12, 13, 14, 15, 16, 17, 18, 19, 20, 21, 22, 23, 24, 25, 26, 27, 28, 29, 30, 31, 32, 33, 34, 35, 36, 37, 38, 1, 39, 40, 41, 42, 43, 44, 45, 46, 47, 48, 49, 50, 51, 52, 53, 54, 55, 59, 60, 61, 62, 63, 64, 65, 66, 67, 68, 69, 70, 71, 72, 73, 74, 75, 76, 77, 78, 79, 80, 81, 82, 83, 84, 85, 86, 87, 88, 89, 90, 91, 92, 93, 94, 95, 96, 97, 98, 99, 100] (by decide +kernel) (by decide +kernel)
set_option maxRecDepth 20000 in
theorem gX9_rules_X9_findPlan : GoodIn wsX9_rules (wsV RX9 296 RX9 yX9_findPlan wsX9_findPlan) := goodIn_app (goodIn_of _ (by decide +kernel)) ggX9_rules_X9_findPlan
set_option maxRecDepth 20000 in
theorem ggX9_rules_X9_isLess : GoodIn wsX9_rules wsX9_isLess := goodIn_r _ [58] (by decide +kernel) (by decide +kernel)
set_option maxRecDepth 20000 in
theorem gX9_rules_X9_isLess : GoodIn wsX9_rules (va_wsS RX9 307 yX9_isLess wsX9_isLess) := goodIn_app (goodIn_of _ (by decide +kernel)) ggX9_rules_X9_isLess
theorem dX9_rules_0 : decode cX9_rules 0 = .ok (.aload_n 0, 1) := by decide +kernel
theorem dX9_rules_1 : decode cX9_rules 1 = .ok (.getfield 41, 3) := by decide +kernel
theorem dX9_rules_4 : decode cX9_rules 4 = .ok (.istore_n 1, 1) := by decide +kernel
theorem dX9_rules_5 : decode cX9_rules 5 = .ok (.iconst 0, 1) := by decide +kernel
theorem dX9_rules_6 : decode cX9_rules 6 = .ok (.istore_n 2, 1) := by decide +kernel
theorem dX9_rules_7 : decode cX9_rules 7 = .ok (.iconst (-1), 1) := by decide +kernel
theorem dX9_rules_8 : decode cX9_rules 8 = .ok (.istore_n 3, 1) := by decide +kernel
theorem dX9_rules_9 : decode cX9_rules 9 = .ok (.iconst 0, 1) := by decide +kernel
theorem dX9_rules_10 : decode cX9_rules 10 = .ok (.istore 4, 2) := by decide +kernel
theorem dX9_rules_12 : decode cX9_rules 12 = .ok (.iload 4, 2) := by decide +kernel
theorem dX9_rules_14 : decode cX9_rules 14 = .ok (.iconst 3, 1) := by decide +kernel
theorem dX9_rules_15 : decode cX9_rules 15 = .ok (.if_icmp .gt 53, 3) := by decide +kernel
theorem dX9_rules_18 : decode cX9_rules 18 = .ok (.aload_n 0, 1) := by decide +kernel
theorem dX9_rules_19 : decode cX9_rules 19 = .ok (.iload 4, 2) := by decide +kernel
theorem dX9_rules_21 : decode cX9_rules 21 = .ok (.putfield 41, 3) := by decide +kernel
theorem dX9_rules_24 : decode cX9_rules 24 = .ok (.aload_n 0, 1) := by decide +kernel
theorem dX9_rules_25 : decode cX9_rules 25 = .ok (.invokevirtual 296, 3) := by decide +kernel
theorem dX9_rules_28 : decode cX9_rules 28 = .ok (.istore 5, 2) := by decide +kernel
theorem dX9_rules_30 : decode cX9_rules 30 = .ok (.iload 5, 2) := by decide +kernel
theorem dX9_rules_32 : decode cX9_rules 32 = .ok (.iload_n 3, 1) := by decide +kernel
theorem dX9_rules_33 : decode cX9_rules 33 = .ok (.invokestatic 307, 3) := by decide +kernel
theorem dX9_rules_36 : decode cX9_rules 36 = .ok (.ifCond .eq 8, 3) := by decide +kernel
theorem dX9_rules_39 : decode cX9_rules 39 = .ok (.iload 4, 2) := by decide +kernel
theorem dX9_rules_41 : decode cX9_rules 41 = .ok (.goto 4, 3) := by decide +kernel
theorem dX9_rules_44 : decode cX9_rules 44 = .ok (.iload_n 2, 1) := by decide +kernel
theorem dX9_rules_45 : decode cX9_rules 45 = .ok (.istore_n 2, 1) := by decide +kernel
theorem dX9_rules_46 : decode cX9_rules 46 = .ok (.iload 5, 2) := by decide +kernel
theorem dX9_rules_48 : decode cX9_rules 48 = .ok (.iload_n 3, 1) := by decide +kernel
theorem dX9_rules_49 : decode cX9_rules 49 = .ok (.invokestatic 307, 3) := by decide +kernel
theorem dX9_rules_52 : decode cX9_rules 52 = .ok (.ifCond .eq 8, 3) := by decide +kernel
theorem dX9_rules_55 : decode cX9_rules 55 = .ok (.iload 5, 2) := by decide +kernel
theorem dX9_rules_57 : decode cX9_rules 57 = .ok (.goto 4, 3) := by decide +kernel
theorem dX9_rules_60 : decode cX9_rules 60 = .ok (.iload_n 3, 1) := by decide +kernel
theorem dX9_rules_61 : decode cX9_rules 61 = .ok (.istore_n 3, 1) := by decide +kernel
theorem dX9_rules_62 : decode cX9_rules 62 = .ok (.iinc 4 1, 3) := by decide +kernel
theorem dX9_rules_65 : decode cX9_rules 65 = .ok (.goto (-53), 3) := by decide +kernel
theorem dX9_rules_68 : decode cX9_rules 68 = .ok (.aload_n 0, 1) := by decide +kernel
theorem dX9_rules_69 : decode cX9_rules 69 = .ok (.iload_n 1, 1) := by decide +kernel
theorem dX9_rules_70 : decode cX9_rules 70 = .ok (.putfield 41, 3) := by decide +kernel
theorem dX9_rules_73 : decode cX9_rules 73 = .ok (.iload_n 2, 1) := by decide +kernel
theorem dX9_rules_74 : decode cX9_rules 74 = .ok (.ireturn, 1) := by decide +kernel
set_option maxRecDepth 20000 in
theorem ggX9_sizes_X9_findPlan : GoodIn wsX9_sizes wsX9_findPlan := goodIn_r _ [6, 7, 8, 9, 10, 11, 5, 12, 13, 14, 15, 16, 17, 18, 19, 20, 21, 22, 23, 24, 25, 26, 27, 28, 29, 30, 31, 32, 33, 34, 35, 36, 37, 38, 39, 40, 41, 42, 43, 44, 45, 1, 46, 47, 48, 49, 50, 51, 52, 53, 54, 55, 56, 57, 58, 59, 60, 61, 62, 63, 64, 65, 66, 67, 68, 69, 70, 71, 72, 73, 74, 75, 76, 77, 78, 79, 80, 81, 82, 83, 84, 85, 86, 87, 88, 89, 90, 91, 92, 93, 94, 95, 96, 97] (by decide +kernel) (by decide +kernel)
set_option maxRecDepth 20000 in
theorem gX9_sizes_X9_findPlan : GoodIn wsX9_sizes (wsV RX9 296 RX9 yX9_findPlan wsX9_findPlan) := goodIn_app (goodIn_of _ (by decide +kernel)) ggX9_sizes_X9_findPlan
theorem dX9_sizes_0 : decode cX9_sizes 0 = .ok (.aload_n 0, 1) := by decide +kernel
theorem dX9_sizes_1 : decode cX9_sizes 1 = .ok (.getfield 37, 3) := by decide +kernel
theorem dX9_sizes_4 : decode cX9_sizes 4 = .ok (.istore_n 1, 1) := by decide +kernel
theorem dX9_sizes_5 : decode cX9_sizes 5 = .ok (.iconst (-1), 1) := by decide +kernel
theorem dX9_sizes_6 : decode cX9_sizes 6 = .ok (.istore_n 2, 1) := by decide +kernel
theorem dX9_sizes_7 : decode cX9_sizes 7 = .ok (.iconst 1, 1) := by decide +kernel
theorem dX9_sizes_8 : decode cX9_sizes 8 = .ok (.istore_n 3, 1) := by decide +kernel
theorem dX9_sizes_9 : decode cX9_sizes 9 = .ok (.iload_n 3, 1) := by decide +kernel
theorem dX9_sizes_10 : decode cX9_sizes 10 = .ok (.bipush 99, 2) := by decide +kernel
theorem dX9_sizes_12 : decode cX9_sizes 12 = .ok (.if_icmp .gt 33, 3) := by decide +kernel
theorem dX9_sizes_15 : decode cX9_sizes 15 = .ok (.iload_n 2, 1) := by decide +kernel
theorem dX9_sizes_16 : decode cX9_sizes 16 = .ok (.iconst (-1), 1) := by decide +kernel
theorem dX9_sizes_17 : decode cX9_sizes 17 = .ok (.if_icmp .ne 28, 3) := by decide +kernel
theorem dX9_sizes_20 : decode cX9_sizes 20 = .ok (.aload_n 0, 1) := by decide +kernel
theorem dX9_sizes_21 : decode cX9_sizes 21 = .ok (.iload_n 3, 1) := by decide +kernel
theorem dX9_sizes_22 : decode cX9_sizes 22 = .ok (.putfield 37, 3) := by decide +kernel
theorem dX9_sizes_25 : decode cX9_sizes 25 = .ok (.aload_n 0, 1) := by decide +kernel
theorem dX9_sizes_26 : decode cX9_sizes 26 = .ok (.invokevirtual 296, 3) := by decide +kernel
theorem dX9_sizes_29 : decode cX9_sizes 29 = .ok (.iconst (-1), 1) := by decide +kernel
theorem dX9_sizes_30 : decode cX9_sizes 30 = .ok (.if_icmp .ne 7, 3) := by decide +kernel
theorem dX9_sizes_33 : decode cX9_sizes 33 = .ok (.iconst (-1), 1) := by decide +kernel
theorem dX9_sizes_34 : decode cX9_sizes 34 = .ok (.goto 4, 3) := by decide +kernel
theorem dX9_sizes_37 : decode cX9_sizes 37 = .ok (.iload_n 3, 1) := by decide +kernel
theorem dX9_sizes_38 : decode cX9_sizes 38 = .ok (.istore_n 2, 1) := by decide +kernel
theorem dX9_sizes_39 : decode cX9_sizes 39 = .ok (.iinc 3 1, 3) := by decide +kernel
theorem dX9_sizes_42 : decode cX9_sizes 42 = .ok (.goto (-33), 3) := by decide +kernel
theorem dX9_sizes_45 : decode cX9_sizes 45 = .ok (.aload_n 0, 1) := by decide +kernel
theorem dX9_sizes_46 : decode cX9_sizes 46 = .ok (.iload_n 1, 1) := by decide +kernel
theorem dX9_sizes_47 : decode cX9_sizes 47 = .ok (.putfield 37, 3) := by decide +kernel
theorem dX9_sizes_50 : decode cX9_sizes 50 = .ok (.iload_n 2, 1) := by decide +kernel
theorem dX9_sizes_51 : decode cX9_sizes 51 = .ok (.ireturn, 1) := by decide +kernel
set_option maxRecDepth 20000 in
theorem ggX9_loosen_X9_boundOf : GoodIn wsX9_loosen wsX9_boundOf := goodIn_r _ [6, 7, 8, 67, 68, 69, 70, 71, 72, 73, 74, 75, 76, 77, 78, 79, 80, 81, 82, 83, 84, 85, 86, 87, 88, 89, 90, 91, 92, 93, 94, 95, 96, 97, 98, 99, 100, 101, 102, 103, 104, 105, 106, 107, 108] (by decide +kernel) (by decide +kernel)
set_option maxRecDepth 20000 in
theorem gX9_loosen_X9_boundOf : GoodIn wsX9_loosen (wsV RX9 143 RX9 yX9_boundOf wsX9_boundOf) := goodIn_app (goodIn_of _ (by decide +kernel)) ggX9_loosen_X9_boundOf
set_option maxRecDepth 20000 in
theorem ggX9_loosen_X9_binds : GoodIn wsX9_loosen wsX9_binds := goodIn_r _ [12, 7, 8, 67, 68, 69, 70, 71, 72, 73, 74, 75, 76, 77, 78, 79, 80, 81, 82, 83, 84, 85, 86, 87, 88, 89, 90, 91, 92, 93, 94, 95, 96, 97, 98, 99, 100, 101, 102, 103, 104, 105, 106, 107, 108] (by decide +kernel) (by decide +kernel)
set_option maxRecDepth 20000 in
theorem gX9_loosen_X9_binds : GoodIn wsX9_loosen (wsV RX9 147 RX9 yX9_binds wsX9_binds) := goodIn_app (goodIn_of _ (by decide +kernel)) ggX9_loosen_X9_binds
set_option maxRecDepth 20000 in
theorem ggX9_loosen_X9_findPlan : GoodIn wsX9_loosen wsX9_findPlan := goodIn_r _ [16, 17, 18, 19, 20, 21, 5, 22, 1, 23, 24, 25, 26, 27, 28, 29, 30, 31, 32, 33, 34, 35, 36, 8, 7, 37, 38, 39, 40, 41, 42, 43, 44, 45, 46, 47, 48, 49, 50, 51, 52, 53, 54, 55, 56, 57, 58, 59, 60, 61, 62, 63, 67, 68, 69, 70, 71, 72, 73, 74, 75, 76, 77, 78, 79, 80, 81, 82, 83, 84, 85, 86, 87, 88, 89, 90, 91, 92, 93, 94, 95, 96, 97, 98, 99, 100, 101, 102, 103, 104, 105, 106, 107, 108] (by decide +kernel) (by decide +kernel)
set_option maxRecDepth 20000 in
theorem gX9_loosen_X9_findPlan : GoodIn wsX9_loosen (wsV RX9 296 RX9 yX9_findPlan wsX9_findPlan) := goodIn_app (goodIn_of _ (by decide +kernel)) ggX9_loosen_X9_findPlan
set_option maxRecDepth 20000 in
theorem ggX9_loosen_X9_isLess : GoodIn wsX9_loosen wsX9_isLess := goodIn_r _ [66] (by decide +kernel) (by decide +kernel)
set_option maxRecDepth 20000 in
theorem gX9_loosen_X9_isLess : GoodIn wsX9_loosen (va_wsS RX9 307 yX9_isLess wsX9_isLess) := goodIn_app (goodIn_of _ (by decide +kernel)) ggX9_loosen_X9_isLess
theorem dX9_loosen_0 : decode cX9_loosen 0 = .ok (.iconst (-1), 1) := by decide +kernel
theorem dX9_loosen_1 : decode cX9_loosen 1 = .ok (.istore_n 1, 1) := by decide +kernel
theorem dX9_loosen_2 : decode cX9_loosen 2 = .ok (.iconst (-1), 1) := by decide +kernel
theorem dX9_loosen_3 : decode cX9_loosen 3 = .ok (.istore_n 2, 1) := by decide +kernel
theorem dX9_loosen_4 : decode cX9_loosen 4 = .ok (.iconst 0, 1) := by decide +kernel
theorem dX9_loosen_5 : decode cX9_loosen 5 = .ok (.istore_n 3, 1) := by decide +kernel
theorem dX9_loosen_6 : decode cX9_loosen 6 = .ok (.iload_n 3, 1) := by decide +kernel
theorem dX9_loosen_7 : decode cX9_loosen 7 = .ok (.aload_n 0, 1) := by decide +kernel
theorem dX9_loosen_8 : decode cX9_loosen 8 = .ok (.getfield 93, 3) := by decide +kernel
theorem dX9_loosen_11 : decode cX9_loosen 11 = .ok (.if_icmp .ge 106, 3) := by decide +kernel
theorem dX9_loosen_14 : decode cX9_loosen 14 = .ok (.iload_n 3, 1) := by decide +kernel
theorem dX9_loosen_15 : decode cX9_loosen 15 = .ok (.iconst 1, 1) := by decide +kernel
theorem dX9_loosen_16 : decode cX9_loosen 16 = .ok (.iadd, 1) := by decide +kernel
theorem dX9_loosen_17 : decode cX9_loosen 17 = .ok (.istore 4, 2) := by decide +kernel
theorem dX9_loosen_19 : decode cX9_loosen 19 = .ok (.iload 4, 2) := by decide +kernel
theorem dX9_loosen_21 : decode cX9_loosen 21 = .ok (.aload_n 0, 1) := by decide +kernel
theorem dX9_loosen_22 : decode cX9_loosen 22 = .ok (.getfield 93, 3) := by decide +kernel
theorem dX9_loosen_25 : decode cX9_loosen 25 = .ok (.if_icmp .ge 86, 3) := by decide +kernel
theorem dX9_loosen_28 : decode cX9_loosen 28 = .ok (.aload_n 0, 1) := by decide +kernel
theorem dX9_loosen_29 : decode cX9_loosen 29 = .ok (.iload_n 3, 1) := by decide +kernel
theorem dX9_loosen_30 : decode cX9_loosen 30 = .ok (.iload 4, 2) := by decide +kernel
theorem dX9_loosen_32 : decode cX9_loosen 32 = .ok (.invokevirtual 143, 3) := by decide +kernel
theorem dX9_loosen_35 : decode cX9_loosen 35 = .ok (.iconst 1, 1) := by decide +kernel
theorem dX9_loosen_36 : decode cX9_loosen 36 = .ok (.if_icmp .ne 69, 3) := by decide +kernel
theorem dX9_loosen_39 : decode cX9_loosen 39 = .ok (.aload_n 0, 1) := by decide +kernel
theorem dX9_loosen_40 : decode cX9_loosen 40 = .ok (.iload_n 3, 1) := by decide +kernel
theorem dX9_loosen_41 : decode cX9_loosen 41 = .ok (.iload 4, 2) := by decide +kernel
theorem dX9_loosen_43 : decode cX9_loosen 43 = .ok (.iconst 0, 1) := by decide +kernel
theorem dX9_loosen_44 : decode cX9_loosen 44 = .ok (.invokevirtual 147, 3) := by decide +kernel
theorem dX9_loosen_47 : decode cX9_loosen 47 = .ok (.aload_n 0, 1) := by decide +kernel
theorem dX9_loosen_48 : decode cX9_loosen 48 = .ok (.invokevirtual 296, 3) := by decide +kernel
theorem dX9_loosen_51 : decode cX9_loosen 51 = .ok (.istore 5, 2) := by decide +kernel
theorem dX9_loosen_53 : decode cX9_loosen 53 = .ok (.aload_n 0, 1) := by decide +kernel
theorem dX9_loosen_54 : decode cX9_loosen 54 = .ok (.iload_n 3, 1) := by decide +kernel
theorem dX9_loosen_55 : decode cX9_loosen 55 = .ok (.iload 4, 2) := by decide +kernel
theorem dX9_loosen_57 : decode cX9_loosen 57 = .ok (.iconst 1, 1) := by decide +kernel
theorem dX9_loosen_58 : decode cX9_loosen 58 = .ok (.invokevirtual 147, 3) := by decide +kernel
theorem dX9_loosen_61 : decode cX9_loosen 61 = .ok (.iload_n 1, 1) := by decide +kernel
theorem dX9_loosen_62 : decode cX9_loosen 62 = .ok (.iconst (-1), 1) := by decide +kernel
theorem dX9_loosen_63 : decode cX9_loosen 63 = .ok (.if_icmp .eq 12, 3) := by decide +kernel
theorem dX9_loosen_66 : decode cX9_loosen 66 = .ok (.iload 5, 2) := by decide +kernel
theorem dX9_loosen_68 : decode cX9_loosen 68 = .ok (.iload_n 2, 1) := by decide +kernel
theorem dX9_loosen_69 : decode cX9_loosen 69 = .ok (.invokestatic 307, 3) := by decide +kernel
theorem dX9_loosen_72 : decode cX9_loosen 72 = .ok (.ifCond .eq 13, 3) := by decide +kernel
theorem dX9_loosen_75 : decode cX9_loosen 75 = .ok (.bipush 10, 2) := by decide +kernel
theorem dX9_loosen_77 : decode cX9_loosen 77 = .ok (.iload_n 3, 1) := by decide +kernel
theorem dX9_loosen_78 : decode cX9_loosen 78 = .ok (.imul, 1) := by decide +kernel
theorem dX9_loosen_79 : decode cX9_loosen 79 = .ok (.iload 4, 2) := by decide +kernel
theorem dX9_loosen_81 : decode cX9_loosen 81 = .ok (.iadd, 1) := by decide +kernel
theorem dX9_loosen_82 : decode cX9_loosen 82 = .ok (.goto 4, 3) := by decide +kernel
theorem dX9_loosen_85 : decode cX9_loosen 85 = .ok (.iload_n 1, 1) := by decide +kernel
theorem dX9_loosen_86 : decode cX9_loosen 86 = .ok (.istore_n 1, 1) := by decide +kernel
theorem dX9_loosen_87 : decode cX9_loosen 87 = .ok (.iload_n 1, 1) := by decide +kernel
theorem dX9_loosen_88 : decode cX9_loosen 88 = .ok (.bipush 10, 2) := by decide +kernel
theorem dX9_loosen_90 : decode cX9_loosen 90 = .ok (.iload_n 3, 1) := by decide +kernel
theorem dX9_loosen_91 : decode cX9_loosen 91 = .ok (.imul, 1) := by decide +kernel
theorem dX9_loosen_92 : decode cX9_loosen 92 = .ok (.iload 4, 2) := by decide +kernel
theorem dX9_loosen_94 : decode cX9_loosen 94 = .ok (.iadd, 1) := by decide +kernel
theorem dX9_loosen_95 : decode cX9_loosen 95 = .ok (.if_icmp .ne 8, 3) := by decide +kernel
theorem dX9_loosen_98 : decode cX9_loosen 98 = .ok (.iload 5, 2) := by decide +kernel
theorem dX9_loosen_100 : decode cX9_loosen 100 = .ok (.goto 4, 3) := by decide +kernel
theorem dX9_loosen_103 : decode cX9_loosen 103 = .ok (.iload_n 2, 1) := by decide +kernel
theorem dX9_loosen_104 : decode cX9_loosen 104 = .ok (.istore_n 2, 1) := by decide +kernel
theorem dX9_loosen_105 : decode cX9_loosen 105 = .ok (.iinc 4 1, 3) := by decide +kernel
theorem dX9_loosen_108 : decode cX9_loosen 108 = .ok (.goto (-89), 3) := by decide +kernel
theorem dX9_loosen_111 : decode cX9_loosen 111 = .ok (.iinc 3 1, 3) := by decide +kernel
theorem dX9_loosen_114 : decode cX9_loosen 114 = .ok (.goto (-108), 3) := by decide +kernel
theorem dX9_loosen_117 : decode cX9_loosen 117 = .ok (.iload_n 1, 1) := by decide +kernel
theorem dX9_loosen_118 : decode cX9_loosen 118 = .ok (.ireturn, 1) := by decide +kernel
theorem dX9_findBids_0 : decode cX9_findBids 0 = .ok (.bipush 99, 2) := by decide +kernel
theorem dX9_findBids_2 : decode cX9_findBids 2 = .ok (.istore_n 3, 1) := by decide +kernel
theorem dX9_findBids_3 : decode cX9_findBids 3 = .ok (.iload_n 3, 1) := by decide +kernel
theorem dX9_findBids_4 : decode cX9_findBids 4 = .ok (.ifCond .lt 109, 3) := by decide +kernel
theorem dX9_findBids_7 : decode cX9_findBids 7 = .ok (.iconst 0, 1) := by decide +kernel
theorem dX9_findBids_8 : decode cX9_findBids 8 = .ok (.istore 4, 2) := by decide +kernel
theorem dX9_findBids_10 : decode cX9_findBids 10 = .ok (.iload 4, 2) := by decide +kernel
theorem dX9_findBids_12 : decode cX9_findBids 12 = .ok (.iconst 2, 1) := by decide +kernel
theorem dX9_findBids_13 : decode cX9_findBids 13 = .ok (.if_icmp .ge 94, 3) := by decide +kernel
theorem dX9_findBids_16 : decode cX9_findBids 16 = .ok (.aload_n 0, 1) := by decide +kernel
theorem dX9_findBids_17 : decode cX9_findBids 17 = .ok (.getfield 59, 3) := by decide +kernel
theorem dX9_findBids_20 : decode cX9_findBids 20 = .ok (.iload 4, 2) := by decide +kernel
theorem dX9_findBids_22 : decode cX9_findBids 22 = .ok (.ifCond .ne 7, 3) := by decide +kernel
theorem dX9_findBids_25 : decode cX9_findBids 25 = .ok (.iload_n 1, 1) := by decide +kernel
theorem dX9_findBids_26 : decode cX9_findBids 26 = .ok (.goto 4, 3) := by decide +kernel
theorem dX9_findBids_29 : decode cX9_findBids 29 = .ok (.iload_n 2, 1) := by decide +kernel
theorem dX9_findBids_30 : decode cX9_findBids 30 = .ok (.iaload, 1) := by decide +kernel
theorem dX9_findBids_31 : decode cX9_findBids 31 = .ok (.istore 5, 2) := by decide +kernel
theorem dX9_findBids_33 : decode cX9_findBids 33 = .ok (.aload_n 0, 1) := by decide +kernel
theorem dX9_findBids_34 : decode cX9_findBids 34 = .ok (.getfield 85, 3) := by decide +kernel
theorem dX9_findBids_37 : decode cX9_findBids 37 = .ok (.iload 4, 2) := by decide +kernel
theorem dX9_findBids_39 : decode cX9_findBids 39 = .ok (.aaload, 1) := by decide +kernel
theorem dX9_findBids_40 : decode cX9_findBids 40 = .ok (.iload_n 3, 1) := by decide +kernel
theorem dX9_findBids_41 : decode cX9_findBids 41 = .ok (.iconst 0, 1) := by decide +kernel
theorem dX9_findBids_42 : decode cX9_findBids 42 = .ok (.bastore, 1) := by decide +kernel
theorem dX9_findBids_43 : decode cX9_findBids 43 = .ok (.iconst 1, 1) := by decide +kernel
theorem dX9_findBids_44 : decode cX9_findBids 44 = .ok (.istore 6, 2) := by decide +kernel
theorem dX9_findBids_46 : decode cX9_findBids 46 = .ok (.iload 6, 2) := by decide +kernel
theorem dX9_findBids_48 : decode cX9_findBids 48 = .ok (.iconst 3, 1) := by decide +kernel
theorem dX9_findBids_49 : decode cX9_findBids 49 = .ok (.if_icmp .gt 52, 3) := by decide +kernel
theorem dX9_findBids_52 : decode cX9_findBids 52 = .ok (.iload_n 3, 1) := by decide +kernel
theorem dX9_findBids_53 : decode cX9_findBids 53 = .ok (.iload 6, 2) := by decide +kernel
theorem dX9_findBids_55 : decode cX9_findBids 55 = .ok (.iadd, 1) := by decide +kernel
theorem dX9_findBids_56 : decode cX9_findBids 56 = .ok (.iload 5, 2) := by decide +kernel
theorem dX9_findBids_58 : decode cX9_findBids 58 = .ok (.if_icmp .gt 43, 3) := by decide +kernel
theorem dX9_findBids_61 : decode cX9_findBids 61 = .ok (.aload_n 0, 1) := by decide +kernel
theorem dX9_findBids_62 : decode cX9_findBids 62 = .ok (.getfield 85, 3) := by decide +kernel
theorem dX9_findBids_65 : decode cX9_findBids 65 = .ok (.iload 4, 2) := by decide +kernel
theorem dX9_findBids_67 : decode cX9_findBids 67 = .ok (.aaload, 1) := by decide +kernel
theorem dX9_findBids_68 : decode cX9_findBids 68 = .ok (.iload_n 3, 1) := by decide +kernel
theorem dX9_findBids_69 : decode cX9_findBids 69 = .ok (.dup2, 1) := by decide +kernel
theorem dX9_findBids_70 : decode cX9_findBids 70 = .ok (.baload, 1) := by decide +kernel
theorem dX9_findBids_71 : decode cX9_findBids 71 = .ok (.aload_n 0, 1) := by decide +kernel
theorem dX9_findBids_72 : decode cX9_findBids 72 = .ok (.getfield 85, 3) := by decide +kernel
theorem dX9_findBids_75 : decode cX9_findBids 75 = .ok (.iconst 1, 1) := by decide +kernel
theorem dX9_findBids_76 : decode cX9_findBids 76 = .ok (.iload 4, 2) := by decide +kernel
theorem dX9_findBids_78 : decode cX9_findBids 78 = .ok (.isub, 1) := by decide +kernel
theorem dX9_findBids_79 : decode cX9_findBids 79 = .ok (.aaload, 1) := by decide +kernel
theorem dX9_findBids_80 : decode cX9_findBids 80 = .ok (.iload_n 3, 1) := by decide +kernel
theorem dX9_findBids_81 : decode cX9_findBids 81 = .ok (.iload 6, 2) := by decide +kernel
theorem dX9_findBids_83 : decode cX9_findBids 83 = .ok (.iadd, 1) := by decide +kernel
theorem dX9_findBids_84 : decode cX9_findBids 84 = .ok (.baload, 1) := by decide +kernel
theorem dX9_findBids_85 : decode cX9_findBids 85 = .ok (.ifCond .ne 7, 3) := by decide +kernel
theorem dX9_findBids_88 : decode cX9_findBids 88 = .ok (.iconst 1, 1) := by decide +kernel
theorem dX9_findBids_89 : decode cX9_findBids 89 = .ok (.goto 4, 3) := by decide +kernel
theorem dX9_findBids_92 : decode cX9_findBids 92 = .ok (.iconst 0, 1) := by decide +kernel
theorem dX9_findBids_93 : decode cX9_findBids 93 = .ok (.ior, 1) := by decide +kernel
theorem dX9_findBids_94 : decode cX9_findBids 94 = .ok (.bastore, 1) := by decide +kernel
theorem dX9_findBids_95 : decode cX9_findBids 95 = .ok (.iinc 6 1, 3) := by decide +kernel
theorem dX9_findBids_98 : decode cX9_findBids 98 = .ok (.goto (-52), 3) := by decide +kernel
theorem dX9_findBids_101 : decode cX9_findBids 101 = .ok (.iinc 4 1, 3) := by decide +kernel
theorem dX9_findBids_104 : decode cX9_findBids 104 = .ok (.goto (-94), 3) := by decide +kernel
theorem dX9_findBids_107 : decode cX9_findBids 107 = .ok (.iinc 3 (-1), 3) := by decide +kernel
theorem dX9_findBids_110 : decode cX9_findBids 110 = .ok (.goto (-107), 3) := by decide +kernel
theorem dX9_findBids_113 : decode cX9_findBids 113 = .ok (.return_, 1) := by decide +kernel
set_option maxRecDepth 20000 in
theorem ggX9_bids_X9_isParty : GoodIn wsX9_bids wsX9_isParty := goodIn_r _ [7, 8, 9, 10, 6, 11, 21, 22, 23, 24, 25, 26, 27, 28, 29, 30, 31, 32, 33, 34, 35, 36, 37, 38, 39, 40, 41, 42, 43, 44, 45, 46, 47, 48, 49, 50, 51, 52, 53, 54, 55, 56, 57, 58, 59, 60, 61, 62] (by decide +kernel) (by decide +kernel)
set_option maxRecDepth 20000 in
theorem gX9_bids_X9_isParty : GoodIn wsX9_bids (wsV RX9 120 RX9 yX9_isParty wsX9_isParty) := goodIn_app (goodIn_of _ (by decide +kernel)) ggX9_bids_X9_isParty
set_option maxRecDepth 20000 in
theorem ggX9_bids_X9_in : GoodIn wsX9_bids wsX9_in := goodIn_r _ [11] (by decide +kernel) (by decide +kernel)
set_option maxRecDepth 20000 in
theorem gX9_bids_X9_in : GoodIn wsX9_bids (va_wsS RX9 96 yX9_in wsX9_in) := goodIn_app (goodIn_of _ (by decide +kernel)) ggX9_bids_X9_in
set_option maxRecDepth 20000 in
theorem ggX9_bids_X9_refuse : GoodIn wsX9_bids wsX9_refuse := goodIn_r _ [15, 16, 21, 22, 23, 24, 25, 26, 27, 28, 29, 30, 31, 32, 33, 34, 35, 36, 37, 38, 39, 40, 41, 42, 43, 44, 45, 46, 47, 48, 49, 50, 51, 52, 53, 54, 55, 56, 57, 58, 59, 60, 61, 62] (by decide +kernel) (by decide +kernel)
set_option maxRecDepth 20000 in
theorem gX9_bids_X9_refuse : GoodIn wsX9_bids (wsV RX9 109 RX9 yX9_refuse wsX9_refuse) := goodIn_app (goodIn_of _ (by decide +kernel)) ggX9_bids_X9_refuse
set_option maxRecDepth 20000 in
theorem ggX9_bids_X9_findBids : GoodIn wsX9_bids wsX9_findBids := goodIn_r _ [20, 2, 1, 21, 22, 23, 24, 25, 26, 27, 28, 29, 30, 31, 32, 33, 34, 35, 36, 37, 38, 39, 40, 41, 42, 43, 44, 45, 46, 47, 48, 49, 50, 51, 52, 53, 54, 55, 56, 57, 58, 59, 60, 61, 62] (by decide +kernel) (by decide +kernel)
set_option maxRecDepth 20000 in
theorem gX9_bids_X9_findBids : GoodIn wsX9_bids (wsV RX9 310 RX9 yX9_findBids wsX9_findBids) := goodIn_app (goodIn_of _ (by decide +kernel)) ggX9_bids_X9_findBids
theorem dX9_bids_0 : decode cX9_bids 0 = .ok (.aload_n 0, 1) := by decide +kernel
theorem dX9_bids_1 : decode cX9_bids 1 = .ok (.iload_n 1, 1) := by decide +kernel
theorem dX9_bids_2 : decode cX9_bids 2 = .ok (.invokevirtual 120, 3) := by decide +kernel
theorem dX9_bids_5 : decode cX9_bids 5 = .ok (.ifCond .eq 26, 3) := by decide +kernel
theorem dX9_bids_8 : decode cX9_bids 8 = .ok (.aload_n 0, 1) := by decide +kernel
theorem dX9_bids_9 : decode cX9_bids 9 = .ok (.iload_n 2, 1) := by decide +kernel
theorem dX9_bids_10 : decode cX9_bids 10 = .ok (.invokevirtual 120, 3) := by decide +kernel
theorem dX9_bids_13 : decode cX9_bids 13 = .ok (.ifCond .eq 18, 3) := by decide +kernel
theorem dX9_bids_16 : decode cX9_bids 16 = .ok (.iload_n 1, 1) := by decide +kernel
theorem dX9_bids_17 : decode cX9_bids 17 = .ok (.iload_n 2, 1) := by decide +kernel
theorem dX9_bids_18 : decode cX9_bids 18 = .ok (.if_icmp .eq 13, 3) := by decide +kernel
theorem dX9_bids_21 : decode cX9_bids 21 = .ok (.iload_n 3, 1) := by decide +kernel
theorem dX9_bids_22 : decode cX9_bids 22 = .ok (.i2l, 1) := by decide +kernel
theorem dX9_bids_23 : decode cX9_bids 23 = .ok (.lconst 0, 1) := by decide +kernel
theorem dX9_bids_24 : decode cX9_bids 24 = .ok (.lconst 1, 1) := by decide +kernel
theorem dX9_bids_25 : decode cX9_bids 25 = .ok (.invokestatic 96, 3) := by decide +kernel
theorem dX9_bids_28 : decode cX9_bids 28 = .ok (.ifCond .ne 11, 3) := by decide +kernel
theorem dX9_bids_31 : decode cX9_bids 31 = .ok (.aload_n 0, 1) := by decide +kernel
theorem dX9_bids_32 : decode cX9_bids 32 = .ok (.sipush (-1002), 3) := by decide +kernel
theorem dX9_bids_35 : decode cX9_bids 35 = .ok (.invokevirtual 109, 3) := by decide +kernel
theorem dX9_bids_38 : decode cX9_bids 38 = .ok (.ireturn, 1) := by decide +kernel
theorem dX9_bids_39 : decode cX9_bids 39 = .ok (.aload_n 0, 1) := by decide +kernel
theorem dX9_bids_40 : decode cX9_bids 40 = .ok (.iload_n 1, 1) := by decide +kernel
theorem dX9_bids_41 : decode cX9_bids 41 = .ok (.iload_n 2, 1) := by decide +kernel
theorem dX9_bids_42 : decode cX9_bids 42 = .ok (.invokevirtual 310, 3) := by decide +kernel
theorem dX9_bids_45 : decode cX9_bids 45 = .ok (.iload_n 3, 1) := by decide +kernel
theorem dX9_bids_46 : decode cX9_bids 46 = .ok (.ifCond .ne 20, 3) := by decide +kernel
theorem dX9_bids_49 : decode cX9_bids 49 = .ok (.aload_n 0, 1) := by decide +kernel
theorem dX9_bids_50 : decode cX9_bids 50 = .ok (.getfield 85, 3) := by decide +kernel
theorem dX9_bids_53 : decode cX9_bids 53 = .ok (.iconst 0, 1) := by decide +kernel
theorem dX9_bids_54 : decode cX9_bids 54 = .ok (.aaload, 1) := by decide +kernel
theorem dX9_bids_55 : decode cX9_bids 55 = .ok (.iconst 0, 1) := by decide +kernel
theorem dX9_bids_56 : decode cX9_bids 56 = .ok (.baload, 1) := by decide +kernel
theorem dX9_bids_57 : decode cX9_bids 57 = .ok (.ifCond .eq 7, 3) := by decide +kernel
theorem dX9_bids_60 : decode cX9_bids 60 = .ok (.iconst 1, 1) := by decide +kernel
theorem dX9_bids_61 : decode cX9_bids 61 = .ok (.goto 4, 3) := by decide +kernel
theorem dX9_bids_64 : decode cX9_bids 64 = .ok (.iconst 0, 1) := by decide +kernel
theorem dX9_bids_65 : decode cX9_bids 65 = .ok (.ireturn, 1) := by decide +kernel
theorem dX9_bids_66 : decode cX9_bids 66 = .ok (.iconst 1, 1) := by decide +kernel
theorem dX9_bids_67 : decode cX9_bids 67 = .ok (.istore 4, 2) := by decide +kernel
theorem dX9_bids_69 : decode cX9_bids 69 = .ok (.iload 4, 2) := by decide +kernel
theorem dX9_bids_71 : decode cX9_bids 71 = .ok (.iconst 3, 1) := by decide +kernel
theorem dX9_bids_72 : decode cX9_bids 72 = .ok (.if_icmp .gt 35, 3) := by decide +kernel
theorem dX9_bids_75 : decode cX9_bids 75 = .ok (.iload 4, 2) := by decide +kernel
theorem dX9_bids_77 : decode cX9_bids 77 = .ok (.aload_n 0, 1) := by decide +kernel
theorem dX9_bids_78 : decode cX9_bids 78 = .ok (.getfield 59, 3) := by decide +kernel
theorem dX9_bids_81 : decode cX9_bids 81 = .ok (.iload_n 1, 1) := by decide +kernel
theorem dX9_bids_82 : decode cX9_bids 82 = .ok (.iaload, 1) := by decide +kernel
theorem dX9_bids_83 : decode cX9_bids 83 = .ok (.if_icmp .gt 24, 3) := by decide +kernel
theorem dX9_bids_86 : decode cX9_bids 86 = .ok (.aload_n 0, 1) := by decide +kernel
theorem dX9_bids_87 : decode cX9_bids 87 = .ok (.getfield 85, 3) := by decide +kernel
theorem dX9_bids_90 : decode cX9_bids 90 = .ok (.iconst 1, 1) := by decide +kernel
theorem dX9_bids_91 : decode cX9_bids 91 = .ok (.aaload, 1) := by decide +kernel
theorem dX9_bids_92 : decode cX9_bids 92 = .ok (.iload 4, 2) := by decide +kernel
theorem dX9_bids_94 : decode cX9_bids 94 = .ok (.baload, 1) := by decide +kernel
theorem dX9_bids_95 : decode cX9_bids 95 = .ok (.ifCond .ne 6, 3) := by decide +kernel
theorem dX9_bids_98 : decode cX9_bids 98 = .ok (.iload 4, 2) := by decide +kernel
theorem dX9_bids_100 : decode cX9_bids 100 = .ok (.ireturn, 1) := by decide +kernel
theorem dX9_bids_101 : decode cX9_bids 101 = .ok (.iinc 4 1, 3) := by decide +kernel
theorem dX9_bids_104 : decode cX9_bids 104 = .ok (.goto (-35), 3) := by decide +kernel
theorem dX9_bids_107 : decode cX9_bids 107 = .ok (.iconst 0, 1) := by decide +kernel
theorem dX9_bids_108 : decode cX9_bids 108 = .ok (.ireturn, 1) := by decide +kernel
set_option maxRecDepth 20000 in
theorem ggX9_noTold_X9_in : GoodIn wsX9_noTold wsX9_in := goodIn_r _ [6] (by decide +kernel) (by decide +kernel)
set_option maxRecDepth 20000 in
theorem gX9_noTold_X9_in : GoodIn wsX9_noTold (va_wsS RX9 96 yX9_in wsX9_in) := goodIn_app (goodIn_of _ (by decide +kernel)) ggX9_noTold_X9_in
set_option maxRecDepth 20000 in
theorem ggX9_noTold_X9_refuse : GoodIn wsX9_noTold wsX9_refuse := goodIn_r _ [10, 11, 17, 18, 19, 20, 21, 22, 23, 24, 25, 26, 27, 28, 29, 30, 31, 32, 33, 34, 35, 36, 37, 38, 39, 40, 41, 42, 43, 44, 45, 46, 47, 48, 49, 50, 51, 52, 53, 54, 55, 56, 57, 58] (by decide +kernel) (by decide +kernel)
set_option maxRecDepth 20000 in
theorem gX9_noTold_X9_refuse : GoodIn wsX9_noTold (wsV RX9 109 RX9 yX9_refuse wsX9_refuse) := goodIn_app (goodIn_of _ (by decide +kernel)) ggX9_noTold_X9_refuse
set_option maxRecDepth 20000 in
theorem ggX9_noTold_X9_noRow : GoodIn wsX9_noTold wsX9_noRow := goodIn_r _ [15, 1, 16, 3, 4, 5, 6, 7, 8, 9, 10, 11, 17, 18, 19, 20, 21, 22, 23, 24, 25, 26, 27, 28, 29, 30, 31, 32, 33, 34, 35, 36, 37, 38, 39, 40, 41, 42, 43, 44, 45, 46, 47, 48, 49, 50, 51, 52, 53, 54, 55, 56, 57, 58] (by decide +kernel) (by decide +kernel)
set_option maxRecDepth 20000 in
theorem gX9_noTold_X9_noRow : GoodIn wsX9_noTold (wsV RX9 113 RX9 yX9_noRow wsX9_noRow) := goodIn_app (goodIn_of _ (by decide +kernel)) ggX9_noTold_X9_noRow
theorem dX9_noTold_0 : decode cX9_noTold 0 = .ok (.iload_n 1, 1) := by decide +kernel
theorem dX9_noTold_1 : decode cX9_noTold 1 = .ok (.i2l, 1) := by decide +kernel
theorem dX9_noTold_2 : decode cX9_noTold 2 = .ok (.lconst 0, 1) := by decide +kernel
theorem dX9_noTold_3 : decode cX9_noTold 3 = .ok (.ldc2_w 103, 3) := by decide +kernel
theorem dX9_noTold_6 : decode cX9_noTold 6 = .ok (.invokestatic 96, 3) := by decide +kernel
theorem dX9_noTold_9 : decode cX9_noTold 9 = .ok (.ifCond .eq 19, 3) := by decide +kernel
theorem dX9_noTold_12 : decode cX9_noTold 12 = .ok (.iload_n 2, 1) := by decide +kernel
theorem dX9_noTold_13 : decode cX9_noTold 13 = .ok (.i2l, 1) := by decide +kernel
theorem dX9_noTold_14 : decode cX9_noTold 14 = .ok (.lconst 0, 1) := by decide +kernel
theorem dX9_noTold_15 : decode cX9_noTold 15 = .ok (.iload_n 3, 1) := by decide +kernel
theorem dX9_noTold_16 : decode cX9_noTold 16 = .ok (.i2l, 1) := by decide +kernel
theorem dX9_noTold_17 : decode cX9_noTold 17 = .ok (.invokestatic 96, 3) := by decide +kernel
theorem dX9_noTold_20 : decode cX9_noTold 20 = .ok (.ifCond .eq 8, 3) := by decide +kernel
theorem dX9_noTold_23 : decode cX9_noTold 23 = .ok (.iload 4, 2) := by decide +kernel
theorem dX9_noTold_25 : decode cX9_noTold 25 = .ok (.ifCond .ne 11, 3) := by decide +kernel
theorem dX9_noTold_28 : decode cX9_noTold 28 = .ok (.aload_n 0, 1) := by decide +kernel
theorem dX9_noTold_29 : decode cX9_noTold 29 = .ok (.sipush (-1002), 3) := by decide +kernel
theorem dX9_noTold_32 : decode cX9_noTold 32 = .ok (.invokevirtual 109, 3) := by decide +kernel
theorem dX9_noTold_35 : decode cX9_noTold 35 = .ok (.ireturn, 1) := by decide +kernel
theorem dX9_noTold_36 : decode cX9_noTold 36 = .ok (.aload_n 0, 1) := by decide +kernel
theorem dX9_noTold_37 : decode cX9_noTold 37 = .ok (.iload_n 1, 1) := by decide +kernel
theorem dX9_noTold_38 : decode cX9_noTold 38 = .ok (.invokevirtual 113, 3) := by decide +kernel
theorem dX9_noTold_41 : decode cX9_noTold 41 = .ok (.istore 5, 2) := by decide +kernel
theorem dX9_noTold_43 : decode cX9_noTold 43 = .ok (.iload 5, 2) := by decide +kernel
theorem dX9_noTold_45 : decode cX9_noTold 45 = .ok (.ifCond .eq 6, 3) := by decide +kernel
theorem dX9_noTold_48 : decode cX9_noTold 48 = .ok (.iload 5, 2) := by decide +kernel
theorem dX9_noTold_50 : decode cX9_noTold 50 = .ok (.ireturn, 1) := by decide +kernel
theorem dX9_noTold_51 : decode cX9_noTold 51 = .ok (.aload_n 0, 1) := by decide +kernel
theorem dX9_noTold_52 : decode cX9_noTold 52 = .ok (.getfield 16, 3) := by decide +kernel
theorem dX9_noTold_55 : decode cX9_noTold 55 = .ok (.iload_n 1, 1) := by decide +kernel
theorem dX9_noTold_56 : decode cX9_noTold 56 = .ok (.iaload, 1) := by decide +kernel
theorem dX9_noTold_57 : decode cX9_noTold 57 = .ok (.iload_n 2, 1) := by decide +kernel
theorem dX9_noTold_58 : decode cX9_noTold 58 = .ok (.if_icmp .ge 13, 3) := by decide +kernel
theorem dX9_noTold_61 : decode cX9_noTold 61 = .ok (.aload_n 0, 1) := by decide +kernel
theorem dX9_noTold_62 : decode cX9_noTold 62 = .ok (.sipush (-1002), 3) := by decide +kernel
theorem dX9_noTold_65 : decode cX9_noTold 65 = .ok (.invokevirtual 109, 3) := by decide +kernel
theorem dX9_noTold_68 : decode cX9_noTold 68 = .ok (.goto 4, 3) := by decide +kernel
theorem dX9_noTold_71 : decode cX9_noTold 71 = .ok (.iconst 0, 1) := by decide +kernel
theorem dX9_noTold_72 : decode cX9_noTold 72 = .ok (.ireturn, 1) := by decide +kernel
set_option maxRecDepth 20000 in
theorem ggX9_isAboard_X9_maySit : GoodIn wsX9_isAboard wsX9_maySit := goodIn_r _ [6, 7, 8, 9, 10, 38, 39, 40, 41, 42, 43, 44, 45, 46, 47, 48, 49, 50, 51, 52, 53, 54, 55, 56, 57, 58, 59, 60, 61, 62, 63, 64, 65, 66, 67, 68, 69, 70, 71, 72, 73, 74, 75, 76, 77, 78, 79] (by decide +kernel) (by decide +kernel)
set_option maxRecDepth 20000 in
theorem gX9_isAboard_X9_maySit : GoodIn wsX9_isAboard (wsV RX9 269 RX9 yX9_maySit wsX9_maySit) := goodIn_app (goodIn_of _ (by decide +kernel)) ggX9_isAboard_X9_maySit
set_option maxRecDepth 20000 in
theorem ggX9_isAboard_X9_headsTogether : GoodIn wsX9_isAboard wsX9_headsTogether := goodIn_r _ [14, 8, 15, 16, 17, 5, 18, 19, 20, 21, 22, 38, 39, 40, 41, 42, 43, 44, 45, 46, 47, 48, 49, 50, 51, 52, 53, 54, 55, 56, 57, 58, 59, 60, 61, 62, 63, 64, 65, 66, 67, 68, 69, 70, 71, 72, 73, 74, 75, 76, 77, 78, 79] (by decide +kernel) (by decide +kernel)
set_option maxRecDepth 20000 in
theorem gX9_isAboard_X9_headsTogether : GoodIn wsX9_isAboard (wsV RX9 272 RX9 yX9_headsTogether wsX9_headsTogether) := goodIn_app (goodIn_of _ (by decide +kernel)) ggX9_isAboard_X9_headsTogether
set_option maxRecDepth 20000 in
theorem ggX9_isAboard_X9_in : GoodIn wsX9_isAboard wsX9_in := goodIn_r _ [25] (by decide +kernel) (by decide +kernel)
set_option maxRecDepth 20000 in
theorem gX9_isAboard_X9_in : GoodIn wsX9_isAboard (va_wsS RX9 96 yX9_in wsX9_in) := goodIn_app (goodIn_of _ (by decide +kernel)) ggX9_isAboard_X9_in
set_option maxRecDepth 20000 in
theorem ggX9_isAboard_X9_goesNow : GoodIn wsX9_isAboard wsX9_goesNow := goodIn_r _ [29, 30, 31, 23, 24, 5, 25, 32, 33, 34, 35, 36, 37, 38, 39, 40, 41, 42, 43, 44, 45, 46, 47, 48, 49, 50, 51, 52, 53, 54, 55, 56, 57, 58, 59, 60, 61, 62, 63, 64, 65, 66, 67, 68, 69, 70, 71, 72, 73, 74, 75, 76, 77, 78, 79] (by decide +kernel) (by decide +kernel)
set_option maxRecDepth 20000 in
theorem gX9_isAboard_X9_goesNow : GoodIn wsX9_isAboard (wsV RX9 261 RX9 yX9_goesNow wsX9_goesNow) := goodIn_app (goodIn_of _ (by decide +kernel)) ggX9_isAboard_X9_goesNow
theorem dX9_isAboard_0 : decode cX9_isAboard 0 = .ok (.aload_n 0, 1) := by decide +kernel
theorem dX9_isAboard_1 : decode cX9_isAboard 1 = .ok (.iload_n 1, 1) := by decide +kernel
theorem dX9_isAboard_2 : decode cX9_isAboard 2 = .ok (.invokevirtual 269, 3) := by decide +kernel
theorem dX9_isAboard_5 : decode cX9_isAboard 5 = .ok (.ifCond .eq 35, 3) := by decide +kernel
theorem dX9_isAboard_8 : decode cX9_isAboard 8 = .ok (.lload_n 2, 1) := by decide +kernel
theorem dX9_isAboard_9 : decode cX9_isAboard 9 = .ok (.aload_n 0, 1) := by decide +kernel
theorem dX9_isAboard_10 : decode cX9_isAboard 10 = .ok (.iload_n 1, 1) := by decide +kernel
theorem dX9_isAboard_11 : decode cX9_isAboard 11 = .ok (.invokevirtual 272, 3) := by decide +kernel
theorem dX9_isAboard_14 : decode cX9_isAboard 14 = .ok (.i2l, 1) := by decide +kernel
theorem dX9_isAboard_15 : decode cX9_isAboard 15 = .ok (.lsub, 1) := by decide +kernel
theorem dX9_isAboard_16 : decode cX9_isAboard 16 = .ok (.lconst 0, 1) := by decide +kernel
theorem dX9_isAboard_17 : decode cX9_isAboard 17 = .ok (.aload_n 0, 1) := by decide +kernel
theorem dX9_isAboard_18 : decode cX9_isAboard 18 = .ok (.getfield 44, 3) := by decide +kernel
theorem dX9_isAboard_21 : decode cX9_isAboard 21 = .ok (.i2l, 1) := by decide +kernel
theorem dX9_isAboard_22 : decode cX9_isAboard 22 = .ok (.invokestatic 96, 3) := by decide +kernel
theorem dX9_isAboard_25 : decode cX9_isAboard 25 = .ok (.ifCond .eq 15, 3) := by decide +kernel
theorem dX9_isAboard_28 : decode cX9_isAboard 28 = .ok (.aload_n 0, 1) := by decide +kernel
theorem dX9_isAboard_29 : decode cX9_isAboard 29 = .ok (.lload_n 2, 1) := by decide +kernel
theorem dX9_isAboard_30 : decode cX9_isAboard 30 = .ok (.invokevirtual 261, 3) := by decide +kernel
theorem dX9_isAboard_33 : decode cX9_isAboard 33 = .ok (.ifCond .eq 7, 3) := by decide +kernel
theorem dX9_isAboard_36 : decode cX9_isAboard 36 = .ok (.iconst 1, 1) := by decide +kernel
theorem dX9_isAboard_37 : decode cX9_isAboard 37 = .ok (.goto 4, 3) := by decide +kernel
theorem dX9_isAboard_40 : decode cX9_isAboard 40 = .ok (.iconst 0, 1) := by decide +kernel
theorem dX9_isAboard_41 : decode cX9_isAboard 41 = .ok (.ireturn, 1) := by decide +kernel
set_option maxRecDepth 20000 in
theorem ggX9_findCrossed_X9_waitingBits : GoodIn wsX9_findCrossed wsX9_waitingBits := goodIn_r _ [7, 8, 9, 48, 49, 50, 51, 52, 53, 54, 55, 56, 57, 58, 59, 60, 61, 62, 63, 64, 65, 66, 67, 68, 69, 70, 71, 72, 73, 74, 75, 76, 77, 78, 79, 80, 81, 82, 83, 84, 85, 86, 87, 88, 89] (by decide +kernel) (by decide +kernel)
set_option maxRecDepth 20000 in
theorem gX9_findCrossed_X9_waitingBits : GoodIn wsX9_findCrossed (wsV RX9 293 RX9 yX9_waitingBits wsX9_waitingBits) := goodIn_app (goodIn_of _ (by decide +kernel)) ggX9_findCrossed_X9_waitingBits
set_option maxRecDepth 20000 in
theorem ggX9_findCrossed_X9_isAboard : GoodIn wsX9_findCrossed wsX9_isAboard := goodIn_r _ [13, 14, 15, 16, 17, 6, 18, 9, 8, 19, 20, 21, 22, 23, 24, 25, 26, 27, 28, 29, 30, 31, 32, 33, 34, 35, 36, 37, 38, 39, 40, 41, 42, 43, 44, 45, 46, 47, 48, 49, 50, 51, 52, 53, 54, 55, 56, 57, 58, 59, 60, 61, 62, 63, 64, 65, 66, 67, 68, 69, 70, 71, 72, 73, 74, 75, 76, 77, 78, 79, 80, 81, 82, 83, 84, 85, 86, 87, 88, 89] (by decide +kernel) (by decide +kernel)
set_option maxRecDepth 20000 in
theorem gX9_findCrossed_X9_isAboard : GoodIn wsX9_findCrossed (wsV RX9 314 RX9 yX9_isAboard wsX9_isAboard) := goodIn_app (goodIn_of _ (by decide +kernel)) ggX9_findCrossed_X9_isAboard
theorem dX9_findCrossed_0 : decode cX9_findCrossed 0 = .ok (.aload_n 0, 1) := by decide +kernel
theorem dX9_findCrossed_1 : decode cX9_findCrossed 1 = .ok (.invokevirtual 293, 3) := by decide +kernel
theorem dX9_findCrossed_4 : decode cX9_findCrossed 4 = .ok (.istore_n 3, 1) := by decide +kernel
theorem dX9_findCrossed_5 : decode cX9_findCrossed 5 = .ok (.iconst 0, 1) := by decide +kernel
theorem dX9_findCrossed_6 : decode cX9_findCrossed 6 = .ok (.istore 4, 2) := by decide +kernel
theorem dX9_findCrossed_8 : decode cX9_findCrossed 8 = .ok (.iload 4, 2) := by decide +kernel
theorem dX9_findCrossed_10 : decode cX9_findCrossed 10 = .ok (.iload_n 3, 1) := by decide +kernel
theorem dX9_findCrossed_11 : decode cX9_findCrossed 11 = .ok (.if_icmp .gt 19, 3) := by decide +kernel
theorem dX9_findCrossed_14 : decode cX9_findCrossed 14 = .ok (.aload_n 0, 1) := by decide +kernel
theorem dX9_findCrossed_15 : decode cX9_findCrossed 15 = .ok (.getfield 90, 3) := by decide +kernel
theorem dX9_findCrossed_18 : decode cX9_findCrossed 18 = .ok (.iload_n 2, 1) := by decide +kernel
theorem dX9_findCrossed_19 : decode cX9_findCrossed 19 = .ok (.aaload, 1) := by decide +kernel
theorem dX9_findCrossed_20 : decode cX9_findCrossed 20 = .ok (.iload 4, 2) := by decide +kernel
theorem dX9_findCrossed_22 : decode cX9_findCrossed 22 = .ok (.iconst 1, 1) := by decide +kernel
theorem dX9_findCrossed_23 : decode cX9_findCrossed 23 = .ok (.iastore, 1) := by decide +kernel
theorem dX9_findCrossed_24 : decode cX9_findCrossed 24 = .ok (.iinc 4 1, 3) := by decide +kernel
theorem dX9_findCrossed_27 : decode cX9_findCrossed 27 = .ok (.goto (-19), 3) := by decide +kernel
theorem dX9_findCrossed_30 : decode cX9_findCrossed 30 = .ok (.iload_n 2, 1) := by decide +kernel
theorem dX9_findCrossed_31 : decode cX9_findCrossed 31 = .ok (.iconst 1, 1) := by decide +kernel
theorem dX9_findCrossed_32 : decode cX9_findCrossed 32 = .ok (.isub, 1) := by decide +kernel
theorem dX9_findCrossed_33 : decode cX9_findCrossed 33 = .ok (.istore 4, 2) := by decide +kernel
theorem dX9_findCrossed_35 : decode cX9_findCrossed 35 = .ok (.iload 4, 2) := by decide +kernel
theorem dX9_findCrossed_37 : decode cX9_findCrossed 37 = .ok (.ifCond .lt 149, 3) := by decide +kernel
theorem dX9_findCrossed_40 : decode cX9_findCrossed 40 = .ok (.iconst 0, 1) := by decide +kernel
theorem dX9_findCrossed_41 : decode cX9_findCrossed 41 = .ok (.istore 5, 2) := by decide +kernel
theorem dX9_findCrossed_43 : decode cX9_findCrossed 43 = .ok (.iload 5, 2) := by decide +kernel
theorem dX9_findCrossed_45 : decode cX9_findCrossed 45 = .ok (.iload_n 3, 1) := by decide +kernel
theorem dX9_findCrossed_46 : decode cX9_findCrossed 46 = .ok (.if_icmp .gt 20, 3) := by decide +kernel
theorem dX9_findCrossed_49 : decode cX9_findCrossed 49 = .ok (.aload_n 0, 1) := by decide +kernel
theorem dX9_findCrossed_50 : decode cX9_findCrossed 50 = .ok (.getfield 90, 3) := by decide +kernel
theorem dX9_findCrossed_53 : decode cX9_findCrossed 53 = .ok (.iload 4, 2) := by decide +kernel
theorem dX9_findCrossed_55 : decode cX9_findCrossed 55 = .ok (.aaload, 1) := by decide +kernel
theorem dX9_findCrossed_56 : decode cX9_findCrossed 56 = .ok (.iload 5, 2) := by decide +kernel
theorem dX9_findCrossed_58 : decode cX9_findCrossed 58 = .ok (.iconst 0, 1) := by decide +kernel
theorem dX9_findCrossed_59 : decode cX9_findCrossed 59 = .ok (.iastore, 1) := by decide +kernel
theorem dX9_findCrossed_60 : decode cX9_findCrossed 60 = .ok (.iinc 5 1, 3) := by decide +kernel
theorem dX9_findCrossed_63 : decode cX9_findCrossed 63 = .ok (.goto (-20), 3) := by decide +kernel
theorem dX9_findCrossed_66 : decode cX9_findCrossed 66 = .ok (.iconst 1, 1) := by decide +kernel
theorem dX9_findCrossed_67 : decode cX9_findCrossed 67 = .ok (.istore 5, 2) := by decide +kernel
theorem dX9_findCrossed_69 : decode cX9_findCrossed 69 = .ok (.iload 5, 2) := by decide +kernel
theorem dX9_findCrossed_71 : decode cX9_findCrossed 71 = .ok (.iload_n 3, 1) := by decide +kernel
theorem dX9_findCrossed_72 : decode cX9_findCrossed 72 = .ok (.if_icmp .gt 108, 3) := by decide +kernel
theorem dX9_findCrossed_75 : decode cX9_findCrossed 75 = .ok (.iload 5, 2) := by decide +kernel
theorem dX9_findCrossed_77 : decode cX9_findCrossed 77 = .ok (.iload_n 3, 1) := by decide +kernel
theorem dX9_findCrossed_78 : decode cX9_findCrossed 78 = .ok (.iconst (-1), 1) := by decide +kernel
theorem dX9_findCrossed_79 : decode cX9_findCrossed 79 = .ok (.ixor, 1) := by decide +kernel
theorem dX9_findCrossed_80 : decode cX9_findCrossed 80 = .ok (.iand, 1) := by decide +kernel
theorem dX9_findCrossed_81 : decode cX9_findCrossed 81 = .ok (.ifCond .ne 25, 3) := by decide +kernel
theorem dX9_findCrossed_84 : decode cX9_findCrossed 84 = .ok (.aload_n 0, 1) := by decide +kernel
theorem dX9_findCrossed_85 : decode cX9_findCrossed 85 = .ok (.iload 5, 2) := by decide +kernel
theorem dX9_findCrossed_87 : decode cX9_findCrossed 87 = .ok (.aload_n 0, 1) := by decide +kernel
theorem dX9_findCrossed_88 : decode cX9_findCrossed 88 = .ok (.getfield 21, 3) := by decide +kernel
theorem dX9_findCrossed_91 : decode cX9_findCrossed 91 = .ok (.iload_n 1, 1) := by decide +kernel
theorem dX9_findCrossed_92 : decode cX9_findCrossed 92 = .ok (.aaload, 1) := by decide +kernel
theorem dX9_findCrossed_93 : decode cX9_findCrossed 93 = .ok (.iload 4, 2) := by decide +kernel
theorem dX9_findCrossed_95 : decode cX9_findCrossed 95 = .ok (.laload, 1) := by decide +kernel
theorem dX9_findCrossed_96 : decode cX9_findCrossed 96 = .ok (.invokevirtual 314, 3) := by decide +kernel
theorem dX9_findCrossed_99 : decode cX9_findCrossed 99 = .ok (.ifCond .eq 7, 3) := by decide +kernel
theorem dX9_findCrossed_102 : decode cX9_findCrossed 102 = .ok (.iconst 1, 1) := by decide +kernel
theorem dX9_findCrossed_103 : decode cX9_findCrossed 103 = .ok (.goto 4, 3) := by decide +kernel
theorem dX9_findCrossed_106 : decode cX9_findCrossed 106 = .ok (.iconst 0, 1) := by decide +kernel
theorem dX9_findCrossed_107 : decode cX9_findCrossed 107 = .ok (.istore 6, 2) := by decide +kernel
theorem dX9_findCrossed_109 : decode cX9_findCrossed 109 = .ok (.iload 5, 2) := by decide +kernel
theorem dX9_findCrossed_111 : decode cX9_findCrossed 111 = .ok (.istore 7, 2) := by decide +kernel
theorem dX9_findCrossed_113 : decode cX9_findCrossed 113 = .ok (.iload 7, 2) := by decide +kernel
theorem dX9_findCrossed_115 : decode cX9_findCrossed 115 = .ok (.iload_n 3, 1) := by decide +kernel
theorem dX9_findCrossed_116 : decode cX9_findCrossed 116 = .ok (.if_icmp .gt 58, 3) := by decide +kernel
theorem dX9_findCrossed_119 : decode cX9_findCrossed 119 = .ok (.iload 6, 2) := by decide +kernel
theorem dX9_findCrossed_121 : decode cX9_findCrossed 121 = .ok (.ifCond .eq 53, 3) := by decide +kernel
theorem dX9_findCrossed_124 : decode cX9_findCrossed 124 = .ok (.aload_n 0, 1) := by decide +kernel
theorem dX9_findCrossed_125 : decode cX9_findCrossed 125 = .ok (.getfield 90, 3) := by decide +kernel
theorem dX9_findCrossed_128 : decode cX9_findCrossed 128 = .ok (.iload 4, 2) := by decide +kernel
theorem dX9_findCrossed_130 : decode cX9_findCrossed 130 = .ok (.aaload, 1) := by decide +kernel
theorem dX9_findCrossed_131 : decode cX9_findCrossed 131 = .ok (.iload 7, 2) := by decide +kernel
theorem dX9_findCrossed_133 : decode cX9_findCrossed 133 = .ok (.dup2, 1) := by decide +kernel
theorem dX9_findCrossed_134 : decode cX9_findCrossed 134 = .ok (.iaload, 1) := by decide +kernel
theorem dX9_findCrossed_135 : decode cX9_findCrossed 135 = .ok (.iload 5, 2) := by decide +kernel
theorem dX9_findCrossed_137 : decode cX9_findCrossed 137 = .ok (.iload 7, 2) := by decide +kernel
theorem dX9_findCrossed_139 : decode cX9_findCrossed 139 = .ok (.iconst (-1), 1) := by decide +kernel
theorem dX9_findCrossed_140 : decode cX9_findCrossed 140 = .ok (.ixor, 1) := by decide +kernel
theorem dX9_findCrossed_141 : decode cX9_findCrossed 141 = .ok (.iand, 1) := by decide +kernel
theorem dX9_findCrossed_142 : decode cX9_findCrossed 142 = .ok (.ifCond .ne 23, 3) := by decide +kernel
theorem dX9_findCrossed_145 : decode cX9_findCrossed 145 = .ok (.aload_n 0, 1) := by decide +kernel
theorem dX9_findCrossed_146 : decode cX9_findCrossed 146 = .ok (.getfield 90, 3) := by decide +kernel
theorem dX9_findCrossed_149 : decode cX9_findCrossed 149 = .ok (.iload 4, 2) := by decide +kernel
theorem dX9_findCrossed_151 : decode cX9_findCrossed 151 = .ok (.iconst 1, 1) := by decide +kernel
theorem dX9_findCrossed_152 : decode cX9_findCrossed 152 = .ok (.iadd, 1) := by decide +kernel
theorem dX9_findCrossed_153 : decode cX9_findCrossed 153 = .ok (.aaload, 1) := by decide +kernel
theorem dX9_findCrossed_154 : decode cX9_findCrossed 154 = .ok (.iload 7, 2) := by decide +kernel
theorem dX9_findCrossed_156 : decode cX9_findCrossed 156 = .ok (.iload 5, 2) := by decide +kernel
theorem dX9_findCrossed_158 : decode cX9_findCrossed 158 = .ok (.iconst (-1), 1) := by decide +kernel
theorem dX9_findCrossed_159 : decode cX9_findCrossed 159 = .ok (.ixor, 1) := by decide +kernel
theorem dX9_findCrossed_160 : decode cX9_findCrossed 160 = .ok (.iand, 1) := by decide +kernel
theorem dX9_findCrossed_161 : decode cX9_findCrossed 161 = .ok (.iaload, 1) := by decide +kernel
theorem dX9_findCrossed_162 : decode cX9_findCrossed 162 = .ok (.goto 4, 3) := by decide +kernel
theorem dX9_findCrossed_165 : decode cX9_findCrossed 165 = .ok (.iconst 0, 1) := by decide +kernel
theorem dX9_findCrossed_166 : decode cX9_findCrossed 166 = .ok (.iadd, 1) := by decide +kernel
theorem dX9_findCrossed_167 : decode cX9_findCrossed 167 = .ok (.iastore, 1) := by decide +kernel
theorem dX9_findCrossed_168 : decode cX9_findCrossed 168 = .ok (.iinc 7 1, 3) := by decide +kernel
theorem dX9_findCrossed_171 : decode cX9_findCrossed 171 = .ok (.goto (-58), 3) := by decide +kernel
theorem dX9_findCrossed_174 : decode cX9_findCrossed 174 = .ok (.iinc 5 1, 3) := by decide +kernel
theorem dX9_findCrossed_177 : decode cX9_findCrossed 177 = .ok (.goto (-108), 3) := by decide +kernel
theorem dX9_findCrossed_180 : decode cX9_findCrossed 180 = .ok (.iinc 4 (-1), 3) := by decide +kernel
theorem dX9_findCrossed_183 : decode cX9_findCrossed 183 = .ok (.goto (-148), 3) := by decide +kernel
theorem dX9_findCrossed_186 : decode cX9_findCrossed 186 = .ok (.return_, 1) := by decide +kernel
set_option maxRecDepth 20000 in
theorem ggX9_crossed_X9_in : GoodIn wsX9_crossed wsX9_in := goodIn_r _ [6] (by decide +kernel) (by decide +kernel)
set_option maxRecDepth 20000 in
theorem gX9_crossed_X9_in : GoodIn wsX9_crossed (va_wsS RX9 96 yX9_in wsX9_in) := goodIn_app (goodIn_of _ (by decide +kernel)) ggX9_crossed_X9_in
set_option maxRecDepth 20000 in
theorem ggX9_crossed_X9_noTold : GoodIn wsX9_crossed wsX9_noTold := goodIn_r _ [10, 11, 12, 3, 4, 5, 6, 13, 14, 15, 16, 17, 18, 19, 20, 21, 22, 68, 69, 70, 71, 72, 73, 74, 75, 76, 77, 78, 79, 80, 81, 82, 83, 84, 85, 86, 87, 88, 89, 90, 91, 92, 93, 94, 95, 96, 97, 98, 99, 100, 101, 102, 103, 104, 105, 106, 107, 108, 109] (by decide +kernel) (by decide +kernel)
set_option maxRecDepth 20000 in
theorem gX9_crossed_X9_noTold : GoodIn wsX9_crossed (wsV RX9 318 RX9 yX9_noTold wsX9_noTold) := goodIn_app (goodIn_of _ (by decide +kernel)) ggX9_crossed_X9_noTold
set_option maxRecDepth 20000 in
theorem ggX9_crossed_X9_findCrossed : GoodIn wsX9_crossed wsX9_findCrossed := goodIn_r _ [26, 1, 2, 27, 28, 29, 5, 30, 31, 32, 33, 34, 35, 36, 37, 38, 39, 40, 41, 42, 43, 44, 45, 46, 47, 48, 49, 50, 51, 52, 53, 54, 55, 3, 4, 6, 56, 57, 58, 59, 60, 61, 62, 63, 64, 65, 66, 67, 68, 69, 70, 71, 72, 73, 74, 75, 76, 77, 78, 79, 80, 81, 82, 83, 84, 85, 86, 87, 88, 89, 90, 91, 92, 93, 94, 95, 96, 97, 98, 99, 100, 101, 102, 103, 104, 105, 106, 107, 108, 109] (by decide +kernel) (by decide +kernel)
set_option maxRecDepth 20000 in
theorem gX9_crossed_X9_findCrossed : GoodIn wsX9_crossed (wsV RX9 322 RX9 yX9_findCrossed wsX9_findCrossed) := goodIn_app (goodIn_of _ (by decide +kernel)) ggX9_crossed_X9_findCrossed
set_option maxRecDepth 20000 in
theorem ggX9_crossed_X9_waitingBits : GoodIn wsX9_crossed wsX9_waitingBits := goodIn_r _ [30, 31, 32, 68, 69, 70, 71, 72, 73, 74, 75, 76, 77, 78, 79, 80, 81, 82, 83, 84, 85, 86, 87, 88, 89, 90, 91, 92, 93, 94, 95, 96, 97, 98, 99, 100, 101, 102, 103, 104, 105, 106, 107, 108, 109] (by decide +kernel) (by decide +kernel)
set_option maxRecDepth 20000 in
theorem gX9_crossed_X9_waitingBits : GoodIn wsX9_crossed (wsV RX9 293 RX9 yX9_waitingBits wsX9_waitingBits) := goodIn_app (goodIn_of _ (by decide +kernel)) ggX9_crossed_X9_waitingBits
set_option maxRecDepth 20000 in
theorem ggX9_crossed_X9_isAboard : GoodIn wsX9_crossed wsX9_isAboard := goodIn_r _ [36, 37, 38, 39, 40, 5, 41, 32, 31, 42, 43, 44, 45, 46, 47, 48, 49, 50, 51, 52, 53, 54, 55, 3, 4, 6, 56, 57, 58, 59, 60, 61, 62, 63, 64, 65, 66, 67, 68, 69, 70, 71, 72, 73, 74, 75, 76, 77, 78, 79, 80, 81, 82, 83, 84, 85, 86, 87, 88, 89, 90, 91, 92, 93, 94, 95, 96, 97, 98, 99, 100, 101, 102, 103, 104, 105, 106, 107, 108, 109] (by decide +kernel) (by decide +kernel)
set_option maxRecDepth 20000 in
theorem gX9_crossed_X9_isAboard : GoodIn wsX9_crossed (wsV RX9 314 RX9 yX9_isAboard wsX9_isAboard) := goodIn_app (goodIn_of _ (by decide +kernel)) ggX9_crossed_X9_isAboard
theorem dX9_crossed_0 : decode cX9_crossed 0 = .ok (.aload_n 0, 1) := by decide +kernel
theorem dX9_crossed_1 : decode cX9_crossed 1 = .ok (.iload_n 1, 1) := by decide +kernel
theorem dX9_crossed_2 : decode cX9_crossed 2 = .ok (.iload_n 2, 1) := by decide +kernel
theorem dX9_crossed_3 : decode cX9_crossed 3 = .ok (.bipush 8, 2) := by decide +kernel
theorem dX9_crossed_5 : decode cX9_crossed 5 = .ok (.iload_n 3, 1) := by decide +kernel
theorem dX9_crossed_6 : decode cX9_crossed 6 = .ok (.i2l, 1) := by decide +kernel
theorem dX9_crossed_7 : decode cX9_crossed 7 = .ok (.lconst 0, 1) := by decide +kernel
theorem dX9_crossed_8 : decode cX9_crossed 8 = .ok (.lconst 1, 1) := by decide +kernel
theorem dX9_crossed_9 : decode cX9_crossed 9 = .ok (.invokestatic 96, 3) := by decide +kernel
theorem dX9_crossed_12 : decode cX9_crossed 12 = .ok (.invokevirtual 318, 3) := by decide +kernel
theorem dX9_crossed_15 : decode cX9_crossed 15 = .ok (.istore 4, 2) := by decide +kernel
theorem dX9_crossed_17 : decode cX9_crossed 17 = .ok (.iload 4, 2) := by decide +kernel
theorem dX9_crossed_19 : decode cX9_crossed 19 = .ok (.ifCond .eq 6, 3) := by decide +kernel
theorem dX9_crossed_22 : decode cX9_crossed 22 = .ok (.iload 4, 2) := by decide +kernel
theorem dX9_crossed_24 : decode cX9_crossed 24 = .ok (.ireturn, 1) := by decide +kernel
theorem dX9_crossed_25 : decode cX9_crossed 25 = .ok (.aload_n 0, 1) := by decide +kernel
theorem dX9_crossed_26 : decode cX9_crossed 26 = .ok (.iload_n 1, 1) := by decide +kernel
theorem dX9_crossed_27 : decode cX9_crossed 27 = .ok (.iload_n 2, 1) := by decide +kernel
theorem dX9_crossed_28 : decode cX9_crossed 28 = .ok (.invokevirtual 322, 3) := by decide +kernel
theorem dX9_crossed_31 : decode cX9_crossed 31 = .ok (.aload_n 0, 1) := by decide +kernel
theorem dX9_crossed_32 : decode cX9_crossed 32 = .ok (.invokevirtual 293, 3) := by decide +kernel
theorem dX9_crossed_35 : decode cX9_crossed 35 = .ok (.istore 5, 2) := by decide +kernel
theorem dX9_crossed_37 : decode cX9_crossed 37 = .ok (.iload_n 3, 1) := by decide +kernel
theorem dX9_crossed_38 : decode cX9_crossed 38 = .ok (.ifCond .ne 13, 3) := by decide +kernel
theorem dX9_crossed_41 : decode cX9_crossed 41 = .ok (.aload_n 0, 1) := by decide +kernel
theorem dX9_crossed_42 : decode cX9_crossed 42 = .ok (.getfield 90, 3) := by decide +kernel
theorem dX9_crossed_45 : decode cX9_crossed 45 = .ok (.iconst 0, 1) := by decide +kernel
theorem dX9_crossed_46 : decode cX9_crossed 46 = .ok (.aaload, 1) := by decide +kernel
theorem dX9_crossed_47 : decode cX9_crossed 47 = .ok (.iload 5, 2) := by decide +kernel
theorem dX9_crossed_49 : decode cX9_crossed 49 = .ok (.iaload, 1) := by decide +kernel
theorem dX9_crossed_50 : decode cX9_crossed 50 = .ok (.ireturn, 1) := by decide +kernel
theorem dX9_crossed_51 : decode cX9_crossed 51 = .ok (.iconst 1, 1) := by decide +kernel
theorem dX9_crossed_52 : decode cX9_crossed 52 = .ok (.istore 6, 2) := by decide +kernel
theorem dX9_crossed_54 : decode cX9_crossed 54 = .ok (.iload 6, 2) := by decide +kernel
theorem dX9_crossed_56 : decode cX9_crossed 56 = .ok (.iload 5, 2) := by decide +kernel
theorem dX9_crossed_58 : decode cX9_crossed 58 = .ok (.if_icmp .gt 72, 3) := by decide +kernel
theorem dX9_crossed_61 : decode cX9_crossed 61 = .ok (.iload_n 2, 1) := by decide +kernel
theorem dX9_crossed_62 : decode cX9_crossed 62 = .ok (.ifCond .le 68, 3) := by decide +kernel
theorem dX9_crossed_65 : decode cX9_crossed 65 = .ok (.iload 6, 2) := by decide +kernel
theorem dX9_crossed_67 : decode cX9_crossed 67 = .ok (.iload 5, 2) := by decide +kernel
theorem dX9_crossed_69 : decode cX9_crossed 69 = .ok (.iconst (-1), 1) := by decide +kernel
theorem dX9_crossed_70 : decode cX9_crossed 70 = .ok (.ixor, 1) := by decide +kernel
theorem dX9_crossed_71 : decode cX9_crossed 71 = .ok (.iand, 1) := by decide +kernel
theorem dX9_crossed_72 : decode cX9_crossed 72 = .ok (.ifCond .ne 24, 3) := by decide +kernel
theorem dX9_crossed_75 : decode cX9_crossed 75 = .ok (.aload_n 0, 1) := by decide +kernel
theorem dX9_crossed_76 : decode cX9_crossed 76 = .ok (.iload 6, 2) := by decide +kernel
theorem dX9_crossed_78 : decode cX9_crossed 78 = .ok (.aload_n 0, 1) := by decide +kernel
theorem dX9_crossed_79 : decode cX9_crossed 79 = .ok (.getfield 21, 3) := by decide +kernel
theorem dX9_crossed_82 : decode cX9_crossed 82 = .ok (.iload_n 1, 1) := by decide +kernel
theorem dX9_crossed_83 : decode cX9_crossed 83 = .ok (.aaload, 1) := by decide +kernel
theorem dX9_crossed_84 : decode cX9_crossed 84 = .ok (.iconst 0, 1) := by decide +kernel
theorem dX9_crossed_85 : decode cX9_crossed 85 = .ok (.laload, 1) := by decide +kernel
theorem dX9_crossed_86 : decode cX9_crossed 86 = .ok (.invokevirtual 314, 3) := by decide +kernel
theorem dX9_crossed_89 : decode cX9_crossed 89 = .ok (.ifCond .eq 7, 3) := by decide +kernel
theorem dX9_crossed_92 : decode cX9_crossed 92 = .ok (.iconst 1, 1) := by decide +kernel
theorem dX9_crossed_93 : decode cX9_crossed 93 = .ok (.goto 4, 3) := by decide +kernel
theorem dX9_crossed_96 : decode cX9_crossed 96 = .ok (.iconst 0, 1) := by decide +kernel
theorem dX9_crossed_97 : decode cX9_crossed 97 = .ok (.istore 7, 2) := by decide +kernel
theorem dX9_crossed_99 : decode cX9_crossed 99 = .ok (.iload 7, 2) := by decide +kernel
theorem dX9_crossed_101 : decode cX9_crossed 101 = .ok (.ifCond .eq 23, 3) := by decide +kernel
theorem dX9_crossed_104 : decode cX9_crossed 104 = .ok (.aload_n 0, 1) := by decide +kernel
theorem dX9_crossed_105 : decode cX9_crossed 105 = .ok (.getfield 90, 3) := by decide +kernel
theorem dX9_crossed_108 : decode cX9_crossed 108 = .ok (.iconst 1, 1) := by decide +kernel
theorem dX9_crossed_109 : decode cX9_crossed 109 = .ok (.aaload, 1) := by decide +kernel
theorem dX9_crossed_110 : decode cX9_crossed 110 = .ok (.iload 5, 2) := by decide +kernel
theorem dX9_crossed_112 : decode cX9_crossed 112 = .ok (.iload 6, 2) := by decide +kernel
theorem dX9_crossed_114 : decode cX9_crossed 114 = .ok (.iconst (-1), 1) := by decide +kernel
theorem dX9_crossed_115 : decode cX9_crossed 115 = .ok (.ixor, 1) := by decide +kernel
theorem dX9_crossed_116 : decode cX9_crossed 116 = .ok (.iand, 1) := by decide +kernel
theorem dX9_crossed_117 : decode cX9_crossed 117 = .ok (.iaload, 1) := by decide +kernel
theorem dX9_crossed_118 : decode cX9_crossed 118 = .ok (.ifCond .le 6, 3) := by decide +kernel
theorem dX9_crossed_121 : decode cX9_crossed 121 = .ok (.iload 6, 2) := by decide +kernel
theorem dX9_crossed_123 : decode cX9_crossed 123 = .ok (.ireturn, 1) := by decide +kernel
theorem dX9_crossed_124 : decode cX9_crossed 124 = .ok (.iinc 6 1, 3) := by decide +kernel
theorem dX9_crossed_127 : decode cX9_crossed 127 = .ok (.goto (-73), 3) := by decide +kernel
theorem dX9_crossed_130 : decode cX9_crossed 130 = .ok (.iconst (-1), 1) := by decide +kernel
theorem dX9_crossed_131 : decode cX9_crossed 131 = .ok (.ireturn, 1) := by decide +kernel
set_option maxRecDepth 20000 in
theorem ggX9_goesAsTold_X9_isGroup : GoodIn wsX9_goesAsTold wsX9_isGroup := goodIn_r _ [9, 10, 11, 12, 8, 13, 53, 54, 55, 56, 57, 58, 59, 60, 61, 62, 63, 64, 65, 66, 67, 68, 69, 70, 71, 72, 73, 74, 75, 76, 77, 78, 79, 80, 81, 82, 83, 84, 85, 86, 87, 88, 89, 90, 91, 92, 93, 94] (by decide +kernel) (by decide +kernel)
set_option maxRecDepth 20000 in
theorem gX9_goesAsTold_X9_isGroup : GoodIn wsX9_goesAsTold (wsV RX9 281 RX9 yX9_isGroup wsX9_isGroup) := goodIn_app (goodIn_of _ (by decide +kernel)) ggX9_goesAsTold_X9_isGroup
set_option maxRecDepth 20000 in
theorem ggX9_goesAsTold_X9_hireOf : GoodIn wsX9_goesAsTold wsX9_hireOf := goodIn_r _ [17, 18, 19, 20, 21, 8, 22, 23, 24, 25, 26, 4, 10, 27, 28, 29, 30, 31, 32, 33, 34, 35, 36, 37, 38, 39, 40, 41, 42, 43, 44, 45, 46, 11, 12, 13, 47, 48, 49, 50, 51, 52, 53, 54, 55, 56, 57, 58, 59, 60, 61, 62, 63, 64, 65, 66, 67, 68, 69, 70, 71, 72, 73, 74, 75, 76, 77, 78, 79, 80, 81, 82, 83, 84, 85, 86, 87, 88, 89, 90, 91, 92, 93, 94] (by decide +kernel) (by decide +kernel)
set_option maxRecDepth 20000 in
theorem gX9_goesAsTold_X9_hireOf : GoodIn wsX9_goesAsTold (wsV RX9 284 RX9 yX9_hireOf wsX9_hireOf) := goodIn_app (goodIn_of _ (by decide +kernel)) ggX9_goesAsTold_X9_hireOf
theorem dX9_goesAsTold_0 : decode cX9_goesAsTold 0 = .ok (.aload_n 0, 1) := by decide +kernel
theorem dX9_goesAsTold_1 : decode cX9_goesAsTold 1 = .ok (.iconst (-1), 1) := by decide +kernel
theorem dX9_goesAsTold_2 : decode cX9_goesAsTold 2 = .ok (.putfield 325, 3) := by decide +kernel
theorem dX9_goesAsTold_5 : decode cX9_goesAsTold 5 = .ok (.aload_n 0, 1) := by decide +kernel
theorem dX9_goesAsTold_6 : decode cX9_goesAsTold 6 = .ok (.iconst 0, 1) := by decide +kernel
theorem dX9_goesAsTold_7 : decode cX9_goesAsTold 7 = .ok (.putfield 328, 3) := by decide +kernel
theorem dX9_goesAsTold_10 : decode cX9_goesAsTold 10 = .ok (.iconst 0, 1) := by decide +kernel
theorem dX9_goesAsTold_11 : decode cX9_goesAsTold 11 = .ok (.istore_n 3, 1) := by decide +kernel
theorem dX9_goesAsTold_12 : decode cX9_goesAsTold 12 = .ok (.iload_n 3, 1) := by decide +kernel
theorem dX9_goesAsTold_13 : decode cX9_goesAsTold 13 = .ok (.iload_n 2, 1) := by decide +kernel
theorem dX9_goesAsTold_14 : decode cX9_goesAsTold 14 = .ok (.if_icmp .ge 115, 3) := by decide +kernel
theorem dX9_goesAsTold_17 : decode cX9_goesAsTold 17 = .ok (.aload_n 0, 1) := by decide +kernel
theorem dX9_goesAsTold_18 : decode cX9_goesAsTold 18 = .ok (.getfield 325, 3) := by decide +kernel
theorem dX9_goesAsTold_21 : decode cX9_goesAsTold 21 = .ok (.iconst (-1), 1) := by decide +kernel
theorem dX9_goesAsTold_22 : decode cX9_goesAsTold 22 = .ok (.if_icmp .ne 107, 3) := by decide +kernel
theorem dX9_goesAsTold_25 : decode cX9_goesAsTold 25 = .ok (.aload_n 0, 1) := by decide +kernel
theorem dX9_goesAsTold_26 : decode cX9_goesAsTold 26 = .ok (.aload_n 0, 1) := by decide +kernel
theorem dX9_goesAsTold_27 : decode cX9_goesAsTold 27 = .ok (.getfield 21, 3) := by decide +kernel
theorem dX9_goesAsTold_30 : decode cX9_goesAsTold 30 = .ok (.iload_n 1, 1) := by decide +kernel
theorem dX9_goesAsTold_31 : decode cX9_goesAsTold 31 = .ok (.aaload, 1) := by decide +kernel
theorem dX9_goesAsTold_32 : decode cX9_goesAsTold 32 = .ok (.iload_n 3, 1) := by decide +kernel
theorem dX9_goesAsTold_33 : decode cX9_goesAsTold 33 = .ok (.laload, 1) := by decide +kernel
theorem dX9_goesAsTold_34 : decode cX9_goesAsTold 34 = .ok (.invokevirtual 281, 3) := by decide +kernel
theorem dX9_goesAsTold_37 : decode cX9_goesAsTold 37 = .ok (.ifCond .eq 19, 3) := by decide +kernel
theorem dX9_goesAsTold_40 : decode cX9_goesAsTold 40 = .ok (.aload_n 0, 1) := by decide +kernel
theorem dX9_goesAsTold_41 : decode cX9_goesAsTold 41 = .ok (.aload_n 0, 1) := by decide +kernel
theorem dX9_goesAsTold_42 : decode cX9_goesAsTold 42 = .ok (.getfield 21, 3) := by decide +kernel
theorem dX9_goesAsTold_45 : decode cX9_goesAsTold 45 = .ok (.iload_n 1, 1) := by decide +kernel
theorem dX9_goesAsTold_46 : decode cX9_goesAsTold 46 = .ok (.aaload, 1) := by decide +kernel
theorem dX9_goesAsTold_47 : decode cX9_goesAsTold 47 = .ok (.iload_n 3, 1) := by decide +kernel
theorem dX9_goesAsTold_48 : decode cX9_goesAsTold 48 = .ok (.laload, 1) := by decide +kernel
theorem dX9_goesAsTold_49 : decode cX9_goesAsTold 49 = .ok (.l2i, 1) := by decide +kernel
theorem dX9_goesAsTold_50 : decode cX9_goesAsTold 50 = .ok (.invokevirtual 284, 3) := by decide +kernel
theorem dX9_goesAsTold_53 : decode cX9_goesAsTold 53 = .ok (.goto 4, 3) := by decide +kernel
theorem dX9_goesAsTold_56 : decode cX9_goesAsTold 56 = .ok (.iconst (-1), 1) := by decide +kernel
theorem dX9_goesAsTold_57 : decode cX9_goesAsTold 57 = .ok (.istore 4, 2) := by decide +kernel
theorem dX9_goesAsTold_59 : decode cX9_goesAsTold 59 = .ok (.aload_n 0, 1) := by decide +kernel
theorem dX9_goesAsTold_60 : decode cX9_goesAsTold 60 = .ok (.iload 4, 2) := by decide +kernel
theorem dX9_goesAsTold_62 : decode cX9_goesAsTold 62 = .ok (.iconst (-1), 1) := by decide +kernel
theorem dX9_goesAsTold_63 : decode cX9_goesAsTold 63 = .ok (.if_icmp .ne 7, 3) := by decide +kernel
theorem dX9_goesAsTold_66 : decode cX9_goesAsTold 66 = .ok (.iload_n 3, 1) := by decide +kernel
theorem dX9_goesAsTold_67 : decode cX9_goesAsTold 67 = .ok (.goto 4, 3) := by decide +kernel
theorem dX9_goesAsTold_70 : decode cX9_goesAsTold 70 = .ok (.iconst (-1), 1) := by decide +kernel
theorem dX9_goesAsTold_71 : decode cX9_goesAsTold 71 = .ok (.putfield 325, 3) := by decide +kernel
theorem dX9_goesAsTold_74 : decode cX9_goesAsTold 74 = .ok (.aload_n 0, 1) := by decide +kernel
theorem dX9_goesAsTold_75 : decode cX9_goesAsTold 75 = .ok (.dup, 1) := by decide +kernel
theorem dX9_goesAsTold_76 : decode cX9_goesAsTold 76 = .ok (.getfield 328, 3) := by decide +kernel
theorem dX9_goesAsTold_79 : decode cX9_goesAsTold 79 = .ok (.iload 4, 2) := by decide +kernel
theorem dX9_goesAsTold_81 : decode cX9_goesAsTold 81 = .ok (.iconst (-1), 1) := by decide +kernel
theorem dX9_goesAsTold_82 : decode cX9_goesAsTold 82 = .ok (.if_icmp .ne 7, 3) := by decide +kernel
theorem dX9_goesAsTold_85 : decode cX9_goesAsTold 85 = .ok (.iconst 0, 1) := by decide +kernel
theorem dX9_goesAsTold_86 : decode cX9_goesAsTold 86 = .ok (.goto 5, 3) := by decide +kernel
theorem dX9_goesAsTold_89 : decode cX9_goesAsTold 89 = .ok (.iload 4, 2) := by decide +kernel
theorem dX9_goesAsTold_91 : decode cX9_goesAsTold 91 = .ok (.iadd, 1) := by decide +kernel
theorem dX9_goesAsTold_92 : decode cX9_goesAsTold 92 = .ok (.putfield 328, 3) := by decide +kernel
theorem dX9_goesAsTold_95 : decode cX9_goesAsTold 95 = .ok (.aload_n 0, 1) := by decide +kernel
theorem dX9_goesAsTold_96 : decode cX9_goesAsTold 96 = .ok (.dup, 1) := by decide +kernel
theorem dX9_goesAsTold_97 : decode cX9_goesAsTold 97 = .ok (.getfield 100, 3) := by decide +kernel
theorem dX9_goesAsTold_100 : decode cX9_goesAsTold 100 = .ok (.iload 4, 2) := by decide +kernel
theorem dX9_goesAsTold_102 : decode cX9_goesAsTold 102 = .ok (.iconst (-1), 1) := by decide +kernel
theorem dX9_goesAsTold_103 : decode cX9_goesAsTold 103 = .ok (.if_icmp .ne 7, 3) := by decide +kernel
theorem dX9_goesAsTold_106 : decode cX9_goesAsTold 106 = .ok (.iconst 0, 1) := by decide +kernel
theorem dX9_goesAsTold_107 : decode cX9_goesAsTold 107 = .ok (.goto 12, 3) := by decide +kernel
theorem dX9_goesAsTold_110 : decode cX9_goesAsTold 110 = .ok (.aload_n 0, 1) := by decide +kernel
theorem dX9_goesAsTold_111 : decode cX9_goesAsTold 111 = .ok (.getfield 21, 3) := by decide +kernel
theorem dX9_goesAsTold_114 : decode cX9_goesAsTold 114 = .ok (.iload_n 1, 1) := by decide +kernel
theorem dX9_goesAsTold_115 : decode cX9_goesAsTold 115 = .ok (.aaload, 1) := by decide +kernel
theorem dX9_goesAsTold_116 : decode cX9_goesAsTold 116 = .ok (.iload_n 3, 1) := by decide +kernel
theorem dX9_goesAsTold_117 : decode cX9_goesAsTold 117 = .ok (.laload, 1) := by decide +kernel
theorem dX9_goesAsTold_118 : decode cX9_goesAsTold 118 = .ok (.l2i, 1) := by decide +kernel
theorem dX9_goesAsTold_119 : decode cX9_goesAsTold 119 = .ok (.ior, 1) := by decide +kernel
theorem dX9_goesAsTold_120 : decode cX9_goesAsTold 120 = .ok (.putfield 100, 3) := by decide +kernel
theorem dX9_goesAsTold_123 : decode cX9_goesAsTold 123 = .ok (.iinc 3 1, 3) := by decide +kernel
theorem dX9_goesAsTold_126 : decode cX9_goesAsTold 126 = .ok (.goto (-114), 3) := by decide +kernel
theorem dX9_goesAsTold_129 : decode cX9_goesAsTold 129 = .ok (.return_, 1) := by decide +kernel
set_option maxRecDepth 20000 in
theorem ggX9_judge_X9_noTold : GoodIn wsX9_judge wsX9_noTold := goodIn_r _ [7, 8, 9, 10, 11, 6, 12, 13, 14, 15, 16, 17, 18, 19, 20, 21, 22, 73, 74, 75, 76, 77, 78, 79, 80, 81, 82, 83, 84, 85, 86, 87, 88, 89, 90, 91, 92, 93, 94, 95, 96, 97, 98, 99, 100, 101, 102, 103, 104, 105, 106, 107, 108, 109, 110, 111, 112, 113, 114] (by decide +kernel) (by decide +kernel)
set_option maxRecDepth 20000 in
theorem gX9_judge_X9_noTold : GoodIn wsX9_judge (wsV RX9 318 RX9 yX9_noTold wsX9_noTold) := goodIn_app (goodIn_of _ (by decide +kernel)) ggX9_judge_X9_noTold
set_option maxRecDepth 20000 in
theorem ggX9_judge_X9_goesAsTold : GoodIn wsX9_judge wsX9_goesAsTold := goodIn_r _ [26, 2, 27, 28, 1, 29, 30, 31, 6, 32, 33, 10, 11, 12, 34, 35, 36, 37, 38, 39, 40, 41, 42, 43, 44, 45, 46, 47, 48, 49, 50, 51, 52, 53, 54, 55, 56, 57, 58, 59, 60, 61, 62, 63, 64, 65, 66, 67, 68, 69, 70, 71, 72, 73, 74, 75, 76, 77, 78, 79, 80, 81, 82, 83, 84, 85, 86, 87, 88, 89, 90, 91, 92, 93, 94, 95, 96, 97, 98, 99, 100, 101, 102, 103, 104, 105, 106, 107, 108, 109, 110, 111, 112, 113, 114] (by decide +kernel) (by decide +kernel)
set_option maxRecDepth 20000 in
theorem gX9_judge_X9_goesAsTold : GoodIn wsX9_judge (wsV RX9 331 RX9 yX9_goesAsTold wsX9_goesAsTold) := goodIn_app (goodIn_of _ (by decide +kernel)) ggX9_judge_X9_goesAsTold
theorem dX9_judge_0 : decode cX9_judge 0 = .ok (.aload_n 0, 1) := by decide +kernel
theorem dX9_judge_1 : decode cX9_judge 1 = .ok (.iload_n 1, 1) := by decide +kernel
theorem dX9_judge_2 : decode cX9_judge 2 = .ok (.iload_n 2, 1) := by decide +kernel
theorem dX9_judge_3 : decode cX9_judge 3 = .ok (.bipush 40, 2) := by decide +kernel
theorem dX9_judge_5 : decode cX9_judge 5 = .ok (.iconst 1, 1) := by decide +kernel
theorem dX9_judge_6 : decode cX9_judge 6 = .ok (.invokevirtual 318, 3) := by decide +kernel
theorem dX9_judge_9 : decode cX9_judge 9 = .ok (.istore_n 3, 1) := by decide +kernel
theorem dX9_judge_10 : decode cX9_judge 10 = .ok (.iload_n 3, 1) := by decide +kernel
theorem dX9_judge_11 : decode cX9_judge 11 = .ok (.ifCond .eq 5, 3) := by decide +kernel
theorem dX9_judge_14 : decode cX9_judge 14 = .ok (.iload_n 3, 1) := by decide +kernel
theorem dX9_judge_15 : decode cX9_judge 15 = .ok (.ireturn, 1) := by decide +kernel
theorem dX9_judge_16 : decode cX9_judge 16 = .ok (.aload_n 0, 1) := by decide +kernel
theorem dX9_judge_17 : decode cX9_judge 17 = .ok (.getfield 100, 3) := by decide +kernel
theorem dX9_judge_20 : decode cX9_judge 20 = .ok (.istore 4, 2) := by decide +kernel
theorem dX9_judge_22 : decode cX9_judge 22 = .ok (.aload_n 0, 1) := by decide +kernel
theorem dX9_judge_23 : decode cX9_judge 23 = .ok (.iload_n 1, 1) := by decide +kernel
theorem dX9_judge_24 : decode cX9_judge 24 = .ok (.iload_n 2, 1) := by decide +kernel
theorem dX9_judge_25 : decode cX9_judge 25 = .ok (.invokevirtual 331, 3) := by decide +kernel
theorem dX9_judge_28 : decode cX9_judge 28 = .ok (.aload_n 0, 1) := by decide +kernel
theorem dX9_judge_29 : decode cX9_judge 29 = .ok (.iload 4, 2) := by decide +kernel
theorem dX9_judge_31 : decode cX9_judge 31 = .ok (.putfield 100, 3) := by decide +kernel
theorem dX9_judge_34 : decode cX9_judge 34 = .ok (.aload_n 0, 1) := by decide +kernel
theorem dX9_judge_35 : decode cX9_judge 35 = .ok (.getfield 325, 3) := by decide +kernel
theorem dX9_judge_38 : decode cX9_judge 38 = .ok (.ireturn, 1) := by decide +kernel
set_option maxRecDepth 20000 in
theorem ggX9_behind_X9_in : GoodIn wsX9_behind wsX9_in := goodIn_r _ [7] (by decide +kernel) (by decide +kernel)
set_option maxRecDepth 20000 in
theorem gX9_behind_X9_in : GoodIn wsX9_behind (va_wsS RX9 96 yX9_in wsX9_in) := goodIn_app (goodIn_of _ (by decide +kernel)) ggX9_behind_X9_in
set_option maxRecDepth 20000 in
theorem ggX9_behind_X9_noTold : GoodIn wsX9_behind wsX9_noTold := goodIn_r _ [11, 12, 13, 4, 5, 6, 7, 14, 15, 16, 17, 18, 19, 20, 21, 22, 23, 73, 74, 75, 76, 77, 78, 79, 80, 81, 82, 83, 84, 85, 86, 87, 88, 89, 90, 91, 92, 93, 94, 95, 96, 97, 98, 99, 100, 101, 102, 103, 104, 105, 106, 107, 108, 109, 110, 111, 112, 113, 114] (by decide +kernel) (by decide +kernel)
set_option maxRecDepth 20000 in
theorem gX9_behind_X9_noTold : GoodIn wsX9_behind (wsV RX9 318 RX9 yX9_noTold wsX9_noTold) := goodIn_app (goodIn_of _ (by decide +kernel)) ggX9_behind_X9_noTold
set_option maxRecDepth 20000 in
theorem ggX9_behind_X9_goesAsTold : GoodIn wsX9_behind wsX9_goesAsTold := goodIn_r _ [27, 2, 3, 28, 1, 29, 30, 31, 6, 32, 33, 4, 5, 7, 34, 35, 36, 37, 38, 39, 40, 41, 42, 43, 44, 45, 46, 47, 48, 49, 50, 51, 52, 53, 54, 55, 56, 57, 58, 59, 60, 61, 62, 63, 64, 65, 66, 67, 68, 69, 70, 71, 72, 73, 74, 75, 76, 77, 78, 79, 80, 81, 82, 83, 84, 85, 86, 87, 88, 89, 90, 91, 92, 93, 94, 95, 96, 97, 98, 99, 100, 101, 102, 103, 104, 105, 106, 107, 108, 109, 110, 111, 112, 113, 114] (by decide +kernel) (by decide +kernel)
set_option maxRecDepth 20000 in
theorem gX9_behind_X9_goesAsTold : GoodIn wsX9_behind (wsV RX9 331 RX9 yX9_goesAsTold wsX9_goesAsTold) := goodIn_app (goodIn_of _ (by decide +kernel)) ggX9_behind_X9_goesAsTold
set_option maxRecDepth 20000 in
theorem ggX9_behind_X9_refuse : GoodIn wsX9_behind wsX9_refuse := goodIn_r _ [17, 18, 73, 74, 75, 76, 77, 78, 79, 80, 81, 82, 83, 84, 85, 86, 87, 88, 89, 90, 91, 92, 93, 94, 95, 96, 97, 98, 99, 100, 101, 102, 103, 104, 105, 106, 107, 108, 109, 110, 111, 112, 113, 114] (by decide +kernel) (by decide +kernel)
set_option maxRecDepth 20000 in
theorem gX9_behind_X9_refuse : GoodIn wsX9_behind (wsV RX9 109 RX9 yX9_refuse wsX9_refuse) := goodIn_app (goodIn_of _ (by decide +kernel)) ggX9_behind_X9_refuse
theorem dX9_behind_0 : decode cX9_behind 0 = .ok (.aload_n 0, 1) := by decide +kernel
theorem dX9_behind_1 : decode cX9_behind 1 = .ok (.iload_n 1, 1) := by decide +kernel
theorem dX9_behind_2 : decode cX9_behind 2 = .ok (.iload_n 2, 1) := by decide +kernel
theorem dX9_behind_3 : decode cX9_behind 3 = .ok (.bipush 40, 2) := by decide +kernel
theorem dX9_behind_5 : decode cX9_behind 5 = .ok (.iload_n 3, 1) := by decide +kernel
theorem dX9_behind_6 : decode cX9_behind 6 = .ok (.i2l, 1) := by decide +kernel
theorem dX9_behind_7 : decode cX9_behind 7 = .ok (.lconst 0, 1) := by decide +kernel
theorem dX9_behind_8 : decode cX9_behind 8 = .ok (.lconst 1, 1) := by decide +kernel
theorem dX9_behind_9 : decode cX9_behind 9 = .ok (.invokestatic 96, 3) := by decide +kernel
theorem dX9_behind_12 : decode cX9_behind 12 = .ok (.invokevirtual 318, 3) := by decide +kernel
theorem dX9_behind_15 : decode cX9_behind 15 = .ok (.istore 4, 2) := by decide +kernel
theorem dX9_behind_17 : decode cX9_behind 17 = .ok (.iload 4, 2) := by decide +kernel
theorem dX9_behind_19 : decode cX9_behind 19 = .ok (.ifCond .eq 6, 3) := by decide +kernel
theorem dX9_behind_22 : decode cX9_behind 22 = .ok (.iload 4, 2) := by decide +kernel
theorem dX9_behind_24 : decode cX9_behind 24 = .ok (.ireturn, 1) := by decide +kernel
theorem dX9_behind_25 : decode cX9_behind 25 = .ok (.aload_n 0, 1) := by decide +kernel
theorem dX9_behind_26 : decode cX9_behind 26 = .ok (.getfield 100, 3) := by decide +kernel
theorem dX9_behind_29 : decode cX9_behind 29 = .ok (.istore 5, 2) := by decide +kernel
theorem dX9_behind_31 : decode cX9_behind 31 = .ok (.aload_n 0, 1) := by decide +kernel
theorem dX9_behind_32 : decode cX9_behind 32 = .ok (.iload_n 1, 1) := by decide +kernel
theorem dX9_behind_33 : decode cX9_behind 33 = .ok (.iload_n 2, 1) := by decide +kernel
theorem dX9_behind_34 : decode cX9_behind 34 = .ok (.invokevirtual 331, 3) := by decide +kernel
theorem dX9_behind_37 : decode cX9_behind 37 = .ok (.aload_n 0, 1) := by decide +kernel
theorem dX9_behind_38 : decode cX9_behind 38 = .ok (.getfield 100, 3) := by decide +kernel
theorem dX9_behind_41 : decode cX9_behind 41 = .ok (.istore 6, 2) := by decide +kernel
theorem dX9_behind_43 : decode cX9_behind 43 = .ok (.aload_n 0, 1) := by decide +kernel
theorem dX9_behind_44 : decode cX9_behind 44 = .ok (.iload 5, 2) := by decide +kernel
theorem dX9_behind_46 : decode cX9_behind 46 = .ok (.putfield 100, 3) := by decide +kernel
theorem dX9_behind_49 : decode cX9_behind 49 = .ok (.aload_n 0, 1) := by decide +kernel
theorem dX9_behind_50 : decode cX9_behind 50 = .ok (.getfield 325, 3) := by decide +kernel
theorem dX9_behind_53 : decode cX9_behind 53 = .ok (.iconst (-1), 1) := by decide +kernel
theorem dX9_behind_54 : decode cX9_behind 54 = .ok (.if_icmp .eq 13, 3) := by decide +kernel
theorem dX9_behind_57 : decode cX9_behind 57 = .ok (.aload_n 0, 1) := by decide +kernel
theorem dX9_behind_58 : decode cX9_behind 58 = .ok (.sipush (-1005), 3) := by decide +kernel
theorem dX9_behind_61 : decode cX9_behind 61 = .ok (.invokevirtual 109, 3) := by decide +kernel
theorem dX9_behind_64 : decode cX9_behind 64 = .ok (.goto 16, 3) := by decide +kernel
theorem dX9_behind_67 : decode cX9_behind 67 = .ok (.iload_n 3, 1) := by decide +kernel
theorem dX9_behind_68 : decode cX9_behind 68 = .ok (.ifCond .ne 8, 3) := by decide +kernel
theorem dX9_behind_71 : decode cX9_behind 71 = .ok (.iload 6, 2) := by decide +kernel
theorem dX9_behind_73 : decode cX9_behind 73 = .ok (.goto 7, 3) := by decide +kernel
theorem dX9_behind_76 : decode cX9_behind 76 = .ok (.aload_n 0, 1) := by decide +kernel
theorem dX9_behind_77 : decode cX9_behind 77 = .ok (.getfield 328, 3) := by decide +kernel
theorem dX9_behind_80 : decode cX9_behind 80 = .ok (.ireturn, 1) := by decide +kernel
theorem dX9_crosses_0 : decode cX9_crosses 0 = .ok (.aload_n 0, 1) := by decide +kernel
theorem dX9_crosses_1 : decode cX9_crosses 1 = .ok (.dup, 1) := by decide +kernel
theorem dX9_crosses_2 : decode cX9_crosses 2 = .ok (.getfield 100, 3) := by decide +kernel
theorem dX9_crosses_5 : decode cX9_crosses 5 = .ok (.iload_n 1, 1) := by decide +kernel
theorem dX9_crosses_6 : decode cX9_crosses 6 = .ok (.ior, 1) := by decide +kernel
theorem dX9_crosses_7 : decode cX9_crosses 7 = .ok (.putfield 100, 3) := by decide +kernel
theorem dX9_crosses_10 : decode cX9_crosses 10 = .ok (.aload_n 0, 1) := by decide +kernel
theorem dX9_crosses_11 : decode cX9_crosses 11 = .ok (.dup, 1) := by decide +kernel
theorem dX9_crosses_12 : decode cX9_crosses 12 = .ok (.getfield 334, 3) := by decide +kernel
theorem dX9_crosses_15 : decode cX9_crosses 15 = .ok (.iconst 1, 1) := by decide +kernel
theorem dX9_crosses_16 : decode cX9_crosses 16 = .ok (.iadd, 1) := by decide +kernel
theorem dX9_crosses_17 : decode cX9_crosses 17 = .ok (.putfield 334, 3) := by decide +kernel
theorem dX9_crosses_20 : decode cX9_crosses 20 = .ok (.aload_n 0, 1) := by decide +kernel
theorem dX9_crosses_21 : decode cX9_crosses 21 = .ok (.dup, 1) := by decide +kernel
theorem dX9_crosses_22 : decode cX9_crosses 22 = .ok (.getfield 337, 3) := by decide +kernel
theorem dX9_crosses_25 : decode cX9_crosses 25 = .ok (.iload_n 2, 1) := by decide +kernel
theorem dX9_crosses_26 : decode cX9_crosses 26 = .ok (.aload_n 0, 1) := by decide +kernel
theorem dX9_crosses_27 : decode cX9_crosses 27 = .ok (.getfield 47, 3) := by decide +kernel
theorem dX9_crosses_30 : decode cX9_crosses 30 = .ok (.imul, 1) := by decide +kernel
theorem dX9_crosses_31 : decode cX9_crosses 31 = .ok (.iadd, 1) := by decide +kernel
theorem dX9_crosses_32 : decode cX9_crosses 32 = .ok (.putfield 337, 3) := by decide +kernel
theorem dX9_crosses_35 : decode cX9_crosses 35 = .ok (.aload_n 0, 1) := by decide +kernel
theorem dX9_crosses_36 : decode cX9_crosses 36 = .ok (.dup, 1) := by decide +kernel
theorem dX9_crosses_37 : decode cX9_crosses 37 = .ok (.getfield 340, 3) := by decide +kernel
theorem dX9_crosses_40 : decode cX9_crosses 40 = .ok (.bipush 20, 2) := by decide +kernel
theorem dX9_crosses_42 : decode cX9_crosses 42 = .ok (.iadd, 1) := by decide +kernel
theorem dX9_crosses_43 : decode cX9_crosses 43 = .ok (.putfield 340, 3) := by decide +kernel
theorem dX9_crosses_46 : decode cX9_crosses 46 = .ok (.return_, 1) := by decide +kernel
set_option maxRecDepth 20000 in
theorem ggX9_cross_X9_isGroup : GoodIn wsX9_cross wsX9_isGroup := goodIn_r _ [5, 6, 7, 8, 4, 9, 63, 64, 65, 66, 67, 68, 69, 70, 71, 72, 73, 74, 75, 76, 77, 78, 79, 80, 81, 82, 83, 84, 85, 86, 87, 88, 89, 90, 91, 92, 93, 94, 95, 96, 97, 98, 99, 100, 101, 102, 103, 104] (by decide +kernel) (by decide +kernel)
set_option maxRecDepth 20000 in
theorem gX9_cross_X9_isGroup : GoodIn wsX9_cross (wsV RX9 281 RX9 yX9_isGroup wsX9_isGroup) := goodIn_app (goodIn_of _ (by decide +kernel)) ggX9_cross_X9_isGroup
set_option maxRecDepth 20000 in
theorem ggX9_cross_X9_refuse : GoodIn wsX9_cross wsX9_refuse := goodIn_r _ [13, 14, 63, 64, 65, 66, 67, 68, 69, 70, 71, 72, 73, 74, 75, 76, 77, 78, 79, 80, 81, 82, 83, 84, 85, 86, 87, 88, 89, 90, 91, 92, 93, 94, 95, 96, 97, 98, 99, 100, 101, 102, 103, 104] (by decide +kernel) (by decide +kernel)
set_option maxRecDepth 20000 in
theorem gX9_cross_X9_refuse : GoodIn wsX9_cross (wsV RX9 109 RX9 yX9_refuse wsX9_refuse) := goodIn_app (goodIn_of _ (by decide +kernel)) ggX9_cross_X9_refuse
set_option maxRecDepth 20000 in
theorem ggX9_cross_X9_hireOf : GoodIn wsX9_cross wsX9_hireOf := goodIn_r _ [18, 19, 20, 21, 22, 4, 23, 24, 25, 26, 27, 28, 6, 29, 30, 31, 32, 33, 34, 35, 36, 37, 38, 39, 40, 41, 42, 43, 44, 45, 46, 47, 48, 7, 8, 9, 49, 50, 51, 52, 53, 54, 63, 64, 65, 66, 67, 68, 69, 70, 71, 72, 73, 74, 75, 76, 77, 78, 79, 80, 81, 82, 83, 84, 85, 86, 87, 88, 89, 90, 91, 92, 93, 94, 95, 96, 97, 98, 99, 100, 101, 102, 103, 104] (by decide +kernel) (by decide +kernel)
set_option maxRecDepth 20000 in
theorem gX9_cross_X9_hireOf : GoodIn wsX9_cross (wsV RX9 284 RX9 yX9_hireOf wsX9_hireOf) := goodIn_app (goodIn_of _ (by decide +kernel)) ggX9_cross_X9_hireOf
set_option maxRecDepth 20000 in
theorem ggX9_cross_X9_crosses : GoodIn wsX9_cross wsX9_crosses := goodIn_r _ [58, 28, 59, 60, 61, 62, 63, 64, 65, 66, 67, 68, 69, 70, 71, 72, 73, 74, 75, 76, 77, 78, 79, 80, 81, 82, 83, 84, 85, 86, 87, 88, 89, 90, 91, 92, 93, 94, 95, 96, 97, 98, 99, 100, 101, 102, 103, 104] (by decide +kernel) (by decide +kernel)
set_option maxRecDepth 20000 in
theorem gX9_cross_X9_crosses : GoodIn wsX9_cross (wsV RX9 343 RX9 yX9_crosses wsX9_crosses) := goodIn_app (goodIn_of _ (by decide +kernel)) ggX9_cross_X9_crosses
theorem dX9_cross_0 : decode cX9_cross 0 = .ok (.aload_n 0, 1) := by decide +kernel
theorem dX9_cross_1 : decode cX9_cross 1 = .ok (.iload_n 1, 1) := by decide +kernel
theorem dX9_cross_2 : decode cX9_cross 2 = .ok (.i2l, 1) := by decide +kernel
theorem dX9_cross_3 : decode cX9_cross 3 = .ok (.invokevirtual 281, 3) := by decide +kernel
theorem dX9_cross_6 : decode cX9_cross 6 = .ok (.ifCond .ne 11, 3) := by decide +kernel
theorem dX9_cross_9 : decode cX9_cross 9 = .ok (.aload_n 0, 1) := by decide +kernel
theorem dX9_cross_10 : decode cX9_cross 10 = .ok (.sipush (-1002), 3) := by decide +kernel
theorem dX9_cross_13 : decode cX9_cross 13 = .ok (.invokevirtual 109, 3) := by decide +kernel
theorem dX9_cross_16 : decode cX9_cross 16 = .ok (.ireturn, 1) := by decide +kernel
theorem dX9_cross_17 : decode cX9_cross 17 = .ok (.aload_n 0, 1) := by decide +kernel
theorem dX9_cross_18 : decode cX9_cross 18 = .ok (.iload_n 1, 1) := by decide +kernel
theorem dX9_cross_19 : decode cX9_cross 19 = .ok (.invokevirtual 284, 3) := by decide +kernel
theorem dX9_cross_22 : decode cX9_cross 22 = .ok (.istore_n 2, 1) := by decide +kernel
theorem dX9_cross_23 : decode cX9_cross 23 = .ok (.iload_n 2, 1) := by decide +kernel
theorem dX9_cross_24 : decode cX9_cross 24 = .ok (.iconst (-1), 1) := by decide +kernel
theorem dX9_cross_25 : decode cX9_cross 25 = .ok (.if_icmp .ne 11, 3) := by decide +kernel
theorem dX9_cross_28 : decode cX9_cross 28 = .ok (.aload_n 0, 1) := by decide +kernel
theorem dX9_cross_29 : decode cX9_cross 29 = .ok (.sipush (-1005), 3) := by decide +kernel
theorem dX9_cross_32 : decode cX9_cross 32 = .ok (.invokevirtual 109, 3) := by decide +kernel
theorem dX9_cross_35 : decode cX9_cross 35 = .ok (.ireturn, 1) := by decide +kernel
theorem dX9_cross_36 : decode cX9_cross 36 = .ok (.aload_n 0, 1) := by decide +kernel
theorem dX9_cross_37 : decode cX9_cross 37 = .ok (.iload_n 1, 1) := by decide +kernel
theorem dX9_cross_38 : decode cX9_cross 38 = .ok (.iload_n 2, 1) := by decide +kernel
theorem dX9_cross_39 : decode cX9_cross 39 = .ok (.invokevirtual 343, 3) := by decide +kernel
theorem dX9_cross_42 : decode cX9_cross 42 = .ok (.iload_n 2, 1) := by decide +kernel
theorem dX9_cross_43 : decode cX9_cross 43 = .ok (.ireturn, 1) := by decide +kernel
theorem dX9_goesBack_0 : decode cX9_goesBack 0 = .ok (.aload_n 0, 1) := by decide +kernel
theorem dX9_goesBack_1 : decode cX9_goesBack 1 = .ok (.dup, 1) := by decide +kernel
theorem dX9_goesBack_2 : decode cX9_goesBack 2 = .ok (.getfield 100, 3) := by decide +kernel
theorem dX9_goesBack_5 : decode cX9_goesBack 5 = .ok (.iconst 1, 1) := by decide +kernel
theorem dX9_goesBack_6 : decode cX9_goesBack 6 = .ok (.iload_n 1, 1) := by decide +kernel
theorem dX9_goesBack_7 : decode cX9_goesBack 7 = .ok (.ishl, 1) := by decide +kernel
theorem dX9_goesBack_8 : decode cX9_goesBack 8 = .ok (.iconst (-1), 1) := by decide +kernel
theorem dX9_goesBack_9 : decode cX9_goesBack 9 = .ok (.ixor, 1) := by decide +kernel
theorem dX9_goesBack_10 : decode cX9_goesBack 10 = .ok (.iand, 1) := by decide +kernel
theorem dX9_goesBack_11 : decode cX9_goesBack 11 = .ok (.putfield 100, 3) := by decide +kernel
theorem dX9_goesBack_14 : decode cX9_goesBack 14 = .ok (.aload_n 0, 1) := by decide +kernel
theorem dX9_goesBack_15 : decode cX9_goesBack 15 = .ok (.dup, 1) := by decide +kernel
theorem dX9_goesBack_16 : decode cX9_goesBack 16 = .ok (.getfield 340, 3) := by decide +kernel
theorem dX9_goesBack_19 : decode cX9_goesBack 19 = .ok (.bipush 20, 2) := by decide +kernel
theorem dX9_goesBack_21 : decode cX9_goesBack 21 = .ok (.iadd, 1) := by decide +kernel
theorem dX9_goesBack_22 : decode cX9_goesBack 22 = .ok (.putfield 340, 3) := by decide +kernel
theorem dX9_goesBack_25 : decode cX9_goesBack 25 = .ok (.return_, 1) := by decide +kernel
set_option maxRecDepth 20000 in
theorem ggX9_comesBack_X9_isParty : GoodIn wsX9_comesBack wsX9_isParty := goodIn_r _ [6, 7, 8, 9, 5, 10, 25, 26, 27, 28, 29, 30, 31, 32, 33, 34, 35, 36, 37, 38, 39, 40, 41, 42, 43, 44, 45, 46, 47, 48, 49, 50, 51, 52, 53, 54, 55, 56, 57, 58, 59, 60, 61, 62, 63, 64, 65, 66] (by decide +kernel) (by decide +kernel)
set_option maxRecDepth 20000 in
theorem gX9_comesBack_X9_isParty : GoodIn wsX9_comesBack (wsV RX9 120 RX9 yX9_isParty wsX9_isParty) := goodIn_app (goodIn_of _ (by decide +kernel)) ggX9_comesBack_X9_isParty
set_option maxRecDepth 20000 in
theorem ggX9_comesBack_X9_refuse : GoodIn wsX9_comesBack wsX9_refuse := goodIn_r _ [14, 15, 25, 26, 27, 28, 29, 30, 31, 32, 33, 34, 35, 36, 37, 38, 39, 40, 41, 42, 43, 44, 45, 46, 47, 48, 49, 50, 51, 52, 53, 54, 55, 56, 57, 58, 59, 60, 61, 62, 63, 64, 65, 66] (by decide +kernel) (by decide +kernel)
set_option maxRecDepth 20000 in
theorem gX9_comesBack_X9_refuse : GoodIn wsX9_comesBack (wsV RX9 109 RX9 yX9_refuse wsX9_refuse) := goodIn_app (goodIn_of _ (by decide +kernel)) ggX9_comesBack_X9_refuse
set_option maxRecDepth 20000 in
theorem ggX9_comesBack_X9_isOver : GoodIn wsX9_comesBack wsX9_isOver := goodIn_r _ [19, 20, 25, 26, 27, 28, 29, 30, 31, 32, 33, 34, 35, 36, 37, 38, 39, 40, 41, 42, 43, 44, 45, 46, 47, 48, 49, 50, 51, 52, 53, 54, 55, 56, 57, 58, 59, 60, 61, 62, 63, 64, 65, 66] (by decide +kernel) (by decide +kernel)
set_option maxRecDepth 20000 in
theorem gX9_comesBack_X9_isOver : GoodIn wsX9_comesBack (wsV RX9 278 RX9 yX9_isOver wsX9_isOver) := goodIn_app (goodIn_of _ (by decide +kernel)) ggX9_comesBack_X9_isOver
set_option maxRecDepth 20000 in
theorem ggX9_comesBack_X9_goesBack : GoodIn wsX9_comesBack wsX9_goesBack := goodIn_r _ [24, 20, 1, 25, 26, 27, 28, 29, 30, 31, 32, 33, 34, 35, 36, 37, 38, 39, 40, 41, 42, 43, 44, 45, 46, 47, 48, 49, 50, 51, 52, 53, 54, 55, 56, 57, 58, 59, 60, 61, 62, 63, 64, 65, 66] (by decide +kernel) (by decide +kernel)
set_option maxRecDepth 20000 in
theorem gX9_comesBack_X9_goesBack : GoodIn wsX9_comesBack (wsV RX9 346 RX9 yX9_goesBack wsX9_goesBack) := goodIn_app (goodIn_of _ (by decide +kernel)) ggX9_comesBack_X9_goesBack
theorem dX9_comesBack_0 : decode cX9_comesBack 0 = .ok (.aload_n 0, 1) := by decide +kernel
theorem dX9_comesBack_1 : decode cX9_comesBack 1 = .ok (.iload_n 1, 1) := by decide +kernel
theorem dX9_comesBack_2 : decode cX9_comesBack 2 = .ok (.invokevirtual 120, 3) := by decide +kernel
theorem dX9_comesBack_5 : decode cX9_comesBack 5 = .ok (.ifCond .ne 11, 3) := by decide +kernel
theorem dX9_comesBack_8 : decode cX9_comesBack 8 = .ok (.aload_n 0, 1) := by decide +kernel
theorem dX9_comesBack_9 : decode cX9_comesBack 9 = .ok (.sipush (-1002), 3) := by decide +kernel
theorem dX9_comesBack_12 : decode cX9_comesBack 12 = .ok (.invokevirtual 109, 3) := by decide +kernel
theorem dX9_comesBack_15 : decode cX9_comesBack 15 = .ok (.ireturn, 1) := by decide +kernel
theorem dX9_comesBack_16 : decode cX9_comesBack 16 = .ok (.aload_n 0, 1) := by decide +kernel
theorem dX9_comesBack_17 : decode cX9_comesBack 17 = .ok (.iload_n 1, 1) := by decide +kernel
theorem dX9_comesBack_18 : decode cX9_comesBack 18 = .ok (.invokevirtual 278, 3) := by decide +kernel
theorem dX9_comesBack_21 : decode cX9_comesBack 21 = .ok (.ifCond .ne 11, 3) := by decide +kernel
theorem dX9_comesBack_24 : decode cX9_comesBack 24 = .ok (.aload_n 0, 1) := by decide +kernel
theorem dX9_comesBack_25 : decode cX9_comesBack 25 = .ok (.sipush (-1005), 3) := by decide +kernel
theorem dX9_comesBack_28 : decode cX9_comesBack 28 = .ok (.invokevirtual 109, 3) := by decide +kernel
theorem dX9_comesBack_31 : decode cX9_comesBack 31 = .ok (.ireturn, 1) := by decide +kernel
theorem dX9_comesBack_32 : decode cX9_comesBack 32 = .ok (.aload_n 0, 1) := by decide +kernel
theorem dX9_comesBack_33 : decode cX9_comesBack 33 = .ok (.iload_n 1, 1) := by decide +kernel
theorem dX9_comesBack_34 : decode cX9_comesBack 34 = .ok (.invokevirtual 346, 3) := by decide +kernel
theorem dX9_comesBack_37 : decode cX9_comesBack 37 = .ok (.aload_n 0, 1) := by decide +kernel
theorem dX9_comesBack_38 : decode cX9_comesBack 38 = .ok (.getfield 340, 3) := by decide +kernel
theorem dX9_comesBack_41 : decode cX9_comesBack 41 = .ok (.ireturn, 1) := by decide +kernel
theorem dX9_below_0 : decode cX9_below 0 = .ok (.aload_n 0, 1) := by decide +kernel
theorem dX9_below_1 : decode cX9_below 1 = .ok (.aload_n 0, 1) := by decide +kernel
theorem dX9_below_2 : decode cX9_below 2 = .ok (.getfield 68, 3) := by decide +kernel
theorem dX9_below_5 : decode cX9_below 5 = .ok (.ldc_w 350, 3) := by decide +kernel
theorem dX9_below_8 : decode cX9_below 8 = .ok (.imul, 1) := by decide +kernel
theorem dX9_below_9 : decode cX9_below 9 = .ok (.sipush 12345, 3) := by decide +kernel
theorem dX9_below_12 : decode cX9_below 12 = .ok (.iadd, 1) := by decide +kernel
theorem dX9_below_13 : decode cX9_below 13 = .ok (.putfield 68, 3) := by decide +kernel
theorem dX9_below_16 : decode cX9_below 16 = .ok (.aload_n 0, 1) := by decide +kernel
theorem dX9_below_17 : decode cX9_below 17 = .ok (.getfield 68, 3) := by decide +kernel
theorem dX9_below_20 : decode cX9_below 20 = .ok (.bipush 16, 2) := by decide +kernel
theorem dX9_below_22 : decode cX9_below 22 = .ok (.iushr, 1) := by decide +kernel
theorem dX9_below_23 : decode cX9_below 23 = .ok (.iload_n 1, 1) := by decide +kernel
theorem dX9_below_24 : decode cX9_below 24 = .ok (.irem, 1) := by decide +kernel
theorem dX9_below_25 : decode cX9_below 25 = .ok (.ireturn, 1) := by decide +kernel
set_option maxRecDepth 20000 in
theorem ggX9_goesDay_X9_isOver : GoodIn wsX9_goesDay wsX9_isOver := goodIn_r _ [7, 8, 68, 69, 70, 71, 72, 73, 74, 75, 76, 77, 78, 79, 80, 81, 82, 83, 84, 85, 86, 87, 88, 89, 90, 91, 92, 93, 94, 95, 96, 97, 98, 99, 100, 101, 102, 103, 104, 105, 106, 107, 108, 109] (by decide +kernel) (by decide +kernel)
set_option maxRecDepth 20000 in
theorem gX9_goesDay_X9_isOver : GoodIn wsX9_goesDay (wsV RX9 278 RX9 yX9_isOver wsX9_isOver) := goodIn_app (goodIn_of _ (by decide +kernel)) ggX9_goesDay_X9_isOver
set_option maxRecDepth 20000 in
theorem ggX9_goesDay_X9_below : GoodIn wsX9_goesDay wsX9_below := goodIn_r _ [12, 13, 14, 68, 69, 70, 71, 72, 73, 74, 75, 76, 77, 78, 79, 80, 81, 82, 83, 84, 85, 86, 87, 88, 89, 90, 91, 92, 93, 94, 95, 96, 97, 98, 99, 100, 101, 102, 103, 104, 105, 106, 107, 108, 109] (by decide +kernel) (by decide +kernel)
set_option maxRecDepth 20000 in
theorem gX9_goesDay_X9_below : GoodIn wsX9_goesDay (wsV RX9 351 RX9 yX9_below wsX9_below) := goodIn_app (goodIn_of _ (by decide +kernel)) ggX9_goesDay_X9_below
set_option maxRecDepth 20000 in
theorem ggX9_goesDay_X9_hireOf : GoodIn wsX9_goesDay wsX9_hireOf := goodIn_r _ [18, 19, 20, 21, 22, 6, 23, 24, 25, 26, 27, 8, 1, 28, 29, 30, 31, 32, 33, 34, 35, 36, 37, 38, 39, 40, 41, 42, 43, 44, 45, 46, 47, 48, 49, 50, 51, 52, 53, 54, 55, 56, 68, 69, 70, 71, 72, 73, 74, 75, 76, 77, 78, 79, 80, 81, 82, 83, 84, 85, 86, 87, 88, 89, 90, 91, 92, 93, 94, 95, 96, 97, 98, 99, 100, 101, 102, 103, 104, 105, 106, 107, 108, 109] (by decide +kernel) (by decide +kernel)
set_option maxRecDepth 20000 in
theorem gX9_goesDay_X9_hireOf : GoodIn wsX9_goesDay (wsV RX9 284 RX9 yX9_hireOf wsX9_hireOf) := goodIn_app (goodIn_of _ (by decide +kernel)) ggX9_goesDay_X9_hireOf
set_option maxRecDepth 20000 in
theorem ggX9_goesDay_X9_crosses : GoodIn wsX9_goesDay wsX9_crosses := goodIn_r _ [60, 8, 61, 62, 63, 2, 68, 69, 70, 71, 72, 73, 74, 75, 76, 77, 78, 79, 80, 81, 82, 83, 84, 85, 86, 87, 88, 89, 90, 91, 92, 93, 94, 95, 96, 97, 98, 99, 100, 101, 102, 103, 104, 105, 106, 107, 108, 109] (by decide +kernel) (by decide +kernel)
set_option maxRecDepth 20000 in
theorem gX9_goesDay_X9_crosses : GoodIn wsX9_goesDay (wsV RX9 343 RX9 yX9_crosses wsX9_crosses) := goodIn_app (goodIn_of _ (by decide +kernel)) ggX9_goesDay_X9_crosses
set_option maxRecDepth 20000 in
theorem ggX9_goesDay_X9_goesBack : GoodIn wsX9_goesDay wsX9_goesBack := goodIn_r _ [67, 8, 2, 68, 69, 70, 71, 72, 73, 74, 75, 76, 77, 78, 79, 80, 81, 82, 83, 84, 85, 86, 87, 88, 89, 90, 91, 92, 93, 94, 95, 96, 97, 98, 99, 100, 101, 102, 103, 104, 105, 106, 107, 108, 109] (by decide +kernel) (by decide +kernel)
set_option maxRecDepth 20000 in
theorem gX9_goesDay_X9_goesBack : GoodIn wsX9_goesDay (wsV RX9 346 RX9 yX9_goesBack wsX9_goesBack) := goodIn_app (goodIn_of _ (by decide +kernel)) ggX9_goesDay_X9_goesBack
theorem dX9_goesDay_0 : decode cX9_goesDay 0 = .ok (.iconst 0, 1) := by decide +kernel
theorem dX9_goesDay_1 : decode cX9_goesDay 1 = .ok (.istore_n 1, 1) := by decide +kernel
theorem dX9_goesDay_2 : decode cX9_goesDay 2 = .ok (.iconst 0, 1) := by decide +kernel
theorem dX9_goesDay_3 : decode cX9_goesDay 3 = .ok (.istore_n 2, 1) := by decide +kernel
theorem dX9_goesDay_4 : decode cX9_goesDay 4 = .ok (.iload_n 2, 1) := by decide +kernel
theorem dX9_goesDay_5 : decode cX9_goesDay 5 = .ok (.aload_n 0, 1) := by decide +kernel
theorem dX9_goesDay_6 : decode cX9_goesDay 6 = .ok (.getfield 93, 3) := by decide +kernel
theorem dX9_goesDay_9 : decode cX9_goesDay 9 = .ok (.if_icmp .ge 36, 3) := by decide +kernel
theorem dX9_goesDay_12 : decode cX9_goesDay 12 = .ok (.aload_n 0, 1) := by decide +kernel
theorem dX9_goesDay_13 : decode cX9_goesDay 13 = .ok (.iload_n 2, 1) := by decide +kernel
theorem dX9_goesDay_14 : decode cX9_goesDay 14 = .ok (.invokevirtual 278, 3) := by decide +kernel
theorem dX9_goesDay_17 : decode cX9_goesDay 17 = .ok (.ifCond .ne 22, 3) := by decide +kernel
theorem dX9_goesDay_20 : decode cX9_goesDay 20 = .ok (.iload_n 1, 1) := by decide +kernel
theorem dX9_goesDay_21 : decode cX9_goesDay 21 = .ok (.aload_n 0, 1) := by decide +kernel
theorem dX9_goesDay_22 : decode cX9_goesDay 22 = .ok (.iconst 2, 1) := by decide +kernel
theorem dX9_goesDay_23 : decode cX9_goesDay 23 = .ok (.invokevirtual 351, 3) := by decide +kernel
theorem dX9_goesDay_26 : decode cX9_goesDay 26 = .ok (.iconst 1, 1) := by decide +kernel
theorem dX9_goesDay_27 : decode cX9_goesDay 27 = .ok (.if_icmp .ne 9, 3) := by decide +kernel
theorem dX9_goesDay_30 : decode cX9_goesDay 30 = .ok (.iconst 1, 1) := by decide +kernel
theorem dX9_goesDay_31 : decode cX9_goesDay 31 = .ok (.iload_n 2, 1) := by decide +kernel
theorem dX9_goesDay_32 : decode cX9_goesDay 32 = .ok (.ishl, 1) := by decide +kernel
theorem dX9_goesDay_33 : decode cX9_goesDay 33 = .ok (.goto 4, 3) := by decide +kernel
theorem dX9_goesDay_36 : decode cX9_goesDay 36 = .ok (.iconst 0, 1) := by decide +kernel
theorem dX9_goesDay_37 : decode cX9_goesDay 37 = .ok (.ior, 1) := by decide +kernel
theorem dX9_goesDay_38 : decode cX9_goesDay 38 = .ok (.istore_n 1, 1) := by decide +kernel
theorem dX9_goesDay_39 : decode cX9_goesDay 39 = .ok (.iinc 2 1, 3) := by decide +kernel
theorem dX9_goesDay_42 : decode cX9_goesDay 42 = .ok (.goto (-38), 3) := by decide +kernel
theorem dX9_goesDay_45 : decode cX9_goesDay 45 = .ok (.aload_n 0, 1) := by decide +kernel
theorem dX9_goesDay_46 : decode cX9_goesDay 46 = .ok (.iload_n 1, 1) := by decide +kernel
theorem dX9_goesDay_47 : decode cX9_goesDay 47 = .ok (.invokevirtual 284, 3) := by decide +kernel
theorem dX9_goesDay_50 : decode cX9_goesDay 50 = .ok (.istore_n 2, 1) := by decide +kernel
theorem dX9_goesDay_51 : decode cX9_goesDay 51 = .ok (.iload_n 2, 1) := by decide +kernel
theorem dX9_goesDay_52 : decode cX9_goesDay 52 = .ok (.iconst (-1), 1) := by decide +kernel
theorem dX9_goesDay_53 : decode cX9_goesDay 53 = .ok (.if_icmp .eq 12, 3) := by decide +kernel
theorem dX9_goesDay_56 : decode cX9_goesDay 56 = .ok (.aload_n 0, 1) := by decide +kernel
theorem dX9_goesDay_57 : decode cX9_goesDay 57 = .ok (.iload_n 1, 1) := by decide +kernel
theorem dX9_goesDay_58 : decode cX9_goesDay 58 = .ok (.iload_n 2, 1) := by decide +kernel
theorem dX9_goesDay_59 : decode cX9_goesDay 59 = .ok (.invokevirtual 343, 3) := by decide +kernel
theorem dX9_goesDay_62 : decode cX9_goesDay 62 = .ok (.goto 25, 3) := by decide +kernel
theorem dX9_goesDay_65 : decode cX9_goesDay 65 = .ok (.aload_n 0, 1) := by decide +kernel
theorem dX9_goesDay_66 : decode cX9_goesDay 66 = .ok (.aload_n 0, 1) := by decide +kernel
theorem dX9_goesDay_67 : decode cX9_goesDay 67 = .ok (.getfield 93, 3) := by decide +kernel
theorem dX9_goesDay_70 : decode cX9_goesDay 70 = .ok (.invokevirtual 351, 3) := by decide +kernel
theorem dX9_goesDay_73 : decode cX9_goesDay 73 = .ok (.istore_n 3, 1) := by decide +kernel
theorem dX9_goesDay_74 : decode cX9_goesDay 74 = .ok (.aload_n 0, 1) := by decide +kernel
theorem dX9_goesDay_75 : decode cX9_goesDay 75 = .ok (.iload_n 3, 1) := by decide +kernel
theorem dX9_goesDay_76 : decode cX9_goesDay 76 = .ok (.invokevirtual 278, 3) := by decide +kernel
theorem dX9_goesDay_79 : decode cX9_goesDay 79 = .ok (.ifCond .eq 8, 3) := by decide +kernel
theorem dX9_goesDay_82 : decode cX9_goesDay 82 = .ok (.aload_n 0, 1) := by decide +kernel
theorem dX9_goesDay_83 : decode cX9_goesDay 83 = .ok (.iload_n 3, 1) := by decide +kernel
theorem dX9_goesDay_84 : decode cX9_goesDay 84 = .ok (.invokevirtual 346, 3) := by decide +kernel
theorem dX9_goesDay_87 : decode cX9_goesDay 87 = .ok (.aload_n 0, 1) := by decide +kernel
theorem dX9_goesDay_88 : decode cX9_goesDay 88 = .ok (.dup, 1) := by decide +kernel
theorem dX9_goesDay_89 : decode cX9_goesDay 89 = .ok (.getfield 340, 3) := by decide +kernel
theorem dX9_goesDay_92 : decode cX9_goesDay 92 = .ok (.bipush 60, 2) := by decide +kernel
theorem dX9_goesDay_94 : decode cX9_goesDay 94 = .ok (.iadd, 1) := by decide +kernel
theorem dX9_goesDay_95 : decode cX9_goesDay 95 = .ok (.putfield 340, 3) := by decide +kernel
theorem dX9_goesDay_98 : decode cX9_goesDay 98 = .ok (.iload_n 2, 1) := by decide +kernel
theorem dX9_goesDay_99 : decode cX9_goesDay 99 = .ok (.iconst (-1), 1) := by decide +kernel
theorem dX9_goesDay_100 : decode cX9_goesDay 100 = .ok (.if_icmp .eq 7, 3) := by decide +kernel
theorem dX9_goesDay_103 : decode cX9_goesDay 103 = .ok (.iconst 1, 1) := by decide +kernel
theorem dX9_goesDay_104 : decode cX9_goesDay 104 = .ok (.goto 4, 3) := by decide +kernel
theorem dX9_goesDay_107 : decode cX9_goesDay 107 = .ok (.iconst 0, 1) := by decide +kernel
theorem dX9_goesDay_108 : decode cX9_goesDay 108 = .ok (.ireturn, 1) := by decide +kernel
set_option maxRecDepth 20000 in
theorem ggX9_days_X9_in : GoodIn wsX9_days wsX9_in := goodIn_r _ [6] (by decide +kernel) (by decide +kernel)
set_option maxRecDepth 20000 in
theorem gX9_days_X9_in : GoodIn wsX9_days (va_wsS RX9 96 yX9_in wsX9_in) := goodIn_app (goodIn_of _ (by decide +kernel)) ggX9_days_X9_in
set_option maxRecDepth 20000 in
theorem ggX9_days_X9_refuse : GoodIn wsX9_days wsX9_refuse := goodIn_r _ [10, 11, 78, 79, 80, 81, 82, 83, 84, 85, 86, 87, 88, 89, 90, 91, 92, 93, 94, 95, 96, 97, 98, 99, 100, 101, 102, 103, 104, 105, 106, 107, 108, 109, 110, 111, 112, 113, 114, 115, 116, 117, 118, 119] (by decide +kernel) (by decide +kernel)
set_option maxRecDepth 20000 in
theorem gX9_days_X9_refuse : GoodIn wsX9_days (wsV RX9 109 RX9 yX9_refuse wsX9_refuse) := goodIn_app (goodIn_of _ (by decide +kernel)) ggX9_days_X9_refuse
set_option maxRecDepth 20000 in
theorem ggX9_days_X9_goesDay : GoodIn wsX9_days wsX9_goesDay := goodIn_r _ [15, 2, 16, 17, 18, 19, 5, 20, 21, 22, 23, 24, 25, 26, 27, 28, 29, 30, 31, 32, 33, 34, 35, 36, 37, 38, 39, 40, 41, 42, 43, 44, 45, 46, 47, 48, 49, 50, 51, 52, 53, 54, 55, 56, 57, 58, 59, 60, 3, 4, 6, 61, 62, 63, 64, 65, 66, 67, 68, 69, 70, 71, 72, 73, 74, 75, 76, 77, 78, 79, 80, 81, 82, 83, 84, 85, 86, 87, 88, 89, 90, 91, 92, 93, 94, 95, 96, 97, 98, 99, 100, 101, 102, 103, 104, 105, 106, 107, 108, 109, 110, 111, 112, 113, 114, 115, 116, 117, 118, 119] (by decide +kernel) (by decide +kernel)
set_option maxRecDepth 20000 in
theorem gX9_days_X9_goesDay : GoodIn wsX9_days (wsV RX9 354 RX9 yX9_goesDay wsX9_goesDay) := goodIn_app (goodIn_of _ (by decide +kernel)) ggX9_days_X9_goesDay
theorem dX9_days_0 : decode cX9_days 0 = .ok (.iload_n 1, 1) := by decide +kernel
theorem dX9_days_1 : decode cX9_days 1 = .ok (.i2l, 1) := by decide +kernel
theorem dX9_days_2 : decode cX9_days 2 = .ok (.lconst 1, 1) := by decide +kernel
theorem dX9_days_3 : decode cX9_days 3 = .ok (.ldc2_w 267, 3) := by decide +kernel
theorem dX9_days_6 : decode cX9_days 6 = .ok (.invokestatic 96, 3) := by decide +kernel
theorem dX9_days_9 : decode cX9_days 9 = .ok (.ifCond .ne 11, 3) := by decide +kernel
theorem dX9_days_12 : decode cX9_days 12 = .ok (.aload_n 0, 1) := by decide +kernel
theorem dX9_days_13 : decode cX9_days 13 = .ok (.sipush (-1002), 3) := by decide +kernel
theorem dX9_days_16 : decode cX9_days 16 = .ok (.invokevirtual 109, 3) := by decide +kernel
theorem dX9_days_19 : decode cX9_days 19 = .ok (.ireturn, 1) := by decide +kernel
theorem dX9_days_20 : decode cX9_days 20 = .ok (.aload_n 0, 1) := by decide +kernel
theorem dX9_days_21 : decode cX9_days 21 = .ok (.getfield 93, 3) := by decide +kernel
theorem dX9_days_24 : decode cX9_days 24 = .ok (.ifCond .ne 11, 3) := by decide +kernel
theorem dX9_days_27 : decode cX9_days 27 = .ok (.aload_n 0, 1) := by decide +kernel
theorem dX9_days_28 : decode cX9_days 28 = .ok (.sipush (-1005), 3) := by decide +kernel
theorem dX9_days_31 : decode cX9_days 31 = .ok (.invokevirtual 109, 3) := by decide +kernel
theorem dX9_days_34 : decode cX9_days 34 = .ok (.ireturn, 1) := by decide +kernel
theorem dX9_days_35 : decode cX9_days 35 = .ok (.iconst 0, 1) := by decide +kernel
theorem dX9_days_36 : decode cX9_days 36 = .ok (.istore_n 2, 1) := by decide +kernel
theorem dX9_days_37 : decode cX9_days 37 = .ok (.iconst 0, 1) := by decide +kernel
theorem dX9_days_38 : decode cX9_days 38 = .ok (.istore_n 3, 1) := by decide +kernel
theorem dX9_days_39 : decode cX9_days 39 = .ok (.iload_n 3, 1) := by decide +kernel
theorem dX9_days_40 : decode cX9_days 40 = .ok (.iload_n 1, 1) := by decide +kernel
theorem dX9_days_41 : decode cX9_days 41 = .ok (.if_icmp .ge 24, 3) := by decide +kernel
theorem dX9_days_44 : decode cX9_days 44 = .ok (.iload_n 2, 1) := by decide +kernel
theorem dX9_days_45 : decode cX9_days 45 = .ok (.aload_n 0, 1) := by decide +kernel
theorem dX9_days_46 : decode cX9_days 46 = .ok (.invokevirtual 354, 3) := by decide +kernel
theorem dX9_days_49 : decode cX9_days 49 = .ok (.ifCond .eq 7, 3) := by decide +kernel
theorem dX9_days_52 : decode cX9_days 52 = .ok (.iconst 1, 1) := by decide +kernel
theorem dX9_days_53 : decode cX9_days 53 = .ok (.goto 4, 3) := by decide +kernel
theorem dX9_days_56 : decode cX9_days 56 = .ok (.iconst 0, 1) := by decide +kernel
theorem dX9_days_57 : decode cX9_days 57 = .ok (.iadd, 1) := by decide +kernel
theorem dX9_days_58 : decode cX9_days 58 = .ok (.istore_n 2, 1) := by decide +kernel
theorem dX9_days_59 : decode cX9_days 59 = .ok (.iinc 3 1, 3) := by decide +kernel
theorem dX9_days_62 : decode cX9_days 62 = .ok (.goto (-23), 3) := by decide +kernel
theorem dX9_days_65 : decode cX9_days 65 = .ok (.iload_n 2, 1) := by decide +kernel
theorem dX9_days_66 : decode cX9_days 66 = .ok (.ireturn, 1) := by decide +kernel
theorem dX9_seed_0 : decode cX9_seed 0 = .ok (.aload_n 0, 1) := by decide +kernel
theorem dX9_seed_1 : decode cX9_seed 1 = .ok (.getfield 68, 3) := by decide +kernel
theorem dX9_seed_4 : decode cX9_seed 4 = .ok (.istore_n 2, 1) := by decide +kernel
theorem dX9_seed_5 : decode cX9_seed 5 = .ok (.aload_n 0, 1) := by decide +kernel
theorem dX9_seed_6 : decode cX9_seed 6 = .ok (.iload_n 1, 1) := by decide +kernel
theorem dX9_seed_7 : decode cX9_seed 7 = .ok (.putfield 68, 3) := by decide +kernel
theorem dX9_seed_10 : decode cX9_seed 10 = .ok (.iload_n 2, 1) := by decide +kernel
theorem dX9_seed_11 : decode cX9_seed 11 = .ok (.ireturn, 1) := by decide +kernel
theorem dX9_copied_0 : decode cX9_copied 0 = .ok (.iconst 0, 1) := by decide +kernel
theorem dX9_copied_1 : decode cX9_copied 1 = .ok (.istore_n 2, 1) := by decide +kernel
theorem dX9_copied_2 : decode cX9_copied 2 = .ok (.iload_n 2, 1) := by decide +kernel
theorem dX9_copied_3 : decode cX9_copied 3 = .ok (.aload_n 0, 1) := by decide +kernel
theorem dX9_copied_4 : decode cX9_copied 4 = .ok (.arraylength, 1) := by decide +kernel
theorem dX9_copied_5 : decode cX9_copied 5 = .ok (.if_icmp .ge 15, 3) := by decide +kernel
theorem dX9_copied_8 : decode cX9_copied 8 = .ok (.aload_n 1, 1) := by decide +kernel
theorem dX9_copied_9 : decode cX9_copied 9 = .ok (.iload_n 2, 1) := by decide +kernel
theorem dX9_copied_10 : decode cX9_copied 10 = .ok (.aload_n 0, 1) := by decide +kernel
theorem dX9_copied_11 : decode cX9_copied 11 = .ok (.iload_n 2, 1) := by decide +kernel
theorem dX9_copied_12 : decode cX9_copied 12 = .ok (.iaload, 1) := by decide +kernel
theorem dX9_copied_13 : decode cX9_copied 13 = .ok (.iastore, 1) := by decide +kernel
theorem dX9_copied_14 : decode cX9_copied 14 = .ok (.iinc 2 1, 3) := by decide +kernel
theorem dX9_copied_17 : decode cX9_copied 17 = .ok (.goto (-15), 3) := by decide +kernel
theorem dX9_copied_20 : decode cX9_copied 20 = .ok (.return_, 1) := by decide +kernel
set_option maxRecDepth 20000 in
theorem ggX9_takeFrom_X9_copied : GoodIn wsX9_takeFrom wsX9_copied := goodIn_r _ [21] (by decide +kernel) (by decide +kernel)
set_option maxRecDepth 20000 in
theorem gX9_takeFrom_X9_copied : GoodIn wsX9_takeFrom (va_wsS RX9 357 yX9_copied wsX9_copied) := goodIn_app (goodIn_of _ (by decide +kernel)) ggX9_takeFrom_X9_copied
theorem dX9_takeFrom_0 : decode cX9_takeFrom 0 = .ok (.aload_n 0, 1) := by decide +kernel
theorem dX9_takeFrom_1 : decode cX9_takeFrom 1 = .ok (.aload_n 1, 1) := by decide +kernel
theorem dX9_takeFrom_2 : decode cX9_takeFrom 2 = .ok (.getfield 37, 3) := by decide +kernel
theorem dX9_takeFrom_5 : decode cX9_takeFrom 5 = .ok (.putfield 37, 3) := by decide +kernel
theorem dX9_takeFrom_8 : decode cX9_takeFrom 8 = .ok (.aload_n 0, 1) := by decide +kernel
theorem dX9_takeFrom_9 : decode cX9_takeFrom 9 = .ok (.aload_n 1, 1) := by decide +kernel
theorem dX9_takeFrom_10 : decode cX9_takeFrom 10 = .ok (.getfield 151, 3) := by decide +kernel
theorem dX9_takeFrom_13 : decode cX9_takeFrom 13 = .ok (.putfield 151, 3) := by decide +kernel
theorem dX9_takeFrom_16 : decode cX9_takeFrom 16 = .ok (.aload_n 0, 1) := by decide +kernel
theorem dX9_takeFrom_17 : decode cX9_takeFrom 17 = .ok (.aload_n 1, 1) := by decide +kernel
theorem dX9_takeFrom_18 : decode cX9_takeFrom 18 = .ok (.getfield 41, 3) := by decide +kernel
theorem dX9_takeFrom_21 : decode cX9_takeFrom 21 = .ok (.putfield 41, 3) := by decide +kernel
theorem dX9_takeFrom_24 : decode cX9_takeFrom 24 = .ok (.aload_n 0, 1) := by decide +kernel
theorem dX9_takeFrom_25 : decode cX9_takeFrom 25 = .ok (.aload_n 1, 1) := by decide +kernel
theorem dX9_takeFrom_26 : decode cX9_takeFrom 26 = .ok (.getfield 44, 3) := by decide +kernel
theorem dX9_takeFrom_29 : decode cX9_takeFrom 29 = .ok (.putfield 44, 3) := by decide +kernel
theorem dX9_takeFrom_32 : decode cX9_takeFrom 32 = .ok (.aload_n 0, 1) := by decide +kernel
theorem dX9_takeFrom_33 : decode cX9_takeFrom 33 = .ok (.aload_n 1, 1) := by decide +kernel
theorem dX9_takeFrom_34 : decode cX9_takeFrom 34 = .ok (.getfield 47, 3) := by decide +kernel
theorem dX9_takeFrom_37 : decode cX9_takeFrom 37 = .ok (.putfield 47, 3) := by decide +kernel
theorem dX9_takeFrom_40 : decode cX9_takeFrom 40 = .ok (.aload_n 0, 1) := by decide +kernel
theorem dX9_takeFrom_41 : decode cX9_takeFrom 41 = .ok (.aload_n 1, 1) := by decide +kernel
theorem dX9_takeFrom_42 : decode cX9_takeFrom 42 = .ok (.getfield 340, 3) := by decide +kernel
theorem dX9_takeFrom_45 : decode cX9_takeFrom 45 = .ok (.putfield 340, 3) := by decide +kernel
theorem dX9_takeFrom_48 : decode cX9_takeFrom 48 = .ok (.aload_n 0, 1) := by decide +kernel
theorem dX9_takeFrom_49 : decode cX9_takeFrom 49 = .ok (.aload_n 1, 1) := by decide +kernel
theorem dX9_takeFrom_50 : decode cX9_takeFrom 50 = .ok (.getfield 337, 3) := by decide +kernel
theorem dX9_takeFrom_53 : decode cX9_takeFrom 53 = .ok (.putfield 337, 3) := by decide +kernel
theorem dX9_takeFrom_56 : decode cX9_takeFrom 56 = .ok (.aload_n 0, 1) := by decide +kernel
theorem dX9_takeFrom_57 : decode cX9_takeFrom 57 = .ok (.aload_n 1, 1) := by decide +kernel
theorem dX9_takeFrom_58 : decode cX9_takeFrom 58 = .ok (.getfield 334, 3) := by decide +kernel
theorem dX9_takeFrom_61 : decode cX9_takeFrom 61 = .ok (.putfield 334, 3) := by decide +kernel
theorem dX9_takeFrom_64 : decode cX9_takeFrom 64 = .ok (.aload_n 0, 1) := by decide +kernel
theorem dX9_takeFrom_65 : decode cX9_takeFrom 65 = .ok (.aload_n 1, 1) := by decide +kernel
theorem dX9_takeFrom_66 : decode cX9_takeFrom 66 = .ok (.getfield 93, 3) := by decide +kernel
theorem dX9_takeFrom_69 : decode cX9_takeFrom 69 = .ok (.putfield 93, 3) := by decide +kernel
theorem dX9_takeFrom_72 : decode cX9_takeFrom 72 = .ok (.aload_n 0, 1) := by decide +kernel
theorem dX9_takeFrom_73 : decode cX9_takeFrom 73 = .ok (.aload_n 1, 1) := by decide +kernel
theorem dX9_takeFrom_74 : decode cX9_takeFrom 74 = .ok (.getfield 100, 3) := by decide +kernel
theorem dX9_takeFrom_77 : decode cX9_takeFrom 77 = .ok (.putfield 100, 3) := by decide +kernel
theorem dX9_takeFrom_80 : decode cX9_takeFrom 80 = .ok (.aload_n 1, 1) := by decide +kernel
theorem dX9_takeFrom_81 : decode cX9_takeFrom 81 = .ok (.getfield 50, 3) := by decide +kernel
theorem dX9_takeFrom_84 : decode cX9_takeFrom 84 = .ok (.aload_n 0, 1) := by decide +kernel
theorem dX9_takeFrom_85 : decode cX9_takeFrom 85 = .ok (.getfield 50, 3) := by decide +kernel
theorem dX9_takeFrom_88 : decode cX9_takeFrom 88 = .ok (.invokestatic 357, 3) := by decide +kernel
theorem dX9_takeFrom_91 : decode cX9_takeFrom 91 = .ok (.aload_n 1, 1) := by decide +kernel
theorem dX9_takeFrom_92 : decode cX9_takeFrom 92 = .ok (.getfield 53, 3) := by decide +kernel
theorem dX9_takeFrom_95 : decode cX9_takeFrom 95 = .ok (.aload_n 0, 1) := by decide +kernel
theorem dX9_takeFrom_96 : decode cX9_takeFrom 96 = .ok (.getfield 53, 3) := by decide +kernel
theorem dX9_takeFrom_99 : decode cX9_takeFrom 99 = .ok (.invokestatic 357, 3) := by decide +kernel
theorem dX9_takeFrom_102 : decode cX9_takeFrom 102 = .ok (.aload_n 1, 1) := by decide +kernel
theorem dX9_takeFrom_103 : decode cX9_takeFrom 103 = .ok (.getfield 56, 3) := by decide +kernel
theorem dX9_takeFrom_106 : decode cX9_takeFrom 106 = .ok (.aload_n 0, 1) := by decide +kernel
theorem dX9_takeFrom_107 : decode cX9_takeFrom 107 = .ok (.getfield 56, 3) := by decide +kernel
theorem dX9_takeFrom_110 : decode cX9_takeFrom 110 = .ok (.invokestatic 357, 3) := by decide +kernel
theorem dX9_takeFrom_113 : decode cX9_takeFrom 113 = .ok (.aload_n 1, 1) := by decide +kernel
theorem dX9_takeFrom_114 : decode cX9_takeFrom 114 = .ok (.getfield 59, 3) := by decide +kernel
theorem dX9_takeFrom_117 : decode cX9_takeFrom 117 = .ok (.aload_n 0, 1) := by decide +kernel
theorem dX9_takeFrom_118 : decode cX9_takeFrom 118 = .ok (.getfield 59, 3) := by decide +kernel
theorem dX9_takeFrom_121 : decode cX9_takeFrom 121 = .ok (.invokestatic 357, 3) := by decide +kernel
theorem dX9_takeFrom_124 : decode cX9_takeFrom 124 = .ok (.aload_n 1, 1) := by decide +kernel
theorem dX9_takeFrom_125 : decode cX9_takeFrom 125 = .ok (.getfield 62, 3) := by decide +kernel
theorem dX9_takeFrom_128 : decode cX9_takeFrom 128 = .ok (.aload_n 0, 1) := by decide +kernel
theorem dX9_takeFrom_129 : decode cX9_takeFrom 129 = .ok (.getfield 62, 3) := by decide +kernel
theorem dX9_takeFrom_132 : decode cX9_takeFrom 132 = .ok (.invokestatic 357, 3) := by decide +kernel
theorem dX9_takeFrom_135 : decode cX9_takeFrom 135 = .ok (.aload_n 1, 1) := by decide +kernel
theorem dX9_takeFrom_136 : decode cX9_takeFrom 136 = .ok (.getfield 65, 3) := by decide +kernel
theorem dX9_takeFrom_139 : decode cX9_takeFrom 139 = .ok (.aload_n 0, 1) := by decide +kernel
theorem dX9_takeFrom_140 : decode cX9_takeFrom 140 = .ok (.getfield 65, 3) := by decide +kernel
theorem dX9_takeFrom_143 : decode cX9_takeFrom 143 = .ok (.invokestatic 357, 3) := by decide +kernel
theorem dX9_takeFrom_146 : decode cX9_takeFrom 146 = .ok (.aload_n 0, 1) := by decide +kernel
theorem dX9_takeFrom_147 : decode cX9_takeFrom 147 = .ok (.aload_n 1, 1) := by decide +kernel
theorem dX9_takeFrom_148 : decode cX9_takeFrom 148 = .ok (.getfield 68, 3) := by decide +kernel
theorem dX9_takeFrom_151 : decode cX9_takeFrom 151 = .ok (.putfield 68, 3) := by decide +kernel
theorem dX9_takeFrom_154 : decode cX9_takeFrom 154 = .ok (.return_, 1) := by decide +kernel
set_option maxRecDepth 20000 in
theorem ggX9_image_X9_init : GoodIn wsX9_image wsX9_init := goodIn_r _ [7, 8, 9, 10, 11, 12, 13, 14, 15, 16, 17, 18, 19, 20, 21, 22, 23, 24, 25, 26, 27, 28, 29, 30, 31, 32, 33, 34, 35, 36, 37, 38, 39, 40, 41, 55, 56, 57, 58, 59, 60, 61, 62, 63, 64, 65, 66, 67, 68, 69, 70, 71, 72, 73, 74, 75, 76, 77, 78, 79, 80, 81, 82, 83, 84, 85, 86, 87, 88, 89, 90, 91, 92, 93, 94, 95, 96] (by decide +kernel) (by decide +kernel)
set_option maxRecDepth 20000 in
theorem gX9_image_X9_init : GoodIn wsX9_image (wsX9_init) := ggX9_image_X9_init
set_option maxRecDepth 20000 in
theorem ggX9_image_X9_takeFrom : GoodIn wsX9_image wsX9_takeFrom := goodIn_r _ [45, 22, 46, 23, 24, 25, 47, 48, 49, 50, 51, 26, 27, 28, 29, 30, 31, 32, 52, 53, 4, 54, 55, 56, 57, 58, 59, 60, 61, 62, 63, 64, 65, 66, 67, 68, 69, 70, 71, 72, 73, 74, 75, 76, 77, 78, 79, 80, 81, 82, 83, 84, 85, 86, 87, 88, 89, 90, 91, 92, 93, 94, 95, 96] (by decide +kernel) (by decide +kernel)
set_option maxRecDepth 20000 in
theorem gX9_image_X9_takeFrom : GoodIn wsX9_image (wsV RX9 246 RX9 yX9_takeFrom wsX9_takeFrom) := goodIn_app (goodIn_of _ (by decide +kernel)) ggX9_image_X9_takeFrom
theorem dX9_image_0 : decode cX9_image 0 = .ok (.aload_n 0, 1) := by decide +kernel
theorem dX9_image_1 : decode cX9_image 1 = .ok (.getfield 361, 3) := by decide +kernel
theorem dX9_image_4 : decode cX9_image 4 = .ok (.ifnonnull 14, 3) := by decide +kernel
theorem dX9_image_7 : decode cX9_image 7 = .ok (.aload_n 0, 1) := by decide +kernel
theorem dX9_image_8 : decode cX9_image 8 = .ok (.new 8, 3) := by decide +kernel
theorem dX9_image_11 : decode cX9_image 11 = .ok (.dup, 1) := by decide +kernel
theorem dX9_image_12 : decode cX9_image 12 = .ok (.invokespecial 245, 3) := by decide +kernel
theorem dX9_image_15 : decode cX9_image 15 = .ok (.putfield 361, 3) := by decide +kernel
theorem dX9_image_18 : decode cX9_image 18 = .ok (.aload_n 0, 1) := by decide +kernel
theorem dX9_image_19 : decode cX9_image 19 = .ok (.getfield 361, 3) := by decide +kernel
theorem dX9_image_22 : decode cX9_image 22 = .ok (.aload_n 0, 1) := by decide +kernel
theorem dX9_image_23 : decode cX9_image 23 = .ok (.invokevirtual 246, 3) := by decide +kernel
theorem dX9_image_26 : decode cX9_image 26 = .ok (.iconst 1, 1) := by decide +kernel
theorem dX9_image_27 : decode cX9_image 27 = .ok (.ireturn, 1) := by decide +kernel
set_option maxRecDepth 20000 in
theorem ggX9_back_X9_refuse : GoodIn wsX9_back wsX9_refuse := goodIn_r _ [9, 10, 34, 35, 36, 37, 38, 39, 40, 41, 42, 43, 44, 45, 46, 47, 48, 49, 50, 51, 52, 53, 54, 55, 56, 57, 58, 59, 60, 61, 62, 63, 64, 65, 66, 67, 68, 69, 70, 71, 72, 73, 74, 75] (by decide +kernel) (by decide +kernel)
set_option maxRecDepth 20000 in
theorem gX9_back_X9_refuse : GoodIn wsX9_back (wsV RX9 109 RX9 yX9_refuse wsX9_refuse) := goodIn_app (goodIn_of _ (by decide +kernel)) ggX9_back_X9_refuse
set_option maxRecDepth 20000 in
theorem ggX9_back_X9_takeFrom : GoodIn wsX9_back wsX9_takeFrom := goodIn_r _ [14, 15, 16, 17, 18, 19, 20, 21, 22, 4, 23, 24, 25, 26, 27, 28, 29, 30, 31, 32, 8, 33, 34, 35, 36, 37, 38, 39, 40, 41, 42, 43, 44, 45, 46, 47, 48, 49, 50, 51, 52, 53, 54, 55, 56, 57, 58, 59, 60, 61, 62, 63, 64, 65, 66, 67, 68, 69, 70, 71, 72, 73, 74, 75] (by decide +kernel) (by decide +kernel)
set_option maxRecDepth 20000 in
theorem gX9_back_X9_takeFrom : GoodIn wsX9_back (wsV RX9 246 RX9 yX9_takeFrom wsX9_takeFrom) := goodIn_app (goodIn_of _ (by decide +kernel)) ggX9_back_X9_takeFrom
theorem dX9_back_0 : decode cX9_back 0 = .ok (.aload_n 0, 1) := by decide +kernel
theorem dX9_back_1 : decode cX9_back 1 = .ok (.getfield 361, 3) := by decide +kernel
theorem dX9_back_4 : decode cX9_back 4 = .ok (.ifnonnull 11, 3) := by decide +kernel
theorem dX9_back_7 : decode cX9_back 7 = .ok (.aload_n 0, 1) := by decide +kernel
theorem dX9_back_8 : decode cX9_back 8 = .ok (.sipush (-1005), 3) := by decide +kernel
theorem dX9_back_11 : decode cX9_back 11 = .ok (.invokevirtual 109, 3) := by decide +kernel
theorem dX9_back_14 : decode cX9_back 14 = .ok (.ireturn, 1) := by decide +kernel
theorem dX9_back_15 : decode cX9_back 15 = .ok (.aload_n 0, 1) := by decide +kernel
theorem dX9_back_16 : decode cX9_back 16 = .ok (.aload_n 0, 1) := by decide +kernel
theorem dX9_back_17 : decode cX9_back 17 = .ok (.getfield 361, 3) := by decide +kernel
theorem dX9_back_20 : decode cX9_back 20 = .ok (.invokevirtual 246, 3) := by decide +kernel
theorem dX9_back_23 : decode cX9_back 23 = .ok (.iconst 0, 1) := by decide +kernel
theorem dX9_back_24 : decode cX9_back 24 = .ok (.istore_n 1, 1) := by decide +kernel
theorem dX9_back_25 : decode cX9_back 25 = .ok (.iload_n 1, 1) := by decide +kernel
theorem dX9_back_26 : decode cX9_back 26 = .ok (.bipush 8, 2) := by decide +kernel
theorem dX9_back_28 : decode cX9_back 28 = .ok (.if_icmp .ge 39, 3) := by decide +kernel
theorem dX9_back_31 : decode cX9_back 31 = .ok (.aload_n 0, 1) := by decide +kernel
theorem dX9_back_32 : decode cX9_back 32 = .ok (.getfield 7, 3) := by decide +kernel
theorem dX9_back_35 : decode cX9_back 35 = .ok (.iload_n 1, 1) := by decide +kernel
theorem dX9_back_36 : decode cX9_back 36 = .ok (.iaload, 1) := by decide +kernel
theorem dX9_back_37 : decode cX9_back 37 = .ok (.iconst 2, 1) := by decide +kernel
theorem dX9_back_38 : decode cX9_back 38 = .ok (.if_icmp .ne 23, 3) := by decide +kernel
theorem dX9_back_41 : decode cX9_back 41 = .ok (.aload_n 0, 1) := by decide +kernel
theorem dX9_back_42 : decode cX9_back 42 = .ok (.getfield 28, 3) := by decide +kernel
theorem dX9_back_45 : decode cX9_back 45 = .ok (.iload_n 1, 1) := by decide +kernel
theorem dX9_back_46 : decode cX9_back 46 = .ok (.iaload, 1) := by decide +kernel
theorem dX9_back_47 : decode cX9_back 47 = .ok (.aload_n 0, 1) := by decide +kernel
theorem dX9_back_48 : decode cX9_back 48 = .ok (.getfield 93, 3) := by decide +kernel
theorem dX9_back_51 : decode cX9_back 51 = .ok (.if_icmp .lt 10, 3) := by decide +kernel
theorem dX9_back_54 : decode cX9_back 54 = .ok (.aload_n 0, 1) := by decide +kernel
theorem dX9_back_55 : decode cX9_back 55 = .ok (.getfield 7, 3) := by decide +kernel
theorem dX9_back_58 : decode cX9_back 58 = .ok (.iload_n 1, 1) := by decide +kernel
theorem dX9_back_59 : decode cX9_back 59 = .ok (.iconst 0, 1) := by decide +kernel
theorem dX9_back_60 : decode cX9_back 60 = .ok (.iastore, 1) := by decide +kernel
theorem dX9_back_61 : decode cX9_back 61 = .ok (.iinc 1 1, 3) := by decide +kernel
theorem dX9_back_64 : decode cX9_back 64 = .ok (.goto (-39), 3) := by decide +kernel
theorem dX9_back_67 : decode cX9_back 67 = .ok (.iconst 1, 1) := by decide +kernel
theorem dX9_back_68 : decode cX9_back 68 = .ok (.ireturn, 1) := by decide +kernel
set_option maxRecDepth 20000 in
theorem ggX9_status_X9_in : GoodIn wsX9_status wsX9_in := goodIn_r _ [20] (by decide +kernel) (by decide +kernel)
set_option maxRecDepth 20000 in
theorem gX9_status_X9_in : GoodIn wsX9_status (va_wsS RX9 96 yX9_in wsX9_in) := goodIn_app (goodIn_of _ (by decide +kernel)) ggX9_status_X9_in
theorem dX9_status_0 : decode cX9_status 0 = .ok (.iload_n 1, 1) := by decide +kernel
theorem dX9_status_1 : decode cX9_status 1 = .ok (.tableswitch 182 0 17 #[87, 92, 97, 102, 107, 112, 117, 122, 127, 132, 137, 142, 182, 182, 182, 182, 182, 147], 87) := by decide +kernel
theorem dX9_status_88 : decode cX9_status 88 = .ok (.aload_n 0, 1) := by decide +kernel
theorem dX9_status_89 : decode cX9_status 89 = .ok (.getfield 93, 3) := by decide +kernel
theorem dX9_status_92 : decode cX9_status 92 = .ok (.ireturn, 1) := by decide +kernel
theorem dX9_status_93 : decode cX9_status 93 = .ok (.aload_n 0, 1) := by decide +kernel
theorem dX9_status_94 : decode cX9_status 94 = .ok (.getfield 37, 3) := by decide +kernel
theorem dX9_status_97 : decode cX9_status 97 = .ok (.ireturn, 1) := by decide +kernel
theorem dX9_status_98 : decode cX9_status 98 = .ok (.aload_n 0, 1) := by decide +kernel
theorem dX9_status_99 : decode cX9_status 99 = .ok (.getfield 151, 3) := by decide +kernel
theorem dX9_status_102 : decode cX9_status 102 = .ok (.ireturn, 1) := by decide +kernel
theorem dX9_status_103 : decode cX9_status 103 = .ok (.aload_n 0, 1) := by decide +kernel
theorem dX9_status_104 : decode cX9_status 104 = .ok (.getfield 41, 3) := by decide +kernel
theorem dX9_status_107 : decode cX9_status 107 = .ok (.ireturn, 1) := by decide +kernel
theorem dX9_status_108 : decode cX9_status 108 = .ok (.aload_n 0, 1) := by decide +kernel
theorem dX9_status_109 : decode cX9_status 109 = .ok (.getfield 44, 3) := by decide +kernel
theorem dX9_status_112 : decode cX9_status 112 = .ok (.ireturn, 1) := by decide +kernel
theorem dX9_status_113 : decode cX9_status 113 = .ok (.aload_n 0, 1) := by decide +kernel
theorem dX9_status_114 : decode cX9_status 114 = .ok (.getfield 47, 3) := by decide +kernel
theorem dX9_status_117 : decode cX9_status 117 = .ok (.ireturn, 1) := by decide +kernel
theorem dX9_status_118 : decode cX9_status 118 = .ok (.aload_n 0, 1) := by decide +kernel
theorem dX9_status_119 : decode cX9_status 119 = .ok (.getfield 340, 3) := by decide +kernel
theorem dX9_status_122 : decode cX9_status 122 = .ok (.ireturn, 1) := by decide +kernel
theorem dX9_status_123 : decode cX9_status 123 = .ok (.aload_n 0, 1) := by decide +kernel
theorem dX9_status_124 : decode cX9_status 124 = .ok (.getfield 337, 3) := by decide +kernel
theorem dX9_status_127 : decode cX9_status 127 = .ok (.ireturn, 1) := by decide +kernel
theorem dX9_status_128 : decode cX9_status 128 = .ok (.aload_n 0, 1) := by decide +kernel
theorem dX9_status_129 : decode cX9_status 129 = .ok (.getfield 334, 3) := by decide +kernel
theorem dX9_status_132 : decode cX9_status 132 = .ok (.ireturn, 1) := by decide +kernel
theorem dX9_status_133 : decode cX9_status 133 = .ok (.aload_n 0, 1) := by decide +kernel
theorem dX9_status_134 : decode cX9_status 134 = .ok (.getfield 100, 3) := by decide +kernel
theorem dX9_status_137 : decode cX9_status 137 = .ok (.ireturn, 1) := by decide +kernel
theorem dX9_status_138 : decode cX9_status 138 = .ok (.aload_n 0, 1) := by decide +kernel
theorem dX9_status_139 : decode cX9_status 139 = .ok (.getfield 161, 3) := by decide +kernel
theorem dX9_status_142 : decode cX9_status 142 = .ok (.ireturn, 1) := by decide +kernel
theorem dX9_status_143 : decode cX9_status 143 = .ok (.aload_n 0, 1) := by decide +kernel
theorem dX9_status_144 : decode cX9_status 144 = .ok (.getfield 68, 3) := by decide +kernel
theorem dX9_status_147 : decode cX9_status 147 = .ok (.ireturn, 1) := by decide +kernel
theorem dX9_status_148 : decode cX9_status 148 = .ok (.iconst 0, 1) := by decide +kernel
theorem dX9_status_149 : decode cX9_status 149 = .ok (.istore_n 2, 1) := by decide +kernel
theorem dX9_status_150 : decode cX9_status 150 = .ok (.iconst 0, 1) := by decide +kernel
theorem dX9_status_151 : decode cX9_status 151 = .ok (.istore_n 3, 1) := by decide +kernel
theorem dX9_status_152 : decode cX9_status 152 = .ok (.iload_n 3, 1) := by decide +kernel
theorem dX9_status_153 : decode cX9_status 153 = .ok (.bipush 8, 2) := by decide +kernel
theorem dX9_status_155 : decode cX9_status 155 = .ok (.if_icmp .ge 26, 3) := by decide +kernel
theorem dX9_status_158 : decode cX9_status 158 = .ok (.iload_n 2, 1) := by decide +kernel
theorem dX9_status_159 : decode cX9_status 159 = .ok (.aload_n 0, 1) := by decide +kernel
theorem dX9_status_160 : decode cX9_status 160 = .ok (.getfield 7, 3) := by decide +kernel
theorem dX9_status_163 : decode cX9_status 163 = .ok (.iload_n 3, 1) := by decide +kernel
theorem dX9_status_164 : decode cX9_status 164 = .ok (.iaload, 1) := by decide +kernel
theorem dX9_status_165 : decode cX9_status 165 = .ok (.ifCond .eq 7, 3) := by decide +kernel
theorem dX9_status_168 : decode cX9_status 168 = .ok (.iconst 1, 1) := by decide +kernel
theorem dX9_status_169 : decode cX9_status 169 = .ok (.goto 4, 3) := by decide +kernel
theorem dX9_status_172 : decode cX9_status 172 = .ok (.iconst 0, 1) := by decide +kernel
theorem dX9_status_173 : decode cX9_status 173 = .ok (.iadd, 1) := by decide +kernel
theorem dX9_status_174 : decode cX9_status 174 = .ok (.istore_n 2, 1) := by decide +kernel
theorem dX9_status_175 : decode cX9_status 175 = .ok (.iinc 3 1, 3) := by decide +kernel
theorem dX9_status_178 : decode cX9_status 178 = .ok (.goto (-26), 3) := by decide +kernel
theorem dX9_status_181 : decode cX9_status 181 = .ok (.iload_n 2, 1) := by decide +kernel
theorem dX9_status_182 : decode cX9_status 182 = .ok (.ireturn, 1) := by decide +kernel
theorem dX9_status_183 : decode cX9_status 183 = .ok (.iload_n 1, 1) := by decide +kernel
theorem dX9_status_184 : decode cX9_status 184 = .ok (.i2l, 1) := by decide +kernel
theorem dX9_status_185 : decode cX9_status 185 = .ok (.ldc2_w 364, 3) := by decide +kernel
theorem dX9_status_188 : decode cX9_status 188 = .ok (.ldc2_w 366, 3) := by decide +kernel
theorem dX9_status_191 : decode cX9_status 191 = .ok (.invokestatic 96, 3) := by decide +kernel
theorem dX9_status_194 : decode cX9_status 194 = .ok (.ifCond .eq 15, 3) := by decide +kernel
theorem dX9_status_197 : decode cX9_status 197 = .ok (.aload_n 0, 1) := by decide +kernel
theorem dX9_status_198 : decode cX9_status 198 = .ok (.getfield 34, 3) := by decide +kernel
theorem dX9_status_201 : decode cX9_status 201 = .ok (.iload_n 1, 1) := by decide +kernel
theorem dX9_status_202 : decode cX9_status 202 = .ok (.bipush 10, 2) := by decide +kernel
theorem dX9_status_204 : decode cX9_status 204 = .ok (.isub, 1) := by decide +kernel
theorem dX9_status_205 : decode cX9_status 205 = .ok (.iaload, 1) := by decide +kernel
theorem dX9_status_206 : decode cX9_status 206 = .ok (.goto 4, 3) := by decide +kernel
theorem dX9_status_209 : decode cX9_status 209 = .ok (.iconst (-1), 1) := by decide +kernel
theorem dX9_status_210 : decode cX9_status 210 = .ok (.ireturn, 1) := by decide +kernel
