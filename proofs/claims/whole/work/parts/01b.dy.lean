set_option maxRecDepth 20000 in
theorem ggX8_init_X2_init : GoodIn wsX8_init wsX2_init := goodIn_r _ [42, 43, 2, 3, 16, 44, 45, 46, 47, 48, 49, 50, 51, 52, 53, 54, 55, 90, 91, 92, 93, 94, 95, 96, 97, 98, 99, 100, 101, 102] (by decide +kernel) (by decide +kernel)
set_option maxRecDepth 20000 in
theorem gX8_init_X2_init : GoodIn wsX8_init (wsX2_init) := ggX8_init_X2_init
set_option maxRecDepth 20000 in
theorem ggX8_init_X7_init : GoodIn wsX8_init wsX7_init := goodIn_r _ [57, 58, 2, 3, 16, 59, 115, 116, 117, 118, 119, 120] (by decide +kernel) (by decide +kernel)
set_option maxRecDepth 20000 in
theorem gX8_init_X7_init_n24 : GoodIn wsX8_init (wsX7_init) := ggX8_init_X7_init
set_option maxRecDepth 20000 in
theorem ggX8_init_X5_init : GoodIn wsX8_init wsX5_init := goodIn_r _ [61, 62, 2, 3, 16, 63, 64, 121, 122, 123] (by decide +kernel) (by decide +kernel)
set_option maxRecDepth 20000 in
theorem gX8_init_X5_init_n41 : GoodIn wsX8_init (wsX5_init) := ggX8_init_X5_init
set_option maxRecDepth 20000 in
theorem ggX8_init_X4_init : GoodIn wsX8_init wsX4_init := goodIn_r _ [66, 67, 2, 3, 16, 68, 69, 124, 125, 126] (by decide +kernel) (by decide +kernel)
set_option maxRecDepth 20000 in
theorem gX8_init_X4_init_n48 : GoodIn wsX8_init (wsX4_init) := ggX8_init_X4_init
set_option maxRecDepth 20000 in
theorem ggX8_init_X1_init : GoodIn wsX8_init wsX1_init := goodIn_r _ [71, 72, 2, 3, 73, 74, 16, 75, 127, 128] (by decide +kernel) (by decide +kernel)
set_option maxRecDepth 20000 in
theorem gX8_init_X1_init_n55 : GoodIn wsX8_init (wsX1_init) := ggX8_init_X1_init
set_option maxRecDepth 20000 in
theorem ggX8_init_X0_init : GoodIn wsX8_init wsX0_init := goodIn_r _ [77, 78, 2, 3, 73, 79, 16, 80, 129, 130, 131] (by decide +kernel) (by decide +kernel)
set_option maxRecDepth 20000 in
theorem gX8_init_X0_init_n62 : GoodIn wsX8_init (wsX0_init) := ggX8_init_X0_init
set_option maxRecDepth 20000 in
theorem ggX8_init_X3_init : GoodIn wsX8_init wsX3_init := goodIn_r _ [82, 83, 2, 3] (by decide +kernel) (by decide +kernel)
set_option maxRecDepth 20000 in
theorem gX8_init_X3_init_n69 : GoodIn wsX8_init (wsX3_init) := ggX8_init_X3_init
set_option maxRecDepth 20000 in
theorem ggX8_init_X6_init : GoodIn wsX8_init wsX6_init := goodIn_r _ [85, 86, 2, 3, 87, 88, 89, 135, 136, 137] (by decide +kernel) (by decide +kernel)
set_option maxRecDepth 20000 in
theorem gX8_init_X6_init_n74 : GoodIn wsX8_init (wsX6_init) := ggX8_init_X6_init
theorem dX8_init_0 : decode cX8_init 0 = .ok (.aload_n 0, 1) := by decide +kernel
theorem dX8_init_1 : decode cX8_init 1 = .ok (.invokespecial 3, 3) := by decide +kernel
theorem dX8_init_4 : decode cX8_init 4 = .ok (.aload_n 0, 1) := by decide +kernel
theorem dX8_init_5 : decode cX8_init 5 = .ok (.new 9, 3) := by decide +kernel
theorem dX8_init_8 : decode cX8_init 8 = .ok (.dup, 1) := by decide +kernel
theorem dX8_init_9 : decode cX8_init 9 = .ok (.invokespecial 11, 3) := by decide +kernel
theorem dX8_init_12 : decode cX8_init 12 = .ok (.putfield 12, 3) := by decide +kernel
theorem dX8_init_15 : decode cX8_init 15 = .ok (.aload_n 0, 1) := by decide +kernel
theorem dX8_init_16 : decode cX8_init 16 = .ok (.new 9, 3) := by decide +kernel
theorem dX8_init_19 : decode cX8_init 19 = .ok (.dup, 1) := by decide +kernel
theorem dX8_init_20 : decode cX8_init 20 = .ok (.invokespecial 11, 3) := by decide +kernel
theorem dX8_init_23 : decode cX8_init 23 = .ok (.putfield 16, 3) := by decide +kernel
theorem dX8_init_26 : decode cX8_init 26 = .ok (.aload_n 0, 1) := by decide +kernel
theorem dX8_init_27 : decode cX8_init 27 = .ok (.new 9, 3) := by decide +kernel
theorem dX8_init_30 : decode cX8_init 30 = .ok (.dup, 1) := by decide +kernel
theorem dX8_init_31 : decode cX8_init 31 = .ok (.invokespecial 11, 3) := by decide +kernel
theorem dX8_init_34 : decode cX8_init 34 = .ok (.putfield 19, 3) := by decide +kernel
theorem dX8_init_37 : decode cX8_init 37 = .ok (.aload_n 0, 1) := by decide +kernel
theorem dX8_init_38 : decode cX8_init 38 = .ok (.new 22, 3) := by decide +kernel
theorem dX8_init_41 : decode cX8_init 41 = .ok (.dup, 1) := by decide +kernel
theorem dX8_init_42 : decode cX8_init 42 = .ok (.invokespecial 24, 3) := by decide +kernel
theorem dX8_init_45 : decode cX8_init 45 = .ok (.putfield 25, 3) := by decide +kernel
theorem dX8_init_48 : decode cX8_init 48 = .ok (.aload_n 0, 1) := by decide +kernel
theorem dX8_init_49 : decode cX8_init 49 = .ok (.bipush 8, 2) := by decide +kernel
theorem dX8_init_51 : decode cX8_init 51 = .ok (.anewarray 29, 3) := by decide +kernel
theorem dX8_init_54 : decode cX8_init 54 = .ok (.putfield 31, 3) := by decide +kernel
theorem dX8_init_57 : decode cX8_init 57 = .ok (.aload_n 0, 1) := by decide +kernel
theorem dX8_init_58 : decode cX8_init 58 = .ok (.iconst 5, 1) := by decide +kernel
theorem dX8_init_59 : decode cX8_init 59 = .ok (.newarray .int, 2) := by decide +kernel
theorem dX8_init_61 : decode cX8_init 61 = .ok (.putfield 35, 3) := by decide +kernel
theorem dX8_init_64 : decode cX8_init 64 = .ok (.aload_n 0, 1) := by decide +kernel
theorem dX8_init_65 : decode cX8_init 65 = .ok (.new 39, 3) := by decide +kernel
theorem dX8_init_68 : decode cX8_init 68 = .ok (.dup, 1) := by decide +kernel
theorem dX8_init_69 : decode cX8_init 69 = .ok (.invokespecial 41, 3) := by decide +kernel
theorem dX8_init_72 : decode cX8_init 72 = .ok (.putfield 42, 3) := by decide +kernel
theorem dX8_init_75 : decode cX8_init 75 = .ok (.aload_n 0, 1) := by decide +kernel
theorem dX8_init_76 : decode cX8_init 76 = .ok (.new 46, 3) := by decide +kernel
theorem dX8_init_79 : decode cX8_init 79 = .ok (.dup, 1) := by decide +kernel
theorem dX8_init_80 : decode cX8_init 80 = .ok (.invokespecial 48, 3) := by decide +kernel
theorem dX8_init_83 : decode cX8_init 83 = .ok (.putfield 49, 3) := by decide +kernel
theorem dX8_init_86 : decode cX8_init 86 = .ok (.aload_n 0, 1) := by decide +kernel
theorem dX8_init_87 : decode cX8_init 87 = .ok (.new 53, 3) := by decide +kernel
theorem dX8_init_90 : decode cX8_init 90 = .ok (.dup, 1) := by decide +kernel
theorem dX8_init_91 : decode cX8_init 91 = .ok (.invokespecial 55, 3) := by decide +kernel
theorem dX8_init_94 : decode cX8_init 94 = .ok (.putfield 56, 3) := by decide +kernel
theorem dX8_init_97 : decode cX8_init 97 = .ok (.aload_n 0, 1) := by decide +kernel
theorem dX8_init_98 : decode cX8_init 98 = .ok (.new 60, 3) := by decide +kernel
theorem dX8_init_101 : decode cX8_init 101 = .ok (.dup, 1) := by decide +kernel
theorem dX8_init_102 : decode cX8_init 102 = .ok (.invokespecial 62, 3) := by decide +kernel
theorem dX8_init_105 : decode cX8_init 105 = .ok (.putfield 63, 3) := by decide +kernel
theorem dX8_init_108 : decode cX8_init 108 = .ok (.aload_n 0, 1) := by decide +kernel
theorem dX8_init_109 : decode cX8_init 109 = .ok (.new 67, 3) := by decide +kernel
theorem dX8_init_112 : decode cX8_init 112 = .ok (.dup, 1) := by decide +kernel
theorem dX8_init_113 : decode cX8_init 113 = .ok (.invokespecial 69, 3) := by decide +kernel
theorem dX8_init_116 : decode cX8_init 116 = .ok (.putfield 70, 3) := by decide +kernel
theorem dX8_init_119 : decode cX8_init 119 = .ok (.iconst 0, 1) := by decide +kernel
theorem dX8_init_120 : decode cX8_init 120 = .ok (.istore_n 1, 1) := by decide +kernel
theorem dX8_init_121 : decode cX8_init 121 = .ok (.iload_n 1, 1) := by decide +kernel
theorem dX8_init_122 : decode cX8_init 122 = .ok (.bipush 8, 2) := by decide +kernel
theorem dX8_init_124 : decode cX8_init 124 = .ok (.if_icmp .ge 22, 3) := by decide +kernel
theorem dX8_init_127 : decode cX8_init 127 = .ok (.aload_n 0, 1) := by decide +kernel
theorem dX8_init_128 : decode cX8_init 128 = .ok (.getfield 31, 3) := by decide +kernel
theorem dX8_init_131 : decode cX8_init 131 = .ok (.iload_n 1, 1) := by decide +kernel
theorem dX8_init_132 : decode cX8_init 132 = .ok (.new 29, 3) := by decide +kernel
theorem dX8_init_135 : decode cX8_init 135 = .ok (.dup, 1) := by decide +kernel
theorem dX8_init_136 : decode cX8_init 136 = .ok (.invokespecial 74, 3) := by decide +kernel
theorem dX8_init_139 : decode cX8_init 139 = .ok (.aastore, 1) := by decide +kernel
theorem dX8_init_140 : decode cX8_init 140 = .ok (.iinc 1 1, 3) := by decide +kernel
theorem dX8_init_143 : decode cX8_init 143 = .ok (.goto (-22), 3) := by decide +kernel
theorem dX8_init_146 : decode cX8_init 146 = .ok (.return_, 1) := by decide +kernel
set_option maxRecDepth 20000 in
theorem ggX8_row_X8_isShelf : GoodIn wsX8_row wsX8_isShelf := goodIn_r _ [5, 6, 7, 4, 8] (by decide +kernel) (by decide +kernel)
set_option maxRecDepth 20000 in
theorem gX8_row_X8_isShelf : GoodIn wsX8_row (va_wsS RX8 75 yX8_isShelf wsX8_isShelf) := goodIn_app (goodIn_of _ (by decide +kernel)) ggX8_row_X8_isShelf
set_option maxRecDepth 20000 in
theorem ggX8_row_X8_within : GoodIn wsX8_row wsX8_within := goodIn_r _ [8] (by decide +kernel) (by decide +kernel)
set_option maxRecDepth 20000 in
theorem gX8_row_X8_within : GoodIn wsX8_row (va_wsS RX8 79 yX8_within wsX8_within) := goodIn_app (goodIn_of _ (by decide +kernel)) ggX8_row_X8_within
set_option maxRecDepth 20000 in
theorem ggX8_row_X8_refuse : GoodIn wsX8_row wsX8_refuse := goodIn_r _ [12, 13, 6, 7, 4, 8, 26, 27, 28, 29, 30, 31, 32, 33, 34, 35, 36, 37] (by decide +kernel) (by decide +kernel)
set_option maxRecDepth 20000 in
theorem gX8_row_X8_refuse : GoodIn wsX8_row (wsV RX8 83 RX8 yX8_refuse wsX8_refuse) := goodIn_app (goodIn_of _ (by decide +kernel)) ggX8_row_X8_refuse
set_option maxRecDepth 20000 in
theorem ggX8_row_X6_takeRow : GoodIn wsX8_row wsX6_takeRow := goodIn_r _ [18, 19, 20, 21, 22, 23, 24, 25, 38, 39, 40] (by decide +kernel) (by decide +kernel)
set_option maxRecDepth 20000 in
theorem gX8_row_X6_takeRow : GoodIn wsX8_row (wsV RX8 87 RX6 yX6_takeRow wsX6_takeRow) := goodIn_app (goodIn_of _ (by decide +kernel)) ggX8_row_X6_takeRow
theorem dX8_row_0 : decode cX8_row 0 = .ok (.iload_n 1, 1) := by decide +kernel
theorem dX8_row_1 : decode cX8_row 1 = .ok (.invokestatic 75, 3) := by decide +kernel
theorem dX8_row_4 : decode cX8_row 4 = .ok (.ifCond .eq 22, 3) := by decide +kernel
theorem dX8_row_7 : decode cX8_row 7 = .ok (.iload_n 2, 1) := by decide +kernel
theorem dX8_row_8 : decode cX8_row 8 = .ok (.iconst 0, 1) := by decide +kernel
theorem dX8_row_9 : decode cX8_row 9 = .ok (.iconst 4, 1) := by decide +kernel
theorem dX8_row_10 : decode cX8_row 10 = .ok (.invokestatic 79, 3) := by decide +kernel
theorem dX8_row_13 : decode cX8_row 13 = .ok (.ifCond .eq 13, 3) := by decide +kernel
theorem dX8_row_16 : decode cX8_row 16 = .ok (.iload_n 3, 1) := by decide +kernel
theorem dX8_row_17 : decode cX8_row 17 = .ok (.iconst 0, 1) := by decide +kernel
theorem dX8_row_18 : decode cX8_row 18 = .ok (.bipush 40, 2) := by decide +kernel
theorem dX8_row_20 : decode cX8_row 20 = .ok (.invokestatic 79, 3) := by decide +kernel
theorem dX8_row_23 : decode cX8_row 23 = .ok (.ifCond .ne 11, 3) := by decide +kernel
theorem dX8_row_26 : decode cX8_row 26 = .ok (.aload_n 0, 1) := by decide +kernel
theorem dX8_row_27 : decode cX8_row 27 = .ok (.sipush (-1002), 3) := by decide +kernel
theorem dX8_row_30 : decode cX8_row 30 = .ok (.invokevirtual 83, 3) := by decide +kernel
theorem dX8_row_33 : decode cX8_row 33 = .ok (.ireturn, 1) := by decide +kernel
theorem dX8_row_34 : decode cX8_row 34 = .ok (.aload_n 0, 1) := by decide +kernel
theorem dX8_row_35 : decode cX8_row 35 = .ok (.getfield 31, 3) := by decide +kernel
theorem dX8_row_38 : decode cX8_row 38 = .ok (.iload_n 1, 1) := by decide +kernel
theorem dX8_row_39 : decode cX8_row 39 = .ok (.aaload, 1) := by decide +kernel
theorem dX8_row_40 : decode cX8_row 40 = .ok (.iload_n 2, 1) := by decide +kernel
theorem dX8_row_41 : decode cX8_row 41 = .ok (.iload_n 3, 1) := by decide +kernel
theorem dX8_row_42 : decode cX8_row 42 = .ok (.invokevirtual 87, 3) := by decide +kernel
theorem dX8_row_45 : decode cX8_row 45 = .ok (.iconst 1, 1) := by decide +kernel
theorem dX8_row_46 : decode cX8_row 46 = .ok (.ireturn, 1) := by decide +kernel
set_option maxRecDepth 20000 in
theorem ggX8_set_X8_rowTrouble : GoodIn wsX8_set wsX8_rowTrouble := goodIn_r _ [6, 1, 7, 8, 5, 9, 10, 11, 12, 13, 14, 15, 16, 17, 18, 19, 20, 21, 22, 44, 45, 46, 47, 48, 49, 50, 51, 52, 53, 54, 55, 56, 57, 58] (by decide +kernel) (by decide +kernel)
set_option maxRecDepth 20000 in
theorem gX8_set_X8_rowTrouble : GoodIn wsX8_set (wsV RX8 91 RX8 yX8_rowTrouble wsX8_rowTrouble) := goodIn_app (goodIn_of _ (by decide +kernel)) ggX8_set_X8_rowTrouble
set_option maxRecDepth 20000 in
theorem ggX8_set_X6_hasPlaces : GoodIn wsX8_set wsX6_hasPlaces := goodIn_r _ [26, 27, 28, 20, 21, 16, 22, 18, 11, 5, 12, 56, 57, 58] (by decide +kernel) (by decide +kernel)
set_option maxRecDepth 20000 in
theorem gX8_set_X6_hasPlaces : GoodIn wsX8_set (wsV RX8 94 RX6 yX6_hasPlaces wsX6_hasPlaces) := goodIn_app (goodIn_of _ (by decide +kernel)) ggX8_set_X6_hasPlaces
set_option maxRecDepth 20000 in
theorem ggX8_set_X8_refuse : GoodIn wsX8_set wsX8_refuse := goodIn_r _ [32, 33, 10, 11, 5, 12, 44, 45, 46, 47, 48, 49, 50, 51, 52, 53, 54, 55] (by decide +kernel) (by decide +kernel)
set_option maxRecDepth 20000 in
theorem gX8_set_X8_refuse : GoodIn wsX8_set (wsV RX8 83 RX8 yX8_refuse wsX8_refuse) := goodIn_app (goodIn_of _ (by decide +kernel)) ggX8_set_X8_refuse
set_option maxRecDepth 20000 in
theorem ggX8_set_X6_put : GoodIn wsX8_set wsX6_put := goodIn_r _ [37, 38, 39, 24, 25, 16, 26, 27, 28, 20, 21, 22, 18, 11, 5, 12, 40, 41, 42, 43, 56, 57, 58] (by decide +kernel) (by decide +kernel)
set_option maxRecDepth 20000 in
theorem gX8_set_X6_put : GoodIn wsX8_set (wsV RX8 98 RX6 yX6_put wsX6_put) := goodIn_app (goodIn_of _ (by decide +kernel)) ggX8_set_X6_put
theorem dX8_set_0 : decode cX8_set 0 = .ok (.aload_n 0, 1) := by decide +kernel
theorem dX8_set_1 : decode cX8_set 1 = .ok (.iload_n 1, 1) := by decide +kernel
theorem dX8_set_2 : decode cX8_set 2 = .ok (.invokevirtual 91, 3) := by decide +kernel
theorem dX8_set_5 : decode cX8_set 5 = .ok (.istore 5, 2) := by decide +kernel
theorem dX8_set_7 : decode cX8_set 7 = .ok (.iload 5, 2) := by decide +kernel
theorem dX8_set_9 : decode cX8_set 9 = .ok (.ifCond .ne 22, 3) := by decide +kernel
theorem dX8_set_12 : decode cX8_set 12 = .ok (.aload_n 0, 1) := by decide +kernel
theorem dX8_set_13 : decode cX8_set 13 = .ok (.getfield 31, 3) := by decide +kernel
theorem dX8_set_16 : decode cX8_set 16 = .ok (.iload_n 1, 1) := by decide +kernel
theorem dX8_set_17 : decode cX8_set 17 = .ok (.aaload, 1) := by decide +kernel
theorem dX8_set_18 : decode cX8_set 18 = .ok (.iload_n 2, 1) := by decide +kernel
theorem dX8_set_19 : decode cX8_set 19 = .ok (.iconst 1, 1) := by decide +kernel
theorem dX8_set_20 : decode cX8_set 20 = .ok (.invokevirtual 94, 3) := by decide +kernel
theorem dX8_set_23 : decode cX8_set 23 = .ok (.ifCond .ne 8, 3) := by decide +kernel
theorem dX8_set_26 : decode cX8_set 26 = .ok (.sipush (-1002), 3) := by decide +kernel
theorem dX8_set_29 : decode cX8_set 29 = .ok (.istore 5, 2) := by decide +kernel
theorem dX8_set_31 : decode cX8_set 31 = .ok (.iload 5, 2) := by decide +kernel
theorem dX8_set_33 : decode cX8_set 33 = .ok (.ifCond .eq 10, 3) := by decide +kernel
theorem dX8_set_36 : decode cX8_set 36 = .ok (.aload_n 0, 1) := by decide +kernel
theorem dX8_set_37 : decode cX8_set 37 = .ok (.iload 5, 2) := by decide +kernel
theorem dX8_set_39 : decode cX8_set 39 = .ok (.invokevirtual 83, 3) := by decide +kernel
theorem dX8_set_42 : decode cX8_set 42 = .ok (.ireturn, 1) := by decide +kernel
theorem dX8_set_43 : decode cX8_set 43 = .ok (.aload_n 0, 1) := by decide +kernel
theorem dX8_set_44 : decode cX8_set 44 = .ok (.getfield 31, 3) := by decide +kernel
theorem dX8_set_47 : decode cX8_set 47 = .ok (.iload_n 1, 1) := by decide +kernel
theorem dX8_set_48 : decode cX8_set 48 = .ok (.aaload, 1) := by decide +kernel
theorem dX8_set_49 : decode cX8_set 49 = .ok (.iload_n 2, 1) := by decide +kernel
theorem dX8_set_50 : decode cX8_set 50 = .ok (.lload_n 3, 1) := by decide +kernel
theorem dX8_set_51 : decode cX8_set 51 = .ok (.invokevirtual 98, 3) := by decide +kernel
theorem dX8_set_54 : decode cX8_set 54 = .ok (.iconst 1, 1) := by decide +kernel
theorem dX8_set_55 : decode cX8_set 55 = .ok (.ireturn, 1) := by decide +kernel
set_option maxRecDepth 20000 in
theorem ggX8_copy_X8_isShelf : GoodIn wsX8_copy wsX8_isShelf := goodIn_r _ [11, 12, 13, 10, 14] (by decide +kernel) (by decide +kernel)
set_option maxRecDepth 20000 in
theorem gX8_copy_X8_isShelf : GoodIn wsX8_copy (va_wsS RX8 75 yX8_isShelf wsX8_isShelf) := goodIn_app (goodIn_of _ (by decide +kernel)) ggX8_copy_X8_isShelf
set_option maxRecDepth 20000 in
theorem ggX8_copy_X8_refuse : GoodIn wsX8_copy wsX8_refuse := goodIn_r _ [18, 19, 12, 13, 10, 14, 36, 37, 38, 39, 40, 41, 42, 43, 44, 45, 46, 47] (by decide +kernel) (by decide +kernel)
set_option maxRecDepth 20000 in
theorem gX8_copy_X8_refuse : GoodIn wsX8_copy (wsV RX8 83 RX8 yX8_refuse wsX8_refuse) := goodIn_app (goodIn_of _ (by decide +kernel)) ggX8_copy_X8_refuse
set_option maxRecDepth 20000 in
theorem ggX8_copy_X6_hasParty : GoodIn wsX8_copy wsX6_hasParty := goodIn_r _ [24, 25, 48, 49, 50] (by decide +kernel) (by decide +kernel)
set_option maxRecDepth 20000 in
theorem gX8_copy_X6_hasParty : GoodIn wsX8_copy (wsV RX8 102 RX6 yX6_hasParty wsX6_hasParty) := goodIn_app (goodIn_of _ (by decide +kernel)) ggX8_copy_X6_hasParty
set_option maxRecDepth 20000 in
theorem ggX8_copy_X6_hasRow : GoodIn wsX8_copy wsX6_hasRow := goodIn_r _ [29, 25, 13, 10, 14, 48, 49, 50] (by decide +kernel) (by decide +kernel)
set_option maxRecDepth 20000 in
theorem gX8_copy_X6_hasRow : GoodIn wsX8_copy (wsV RX8 106 RX6 yX6_hasRow wsX6_hasRow) := goodIn_app (goodIn_of _ (by decide +kernel)) ggX8_copy_X6_hasRow
set_option maxRecDepth 20000 in
theorem ggX8_copy_X6_hasPlaces : GoodIn wsX8_copy wsX6_hasPlaces := goodIn_r _ [33, 34, 35, 27, 28, 23, 29, 25, 13, 10, 14, 48, 49, 50] (by decide +kernel) (by decide +kernel)
set_option maxRecDepth 20000 in
theorem gX8_copy_X6_hasPlaces : GoodIn wsX8_copy (wsV RX8 94 RX6 yX6_hasPlaces wsX6_hasPlaces) := goodIn_app (goodIn_of _ (by decide +kernel)) ggX8_copy_X6_hasPlaces
theorem dX8_copy_0 : decode cX8_copy 0 = .ok (.iload_n 1, 1) := by decide +kernel
theorem dX8_copy_1 : decode cX8_copy 1 = .ok (.invokestatic 75, 3) := by decide +kernel
theorem dX8_copy_4 : decode cX8_copy 4 = .ok (.ifCond .eq 10, 3) := by decide +kernel
theorem dX8_copy_7 : decode cX8_copy 7 = .ok (.iload_n 2, 1) := by decide +kernel
theorem dX8_copy_8 : decode cX8_copy 8 = .ok (.invokestatic 75, 3) := by decide +kernel
theorem dX8_copy_11 : decode cX8_copy 11 = .ok (.ifCond .ne 11, 3) := by decide +kernel
theorem dX8_copy_14 : decode cX8_copy 14 = .ok (.aload_n 0, 1) := by decide +kernel
theorem dX8_copy_15 : decode cX8_copy 15 = .ok (.sipush (-1002), 3) := by decide +kernel
theorem dX8_copy_18 : decode cX8_copy 18 = .ok (.invokevirtual 83, 3) := by decide +kernel
theorem dX8_copy_21 : decode cX8_copy 21 = .ok (.ireturn, 1) := by decide +kernel
theorem dX8_copy_22 : decode cX8_copy 22 = .ok (.aload_n 0, 1) := by decide +kernel
theorem dX8_copy_23 : decode cX8_copy 23 = .ok (.getfield 31, 3) := by decide +kernel
theorem dX8_copy_26 : decode cX8_copy 26 = .ok (.iload_n 1, 1) := by decide +kernel
theorem dX8_copy_27 : decode cX8_copy 27 = .ok (.aaload, 1) := by decide +kernel
theorem dX8_copy_28 : decode cX8_copy 28 = .ok (.astore 6, 2) := by decide +kernel
theorem dX8_copy_30 : decode cX8_copy 30 = .ok (.aload_n 0, 1) := by decide +kernel
theorem dX8_copy_31 : decode cX8_copy 31 = .ok (.getfield 31, 3) := by decide +kernel
theorem dX8_copy_34 : decode cX8_copy 34 = .ok (.iload_n 2, 1) := by decide +kernel
theorem dX8_copy_35 : decode cX8_copy 35 = .ok (.aaload, 1) := by decide +kernel
theorem dX8_copy_36 : decode cX8_copy 36 = .ok (.astore 7, 2) := by decide +kernel
theorem dX8_copy_38 : decode cX8_copy 38 = .ok (.aload 6, 2) := by decide +kernel
theorem dX8_copy_40 : decode cX8_copy 40 = .ok (.invokevirtual 102, 3) := by decide +kernel
theorem dX8_copy_43 : decode cX8_copy 43 = .ok (.ifCond .ne 11, 3) := by decide +kernel
theorem dX8_copy_46 : decode cX8_copy 46 = .ok (.aload 7, 2) := by decide +kernel
theorem dX8_copy_48 : decode cX8_copy 48 = .ok (.invokevirtual 102, 3) := by decide +kernel
theorem dX8_copy_51 : decode cX8_copy 51 = .ok (.ifCond .eq 11, 3) := by decide +kernel
theorem dX8_copy_54 : decode cX8_copy 54 = .ok (.aload_n 0, 1) := by decide +kernel
theorem dX8_copy_55 : decode cX8_copy 55 = .ok (.sipush (-1003), 3) := by decide +kernel
theorem dX8_copy_58 : decode cX8_copy 58 = .ok (.invokevirtual 83, 3) := by decide +kernel
theorem dX8_copy_61 : decode cX8_copy 61 = .ok (.ireturn, 1) := by decide +kernel
theorem dX8_copy_62 : decode cX8_copy 62 = .ok (.aload 6, 2) := by decide +kernel
theorem dX8_copy_64 : decode cX8_copy 64 = .ok (.invokevirtual 106, 3) := by decide +kernel
theorem dX8_copy_67 : decode cX8_copy 67 = .ok (.ifCond .eq 32, 3) := by decide +kernel
theorem dX8_copy_70 : decode cX8_copy 70 = .ok (.aload 7, 2) := by decide +kernel
theorem dX8_copy_72 : decode cX8_copy 72 = .ok (.invokevirtual 106, 3) := by decide +kernel
theorem dX8_copy_75 : decode cX8_copy 75 = .ok (.ifCond .eq 24, 3) := by decide +kernel
theorem dX8_copy_78 : decode cX8_copy 78 = .ok (.aload 6, 2) := by decide +kernel
theorem dX8_copy_80 : decode cX8_copy 80 = .ok (.getfield 109, 3) := by decide +kernel
theorem dX8_copy_83 : decode cX8_copy 83 = .ok (.aload 7, 2) := by decide +kernel
theorem dX8_copy_85 : decode cX8_copy 85 = .ok (.getfield 109, 3) := by decide +kernel
theorem dX8_copy_88 : decode cX8_copy 88 = .ok (.if_icmp .eq 11, 3) := by decide +kernel
theorem dX8_copy_91 : decode cX8_copy 91 = .ok (.aload_n 0, 1) := by decide +kernel
theorem dX8_copy_92 : decode cX8_copy 92 = .ok (.sipush (-1003), 3) := by decide +kernel
theorem dX8_copy_95 : decode cX8_copy 95 = .ok (.invokevirtual 83, 3) := by decide +kernel
theorem dX8_copy_98 : decode cX8_copy 98 = .ok (.ireturn, 1) := by decide +kernel
theorem dX8_copy_99 : decode cX8_copy 99 = .ok (.aload 6, 2) := by decide +kernel
theorem dX8_copy_101 : decode cX8_copy 101 = .ok (.invokevirtual 106, 3) := by decide +kernel
theorem dX8_copy_104 : decode cX8_copy 104 = .ok (.ifCond .eq 11, 3) := by decide +kernel
theorem dX8_copy_107 : decode cX8_copy 107 = .ok (.aload 7, 2) := by decide +kernel
theorem dX8_copy_109 : decode cX8_copy 109 = .ok (.invokevirtual 106, 3) := by decide +kernel
theorem dX8_copy_112 : decode cX8_copy 112 = .ok (.ifCond .ne 11, 3) := by decide +kernel
theorem dX8_copy_115 : decode cX8_copy 115 = .ok (.aload_n 0, 1) := by decide +kernel
theorem dX8_copy_116 : decode cX8_copy 116 = .ok (.sipush (-1004), 3) := by decide +kernel
theorem dX8_copy_119 : decode cX8_copy 119 = .ok (.invokevirtual 83, 3) := by decide +kernel
theorem dX8_copy_122 : decode cX8_copy 122 = .ok (.ireturn, 1) := by decide +kernel
theorem dX8_copy_123 : decode cX8_copy 123 = .ok (.aload 6, 2) := by decide +kernel
theorem dX8_copy_125 : decode cX8_copy 125 = .ok (.iload_n 3, 1) := by decide +kernel
theorem dX8_copy_126 : decode cX8_copy 126 = .ok (.iload 5, 2) := by decide +kernel
theorem dX8_copy_128 : decode cX8_copy 128 = .ok (.invokevirtual 94, 3) := by decide +kernel
theorem dX8_copy_131 : decode cX8_copy 131 = .ok (.ifCond .eq 15, 3) := by decide +kernel
theorem dX8_copy_134 : decode cX8_copy 134 = .ok (.aload 7, 2) := by decide +kernel
theorem dX8_copy_136 : decode cX8_copy 136 = .ok (.iload 4, 2) := by decide +kernel
theorem dX8_copy_138 : decode cX8_copy 138 = .ok (.iload 5, 2) := by decide +kernel
theorem dX8_copy_140 : decode cX8_copy 140 = .ok (.invokevirtual 94, 3) := by decide +kernel
theorem dX8_copy_143 : decode cX8_copy 143 = .ok (.ifCond .ne 11, 3) := by decide +kernel
theorem dX8_copy_146 : decode cX8_copy 146 = .ok (.aload_n 0, 1) := by decide +kernel
theorem dX8_copy_147 : decode cX8_copy 147 = .ok (.sipush (-1002), 3) := by decide +kernel
theorem dX8_copy_150 : decode cX8_copy 150 = .ok (.invokevirtual 83, 3) := by decide +kernel
theorem dX8_copy_153 : decode cX8_copy 153 = .ok (.ireturn, 1) := by decide +kernel
theorem dX8_copy_154 : decode cX8_copy 154 = .ok (.aload 6, 2) := by decide +kernel
theorem dX8_copy_156 : decode cX8_copy 156 = .ok (.getfield 113, 3) := by decide +kernel
theorem dX8_copy_159 : decode cX8_copy 159 = .ok (.iload_n 3, 1) := by decide +kernel
theorem dX8_copy_160 : decode cX8_copy 160 = .ok (.aload 7, 2) := by decide +kernel
theorem dX8_copy_162 : decode cX8_copy 162 = .ok (.getfield 113, 3) := by decide +kernel
theorem dX8_copy_165 : decode cX8_copy 165 = .ok (.iload 4, 2) := by decide +kernel
theorem dX8_copy_167 : decode cX8_copy 167 = .ok (.iload 5, 2) := by decide +kernel
theorem dX8_copy_169 : decode cX8_copy 169 = .ok (.invokestatic 117, 3) := by decide +kernel
theorem dX8_copy_172 : decode cX8_copy 172 = .ok (.iload 5, 2) := by decide +kernel
theorem dX8_copy_174 : decode cX8_copy 174 = .ok (.ireturn, 1) := by decide +kernel
set_option maxRecDepth 20000 in
theorem ggX8_element_X8_isShelf : GoodIn wsX8_element wsX8_isShelf := goodIn_r _ [5, 6, 7, 4, 8] (by decide +kernel) (by decide +kernel)
set_option maxRecDepth 20000 in
theorem gX8_element_X8_isShelf : GoodIn wsX8_element (va_wsS RX8 75 yX8_isShelf wsX8_isShelf) := goodIn_app (goodIn_of _ (by decide +kernel)) ggX8_element_X8_isShelf
set_option maxRecDepth 20000 in
theorem ggX8_element_X6_at : GoodIn wsX8_element wsX6_at := goodIn_r _ [13, 14, 15, 16, 17, 12, 18, 19, 20, 21, 22, 23, 24, 7, 4, 8, 37, 38, 39] (by decide +kernel) (by decide +kernel)
set_option maxRecDepth 20000 in
theorem gX8_element_X6_at : GoodIn wsX8_element (wsV RX8 123 RX6 yX6_at wsX6_at) := goodIn_app (goodIn_of _ (by decide +kernel)) ggX8_element_X6_at
theorem dX8_element_0 : decode cX8_element 0 = .ok (.iload_n 1, 1) := by decide +kernel
theorem dX8_element_1 : decode cX8_element 1 = .ok (.invokestatic 75, 3) := by decide +kernel
theorem dX8_element_4 : decode cX8_element 4 = .ok (.ifCond .eq 16, 3) := by decide +kernel
theorem dX8_element_7 : decode cX8_element 7 = .ok (.aload_n 0, 1) := by decide +kernel
theorem dX8_element_8 : decode cX8_element 8 = .ok (.getfield 31, 3) := by decide +kernel
theorem dX8_element_11 : decode cX8_element 11 = .ok (.iload_n 1, 1) := by decide +kernel
theorem dX8_element_12 : decode cX8_element 12 = .ok (.aaload, 1) := by decide +kernel
theorem dX8_element_13 : decode cX8_element 13 = .ok (.iload_n 2, 1) := by decide +kernel
theorem dX8_element_14 : decode cX8_element 14 = .ok (.invokevirtual 123, 3) := by decide +kernel
theorem dX8_element_17 : decode cX8_element 17 = .ok (.goto 4, 3) := by decide +kernel
theorem dX8_element_20 : decode cX8_element 20 = .ok (.lconst 0, 1) := by decide +kernel
theorem dX8_element_21 : decode cX8_element 21 = .ok (.lreturn, 1) := by decide +kernel
set_option maxRecDepth 20000 in
theorem ggX8_holds_X8_isShelf : GoodIn wsX8_holds wsX8_isShelf := goodIn_r _ [6, 7, 8, 5, 9] (by decide +kernel) (by decide +kernel)
set_option maxRecDepth 20000 in
theorem gX8_holds_X8_isShelf : GoodIn wsX8_holds (va_wsS RX8 75 yX8_isShelf wsX8_isShelf) := goodIn_app (goodIn_of _ (by decide +kernel)) ggX8_holds_X8_isShelf
theorem dX8_holds_0 : decode cX8_holds 0 = .ok (.iload_n 1, 1) := by decide +kernel
theorem dX8_holds_1 : decode cX8_holds 1 = .ok (.invokestatic 75, 3) := by decide +kernel
theorem dX8_holds_4 : decode cX8_holds 4 = .ok (.ifCond .eq 15, 3) := by decide +kernel
theorem dX8_holds_7 : decode cX8_holds 7 = .ok (.aload_n 0, 1) := by decide +kernel
theorem dX8_holds_8 : decode cX8_holds 8 = .ok (.getfield 31, 3) := by decide +kernel
theorem dX8_holds_11 : decode cX8_holds 11 = .ok (.iload_n 1, 1) := by decide +kernel
theorem dX8_holds_12 : decode cX8_holds 12 = .ok (.aaload, 1) := by decide +kernel
theorem dX8_holds_13 : decode cX8_holds 13 = .ok (.getfield 109, 3) := by decide +kernel
theorem dX8_holds_16 : decode cX8_holds 16 = .ok (.goto 4, 3) := by decide +kernel
theorem dX8_holds_19 : decode cX8_holds 19 = .ok (.iconst (-1), 1) := by decide +kernel
theorem dX8_holds_20 : decode cX8_holds 20 = .ok (.ireturn, 1) := by decide +kernel
set_option maxRecDepth 20000 in
theorem ggX8_show_X8_isShelf : GoodIn wsX8_show wsX8_isShelf := goodIn_r _ [6, 7, 8, 5, 9] (by decide +kernel) (by decide +kernel)
set_option maxRecDepth 20000 in
theorem gX8_show_X8_isShelf : GoodIn wsX8_show (va_wsS RX8 75 yX8_isShelf wsX8_isShelf) := goodIn_app (goodIn_of _ (by decide +kernel)) ggX8_show_X8_isShelf
set_option maxRecDepth 20000 in
theorem ggX8_show_X2_hasParty : GoodIn wsX8_show wsX2_hasParty := goodIn_r _ [14, 15, 8, 5, 9, 39, 40, 41, 42, 43, 44, 45, 46, 47, 48, 49, 50, 51] (by decide +kernel) (by decide +kernel)
set_option maxRecDepth 20000 in
theorem gX8_show_X2_hasParty : GoodIn wsX8_show (wsV RX8 127 RX2 yX2_hasParty wsX2_hasParty) := goodIn_app (goodIn_of _ (by decide +kernel)) ggX8_show_X2_hasParty
set_option maxRecDepth 20000 in
theorem ggX8_show_X8_refuse : GoodIn wsX8_show wsX8_refuse := goodIn_r _ [19, 20, 7, 8, 5, 9, 27, 28, 29, 30, 31, 32, 33, 34, 35, 36, 37, 38] (by decide +kernel) (by decide +kernel)
set_option maxRecDepth 20000 in
theorem gX8_show_X8_refuse : GoodIn wsX8_show (wsV RX8 83 RX8 yX8_refuse wsX8_refuse) := goodIn_app (goodIn_of _ (by decide +kernel)) ggX8_show_X8_refuse
set_option maxRecDepth 20000 in
theorem ggX8_show_X6_takeParty : GoodIn wsX8_show wsX6_takeParty := goodIn_r _ [25, 26, 52, 53, 54] (by decide +kernel) (by decide +kernel)
set_option maxRecDepth 20000 in
theorem gX8_show_X6_takeParty : GoodIn wsX8_show (wsV RX8 129 RX6 yX6_takeParty wsX6_takeParty) := goodIn_app (goodIn_of _ (by decide +kernel)) ggX8_show_X6_takeParty
theorem dX8_show_0 : decode cX8_show 0 = .ok (.iload_n 1, 1) := by decide +kernel
theorem dX8_show_1 : decode cX8_show 1 = .ok (.invokestatic 75, 3) := by decide +kernel
theorem dX8_show_4 : decode cX8_show 4 = .ok (.ifCond .eq 19, 3) := by decide +kernel
theorem dX8_show_7 : decode cX8_show 7 = .ok (.iload_n 2, 1) := by decide +kernel
theorem dX8_show_8 : decode cX8_show 8 = .ok (.iconst (-1), 1) := by decide +kernel
theorem dX8_show_9 : decode cX8_show 9 = .ok (.if_icmp .eq 22, 3) := by decide +kernel
theorem dX8_show_12 : decode cX8_show 12 = .ok (.aload_n 0, 1) := by decide +kernel
theorem dX8_show_13 : decode cX8_show 13 = .ok (.getfield 12, 3) := by decide +kernel
theorem dX8_show_16 : decode cX8_show 16 = .ok (.iload_n 2, 1) := by decide +kernel
theorem dX8_show_17 : decode cX8_show 17 = .ok (.invokevirtual 127, 3) := by decide +kernel
theorem dX8_show_20 : decode cX8_show 20 = .ok (.ifCond .ne 11, 3) := by decide +kernel
theorem dX8_show_23 : decode cX8_show 23 = .ok (.aload_n 0, 1) := by decide +kernel
theorem dX8_show_24 : decode cX8_show 24 = .ok (.sipush (-1002), 3) := by decide +kernel
theorem dX8_show_27 : decode cX8_show 27 = .ok (.invokevirtual 83, 3) := by decide +kernel
theorem dX8_show_30 : decode cX8_show 30 = .ok (.ireturn, 1) := by decide +kernel
theorem dX8_show_31 : decode cX8_show 31 = .ok (.aload_n 0, 1) := by decide +kernel
theorem dX8_show_32 : decode cX8_show 32 = .ok (.getfield 31, 3) := by decide +kernel
theorem dX8_show_35 : decode cX8_show 35 = .ok (.iload_n 1, 1) := by decide +kernel
theorem dX8_show_36 : decode cX8_show 36 = .ok (.aaload, 1) := by decide +kernel
theorem dX8_show_37 : decode cX8_show 37 = .ok (.iload_n 2, 1) := by decide +kernel
theorem dX8_show_38 : decode cX8_show 38 = .ok (.invokevirtual 129, 3) := by decide +kernel
theorem dX8_show_41 : decode cX8_show 41 = .ok (.iconst 1, 1) := by decide +kernel
theorem dX8_show_42 : decode cX8_show 42 = .ok (.ireturn, 1) := by decide +kernel
set_option maxRecDepth 20000 in
theorem ggX8_says_X8_isShelf : GoodIn wsX8_says wsX8_isShelf := goodIn_r _ [8, 9, 10, 7, 11] (by decide +kernel) (by decide +kernel)
set_option maxRecDepth 20000 in
theorem gX8_says_X8_isShelf : GoodIn wsX8_says (va_wsS RX8 75 yX8_isShelf wsX8_isShelf) := goodIn_app (goodIn_of _ (by decide +kernel)) ggX8_says_X8_isShelf
set_option maxRecDepth 20000 in
theorem ggX8_says_X8_isKind : GoodIn wsX8_says wsX8_isKind := goodIn_r _ [14, 9, 10, 7, 11] (by decide +kernel) (by decide +kernel)
set_option maxRecDepth 20000 in
theorem gX8_says_X8_isKind : GoodIn wsX8_says (va_wsS RX8 133 yX8_isKind wsX8_isKind) := goodIn_app (goodIn_of _ (by decide +kernel)) ggX8_says_X8_isKind
set_option maxRecDepth 20000 in
theorem ggX8_says_X8_refuse : GoodIn wsX8_says wsX8_refuse := goodIn_r _ [18, 19, 9, 10, 7, 11, 56, 57, 58, 59, 60, 61, 62, 63, 64, 65, 66, 67] (by decide +kernel) (by decide +kernel)
set_option maxRecDepth 20000 in
theorem gX8_says_X8_refuse : GoodIn wsX8_says (wsV RX8 83 RX8 yX8_refuse wsX8_refuse) := goodIn_app (goodIn_of _ (by decide +kernel)) ggX8_says_X8_refuse
set_option maxRecDepth 20000 in
theorem ggX8_says_X6_hasRow : GoodIn wsX8_says wsX6_hasRow := goodIn_r _ [24, 25, 10, 7, 11, 81, 82, 83] (by decide +kernel) (by decide +kernel)
set_option maxRecDepth 20000 in
theorem gX8_says_X6_hasRow : GoodIn wsX8_says (wsV RX8 106 RX6 yX6_hasRow wsX6_hasRow) := goodIn_app (goodIn_of _ (by decide +kernel)) ggX8_says_X6_hasRow
set_option maxRecDepth 20000 in
theorem ggX8_says_X6_hasParty : GoodIn wsX8_says wsX6_hasParty := goodIn_r _ [29, 25, 81, 82, 83] (by decide +kernel) (by decide +kernel)
set_option maxRecDepth 20000 in
theorem gX8_says_X6_hasParty : GoodIn wsX8_says (wsV RX8 102 RX6 yX6_hasParty wsX6_hasParty) := goodIn_app (goodIn_of _ (by decide +kernel)) ggX8_says_X6_hasParty
set_option maxRecDepth 20000 in
theorem ggX8_says_X6_partyNumber : GoodIn wsX8_says wsX6_partyNumber := goodIn_r _ [33, 25, 81, 82, 83] (by decide +kernel) (by decide +kernel)
set_option maxRecDepth 20000 in
theorem gX8_says_X6_partyNumber : GoodIn wsX8_says (wsV RX8 136 RX6 yX6_partyNumber wsX6_partyNumber) := goodIn_app (goodIn_of _ (by decide +kernel)) ggX8_says_X6_partyNumber
set_option maxRecDepth 20000 in
theorem ggX8_says_X2_hasParty : GoodIn wsX8_says wsX2_hasParty := goodIn_r _ [38, 39, 10, 7, 11, 68, 69, 70, 71, 72, 73, 74, 75, 76, 77, 78, 79, 80] (by decide +kernel) (by decide +kernel)
set_option maxRecDepth 20000 in
theorem gX8_says_X2_hasParty : GoodIn wsX8_says (wsV RX8 127 RX2 yX2_hasParty wsX2_hasParty) := goodIn_app (goodIn_of _ (by decide +kernel)) ggX8_says_X2_hasParty
set_option maxRecDepth 20000 in
theorem ggX8_says_X8_isOfKind : GoodIn wsX8_says wsX8_isOfKind := goodIn_r _ [42, 43, 12, 13, 7, 14, 9, 10, 11] (by decide +kernel) (by decide +kernel)
set_option maxRecDepth 20000 in
theorem gX8_says_X8_isOfKind : GoodIn wsX8_says (va_wsS RX8 143 yX8_isOfKind wsX8_isOfKind) := goodIn_app (goodIn_of _ (by decide +kernel)) ggX8_says_X8_isOfKind
set_option maxRecDepth 20000 in
theorem ggX8_says_X2_headsOf : GoodIn wsX8_says wsX2_headsOf := goodIn_r _ [47, 48, 49, 50, 51, 37, 52, 53, 54, 55, 68, 69, 70, 71, 72, 73, 74, 75, 76, 77, 78, 79, 80] (by decide +kernel) (by decide +kernel)
set_option maxRecDepth 20000 in
theorem gX8_says_X2_headsOf : GoodIn wsX8_says (wsV RX8 149 RX2 yX2_headsOf wsX2_headsOf) := goodIn_app (goodIn_of _ (by decide +kernel)) ggX8_says_X2_headsOf
theorem dX8_says_0 : decode cX8_says 0 = .ok (.iload_n 1, 1) := by decide +kernel
theorem dX8_says_1 : decode cX8_says 1 = .ok (.invokestatic 75, 3) := by decide +kernel
theorem dX8_says_4 : decode cX8_says 4 = .ok (.ifCond .eq 10, 3) := by decide +kernel
theorem dX8_says_7 : decode cX8_says 7 = .ok (.iload_n 2, 1) := by decide +kernel
theorem dX8_says_8 : decode cX8_says 8 = .ok (.invokestatic 133, 3) := by decide +kernel
theorem dX8_says_11 : decode cX8_says 11 = .ok (.ifCond .ne 11, 3) := by decide +kernel
theorem dX8_says_14 : decode cX8_says 14 = .ok (.aload_n 0, 1) := by decide +kernel
theorem dX8_says_15 : decode cX8_says 15 = .ok (.sipush (-1002), 3) := by decide +kernel
theorem dX8_says_18 : decode cX8_says 18 = .ok (.invokevirtual 83, 3) := by decide +kernel
theorem dX8_says_21 : decode cX8_says 21 = .ok (.ireturn, 1) := by decide +kernel
theorem dX8_says_22 : decode cX8_says 22 = .ok (.aload_n 0, 1) := by decide +kernel
theorem dX8_says_23 : decode cX8_says 23 = .ok (.getfield 31, 3) := by decide +kernel
theorem dX8_says_26 : decode cX8_says 26 = .ok (.iload_n 1, 1) := by decide +kernel
theorem dX8_says_27 : decode cX8_says 27 = .ok (.aaload, 1) := by decide +kernel
theorem dX8_says_28 : decode cX8_says 28 = .ok (.astore_n 3, 1) := by decide +kernel
theorem dX8_says_29 : decode cX8_says 29 = .ok (.aload_n 3, 1) := by decide +kernel
theorem dX8_says_30 : decode cX8_says 30 = .ok (.invokevirtual 106, 3) := by decide +kernel
theorem dX8_says_33 : decode cX8_says 33 = .ok (.ifCond .eq 11, 3) := by decide +kernel
theorem dX8_says_36 : decode cX8_says 36 = .ok (.aload_n 0, 1) := by decide +kernel
theorem dX8_says_37 : decode cX8_says 37 = .ok (.sipush (-1003), 3) := by decide +kernel
theorem dX8_says_40 : decode cX8_says 40 = .ok (.invokevirtual 83, 3) := by decide +kernel
theorem dX8_says_43 : decode cX8_says 43 = .ok (.ireturn, 1) := by decide +kernel
theorem dX8_says_44 : decode cX8_says 44 = .ok (.aload_n 3, 1) := by decide +kernel
theorem dX8_says_45 : decode cX8_says 45 = .ok (.invokevirtual 102, 3) := by decide +kernel
theorem dX8_says_48 : decode cX8_says 48 = .ok (.ifCond .ne 11, 3) := by decide +kernel
theorem dX8_says_51 : decode cX8_says 51 = .ok (.aload_n 0, 1) := by decide +kernel
theorem dX8_says_52 : decode cX8_says 52 = .ok (.sipush (-1004), 3) := by decide +kernel
theorem dX8_says_55 : decode cX8_says 55 = .ok (.invokevirtual 83, 3) := by decide +kernel
theorem dX8_says_58 : decode cX8_says 58 = .ok (.ireturn, 1) := by decide +kernel
theorem dX8_says_59 : decode cX8_says 59 = .ok (.aload_n 3, 1) := by decide +kernel
theorem dX8_says_60 : decode cX8_says 60 = .ok (.invokevirtual 136, 3) := by decide +kernel
theorem dX8_says_63 : decode cX8_says 63 = .ok (.istore 4, 2) := by decide +kernel
theorem dX8_says_65 : decode cX8_says 65 = .ok (.aload_n 0, 1) := by decide +kernel
theorem dX8_says_66 : decode cX8_says 66 = .ok (.getfield 12, 3) := by decide +kernel
theorem dX8_says_69 : decode cX8_says 69 = .ok (.iload 4, 2) := by decide +kernel
theorem dX8_says_71 : decode cX8_says 71 = .ok (.invokevirtual 127, 3) := by decide +kernel
theorem dX8_says_74 : decode cX8_says 74 = .ok (.ifCond .eq 20, 3) := by decide +kernel
theorem dX8_says_77 : decode cX8_says 77 = .ok (.aload_n 0, 1) := by decide +kernel
theorem dX8_says_78 : decode cX8_says 78 = .ok (.getfield 12, 3) := by decide +kernel
theorem dX8_says_81 : decode cX8_says 81 = .ok (.getfield 140, 3) := by decide +kernel
theorem dX8_says_84 : decode cX8_says 84 = .ok (.iload 4, 2) := by decide +kernel
theorem dX8_says_86 : decode cX8_says 86 = .ok (.iaload, 1) := by decide +kernel
theorem dX8_says_87 : decode cX8_says 87 = .ok (.iload_n 2, 1) := by decide +kernel
theorem dX8_says_88 : decode cX8_says 88 = .ok (.invokestatic 143, 3) := by decide +kernel
theorem dX8_says_91 : decode cX8_says 91 = .ok (.ifCond .ne 11, 3) := by decide +kernel
theorem dX8_says_94 : decode cX8_says 94 = .ok (.aload_n 0, 1) := by decide +kernel
theorem dX8_says_95 : decode cX8_says 95 = .ok (.sipush (-1003), 3) := by decide +kernel
theorem dX8_says_98 : decode cX8_says 98 = .ok (.invokevirtual 83, 3) := by decide +kernel
theorem dX8_says_101 : decode cX8_says 101 = .ok (.ireturn, 1) := by decide +kernel
theorem dX8_says_102 : decode cX8_says 102 = .ok (.iload_n 2, 1) := by decide +kernel
theorem dX8_says_103 : decode cX8_says 103 = .ok (.ifCond .ne 16, 3) := by decide +kernel
theorem dX8_says_106 : decode cX8_says 106 = .ok (.aload_n 0, 1) := by decide +kernel
theorem dX8_says_107 : decode cX8_says 107 = .ok (.getfield 12, 3) := by decide +kernel
theorem dX8_says_110 : decode cX8_says 110 = .ok (.getfield 146, 3) := by decide +kernel
theorem dX8_says_113 : decode cX8_says 113 = .ok (.iload 4, 2) := by decide +kernel
theorem dX8_says_115 : decode cX8_says 115 = .ok (.iaload, 1) := by decide +kernel
theorem dX8_says_116 : decode cX8_says 116 = .ok (.goto 12, 3) := by decide +kernel
theorem dX8_says_119 : decode cX8_says 119 = .ok (.aload_n 0, 1) := by decide +kernel
theorem dX8_says_120 : decode cX8_says 120 = .ok (.getfield 12, 3) := by decide +kernel
theorem dX8_says_123 : decode cX8_says 123 = .ok (.iload 4, 2) := by decide +kernel
theorem dX8_says_125 : decode cX8_says 125 = .ok (.invokevirtual 149, 3) := by decide +kernel
theorem dX8_says_128 : decode cX8_says 128 = .ok (.ireturn, 1) := by decide +kernel
set_option maxRecDepth 20000 in
theorem ggX8_party_X8_isKind : GoodIn wsX8_party wsX8_isKind := goodIn_r _ [5, 6, 7, 4, 8] (by decide +kernel) (by decide +kernel)
set_option maxRecDepth 20000 in
theorem gX8_party_X8_isKind : GoodIn wsX8_party (va_wsS RX8 133 yX8_isKind wsX8_isKind) := goodIn_app (goodIn_of _ (by decide +kernel)) ggX8_party_X8_isKind
set_option maxRecDepth 20000 in
theorem ggX8_party_X8_within : GoodIn wsX8_party wsX8_within := goodIn_r _ [8] (by decide +kernel) (by decide +kernel)
set_option maxRecDepth 20000 in
theorem gX8_party_X8_within : GoodIn wsX8_party (va_wsS RX8 79 yX8_within wsX8_within) := goodIn_app (goodIn_of _ (by decide +kernel)) ggX8_party_X8_within
set_option maxRecDepth 20000 in
theorem ggX8_party_X8_refuse : GoodIn wsX8_party wsX8_refuse := goodIn_r _ [12, 13, 6, 7, 4, 8, 29, 30, 31, 32, 33, 34, 35, 36, 37, 38, 39, 40] (by decide +kernel) (by decide +kernel)
set_option maxRecDepth 20000 in
theorem gX8_party_X8_refuse : GoodIn wsX8_party (wsV RX8 83 RX8 yX8_refuse wsX8_refuse) := goodIn_app (goodIn_of _ (by decide +kernel)) ggX8_party_X8_refuse
set_option maxRecDepth 20000 in
theorem ggX8_party_X2_hasRoom : GoodIn wsX8_party wsX2_hasRoom := goodIn_r _ [18, 19, 41, 42, 43, 44, 45, 46, 47, 48, 49, 50, 51, 52, 53] (by decide +kernel) (by decide +kernel)
set_option maxRecDepth 20000 in
theorem gX8_party_X2_hasRoom : GoodIn wsX8_party (wsV RX8 152 RX2 yX2_hasRoom wsX2_hasRoom) := goodIn_app (goodIn_of _ (by decide +kernel)) ggX8_party_X2_hasRoom
set_option maxRecDepth 20000 in
theorem ggX8_party_X2_add : GoodIn wsX8_party wsX2_add := goodIn_r _ [23, 19, 24, 25, 26, 27, 28, 15, 16, 17, 18, 41, 42, 43, 44, 45, 46, 47, 48, 49, 50, 51, 52, 53] (by decide +kernel) (by decide +kernel)
set_option maxRecDepth 20000 in
theorem gX8_party_X2_add : GoodIn wsX8_party (wsV RX8 155 RX2 yX2_add wsX2_add) := goodIn_app (goodIn_of _ (by decide +kernel)) ggX8_party_X2_add
theorem dX8_party_0 : decode cX8_party 0 = .ok (.iload_n 1, 1) := by decide +kernel
theorem dX8_party_1 : decode cX8_party 1 = .ok (.invokestatic 133, 3) := by decide +kernel
theorem dX8_party_4 : decode cX8_party 4 = .ok (.ifCond .eq 34, 3) := by decide +kernel
theorem dX8_party_7 : decode cX8_party 7 = .ok (.iload_n 2, 1) := by decide +kernel
theorem dX8_party_8 : decode cX8_party 8 = .ok (.iconst 0, 1) := by decide +kernel
theorem dX8_party_9 : decode cX8_party 9 = .ok (.bipush 9, 2) := by decide +kernel
theorem dX8_party_11 : decode cX8_party 11 = .ok (.invokestatic 79, 3) := by decide +kernel
theorem dX8_party_14 : decode cX8_party 14 = .ok (.ifCond .eq 24, 3) := by decide +kernel
theorem dX8_party_17 : decode cX8_party 17 = .ok (.iload_n 3, 1) := by decide +kernel
theorem dX8_party_18 : decode cX8_party 18 = .ok (.iconst 1, 1) := by decide +kernel
theorem dX8_party_19 : decode cX8_party 19 = .ok (.bipush 40, 2) := by decide +kernel
theorem dX8_party_21 : decode cX8_party 21 = .ok (.invokestatic 79, 3) := by decide +kernel
theorem dX8_party_24 : decode cX8_party 24 = .ok (.ifCond .eq 14, 3) := by decide +kernel
theorem dX8_party_27 : decode cX8_party 27 = .ok (.iload 4, 2) := by decide +kernel
theorem dX8_party_29 : decode cX8_party 29 = .ok (.iconst 0, 1) := by decide +kernel
theorem dX8_party_30 : decode cX8_party 30 = .ok (.bipush 99, 2) := by decide +kernel
theorem dX8_party_32 : decode cX8_party 32 = .ok (.invokestatic 79, 3) := by decide +kernel
theorem dX8_party_35 : decode cX8_party 35 = .ok (.ifCond .ne 11, 3) := by decide +kernel
theorem dX8_party_38 : decode cX8_party 38 = .ok (.aload_n 0, 1) := by decide +kernel
theorem dX8_party_39 : decode cX8_party 39 = .ok (.sipush (-1002), 3) := by decide +kernel
theorem dX8_party_42 : decode cX8_party 42 = .ok (.invokevirtual 83, 3) := by decide +kernel
theorem dX8_party_45 : decode cX8_party 45 = .ok (.ireturn, 1) := by decide +kernel
theorem dX8_party_46 : decode cX8_party 46 = .ok (.aload_n 0, 1) := by decide +kernel
theorem dX8_party_47 : decode cX8_party 47 = .ok (.getfield 12, 3) := by decide +kernel
theorem dX8_party_50 : decode cX8_party 50 = .ok (.invokevirtual 152, 3) := by decide +kernel
theorem dX8_party_53 : decode cX8_party 53 = .ok (.ifCond .ne 11, 3) := by decide +kernel
theorem dX8_party_56 : decode cX8_party 56 = .ok (.aload_n 0, 1) := by decide +kernel
theorem dX8_party_57 : decode cX8_party 57 = .ok (.sipush (-1006), 3) := by decide +kernel
theorem dX8_party_60 : decode cX8_party 60 = .ok (.invokevirtual 83, 3) := by decide +kernel
theorem dX8_party_63 : decode cX8_party 63 = .ok (.ireturn, 1) := by decide +kernel
theorem dX8_party_64 : decode cX8_party 64 = .ok (.aload_n 0, 1) := by decide +kernel
theorem dX8_party_65 : decode cX8_party 65 = .ok (.getfield 12, 3) := by decide +kernel
theorem dX8_party_68 : decode cX8_party 68 = .ok (.iload_n 1, 1) := by decide +kernel
theorem dX8_party_69 : decode cX8_party 69 = .ok (.iload_n 2, 1) := by decide +kernel
theorem dX8_party_70 : decode cX8_party 70 = .ok (.iload_n 3, 1) := by decide +kernel
theorem dX8_party_71 : decode cX8_party 71 = .ok (.iload 4, 2) := by decide +kernel
theorem dX8_party_73 : decode cX8_party 73 = .ok (.invokevirtual 155, 3) := by decide +kernel
theorem dX8_party_76 : decode cX8_party 76 = .ok (.ireturn, 1) := by decide +kernel
set_option maxRecDepth 20000 in
theorem ggX8_give_X2_hasParty : GoodIn wsX8_give wsX2_hasParty := goodIn_r _ [8, 9, 10, 11, 12, 31, 32, 33, 34, 35, 36, 37, 38, 39, 40, 41, 42, 43] (by decide +kernel) (by decide +kernel)
set_option maxRecDepth 20000 in
theorem gX8_give_X2_hasParty : GoodIn wsX8_give (wsV RX8 127 RX2 yX2_hasParty wsX2_hasParty) := goodIn_app (goodIn_of _ (by decide +kernel)) ggX8_give_X2_hasParty
set_option maxRecDepth 20000 in
theorem ggX8_give_X8_refuse : GoodIn wsX8_give wsX8_refuse := goodIn_r _ [16, 17, 18, 10, 11, 12, 19, 20, 21, 22, 23, 24, 25, 26, 27, 28, 29, 30] (by decide +kernel) (by decide +kernel)
set_option maxRecDepth 20000 in
theorem gX8_give_X8_refuse : GoodIn wsX8_give (wsV RX8 83 RX8 yX8_refuse wsX8_refuse) := goodIn_app (goodIn_of _ (by decide +kernel)) ggX8_give_X8_refuse
set_option maxRecDepth 20000 in
theorem ggX8_give_X8_within : GoodIn wsX8_give wsX8_within := goodIn_r _ [12] (by decide +kernel) (by decide +kernel)
set_option maxRecDepth 20000 in
theorem gX8_give_X8_within : GoodIn wsX8_give (va_wsS RX8 79 yX8_within wsX8_within) := goodIn_app (goodIn_of _ (by decide +kernel)) ggX8_give_X8_within
theorem dX8_give_0 : decode cX8_give 0 = .ok (.aload_n 0, 1) := by decide +kernel
theorem dX8_give_1 : decode cX8_give 1 = .ok (.getfield 12, 3) := by decide +kernel
theorem dX8_give_4 : decode cX8_give 4 = .ok (.iload_n 1, 1) := by decide +kernel
theorem dX8_give_5 : decode cX8_give 5 = .ok (.invokevirtual 127, 3) := by decide +kernel
theorem dX8_give_8 : decode cX8_give 8 = .ok (.ifCond .ne 11, 3) := by decide +kernel
theorem dX8_give_11 : decode cX8_give 11 = .ok (.aload_n 0, 1) := by decide +kernel
theorem dX8_give_12 : decode cX8_give 12 = .ok (.sipush (-1002), 3) := by decide +kernel
theorem dX8_give_15 : decode cX8_give 15 = .ok (.invokevirtual 83, 3) := by decide +kernel
theorem dX8_give_18 : decode cX8_give 18 = .ok (.ireturn, 1) := by decide +kernel
theorem dX8_give_19 : decode cX8_give 19 = .ok (.iload_n 2, 1) := by decide +kernel
theorem dX8_give_20 : decode cX8_give 20 = .ok (.ifCond .ne 37, 3) := by decide +kernel
theorem dX8_give_23 : decode cX8_give 23 = .ok (.iload_n 3, 1) := by decide +kernel
theorem dX8_give_24 : decode cX8_give 24 = .ok (.iconst 1, 1) := by decide +kernel
theorem dX8_give_25 : decode cX8_give 25 = .ok (.bipush 40, 2) := by decide +kernel
theorem dX8_give_27 : decode cX8_give 27 = .ok (.invokestatic 79, 3) := by decide +kernel
theorem dX8_give_30 : decode cX8_give 30 = .ok (.ifCond .eq 27, 3) := by decide +kernel
theorem dX8_give_33 : decode cX8_give 33 = .ok (.aload_n 0, 1) := by decide +kernel
theorem dX8_give_34 : decode cX8_give 34 = .ok (.getfield 12, 3) := by decide +kernel
theorem dX8_give_37 : decode cX8_give 37 = .ok (.getfield 159, 3) := by decide +kernel
theorem dX8_give_40 : decode cX8_give 40 = .ok (.iload_n 1, 1) := by decide +kernel
theorem dX8_give_41 : decode cX8_give 41 = .ok (.iaload, 1) := by decide +kernel
theorem dX8_give_42 : decode cX8_give 42 = .ok (.istore 4, 2) := by decide +kernel
theorem dX8_give_44 : decode cX8_give 44 = .ok (.aload_n 0, 1) := by decide +kernel
theorem dX8_give_45 : decode cX8_give 45 = .ok (.getfield 12, 3) := by decide +kernel
theorem dX8_give_48 : decode cX8_give 48 = .ok (.getfield 159, 3) := by decide +kernel
theorem dX8_give_51 : decode cX8_give 51 = .ok (.iload_n 1, 1) := by decide +kernel
theorem dX8_give_52 : decode cX8_give 52 = .ok (.iload_n 3, 1) := by decide +kernel
theorem dX8_give_53 : decode cX8_give 53 = .ok (.iastore, 1) := by decide +kernel
theorem dX8_give_54 : decode cX8_give 54 = .ok (.iload 4, 2) := by decide +kernel
theorem dX8_give_56 : decode cX8_give 56 = .ok (.ireturn, 1) := by decide +kernel
theorem dX8_give_57 : decode cX8_give 57 = .ok (.iload_n 2, 1) := by decide +kernel
theorem dX8_give_58 : decode cX8_give 58 = .ok (.iconst 1, 1) := by decide +kernel
theorem dX8_give_59 : decode cX8_give 59 = .ok (.if_icmp .ne 37, 3) := by decide +kernel
theorem dX8_give_62 : decode cX8_give 62 = .ok (.iload_n 3, 1) := by decide +kernel
theorem dX8_give_63 : decode cX8_give 63 = .ok (.iconst 0, 1) := by decide +kernel
theorem dX8_give_64 : decode cX8_give 64 = .ok (.bipush 99, 2) := by decide +kernel
theorem dX8_give_66 : decode cX8_give 66 = .ok (.invokestatic 79, 3) := by decide +kernel
theorem dX8_give_69 : decode cX8_give 69 = .ok (.ifCond .eq 27, 3) := by decide +kernel
theorem dX8_give_72 : decode cX8_give 72 = .ok (.aload_n 0, 1) := by decide +kernel
theorem dX8_give_73 : decode cX8_give 73 = .ok (.getfield 12, 3) := by decide +kernel
theorem dX8_give_76 : decode cX8_give 76 = .ok (.getfield 146, 3) := by decide +kernel
theorem dX8_give_79 : decode cX8_give 79 = .ok (.iload_n 1, 1) := by decide +kernel
theorem dX8_give_80 : decode cX8_give 80 = .ok (.iaload, 1) := by decide +kernel
theorem dX8_give_81 : decode cX8_give 81 = .ok (.istore 4, 2) := by decide +kernel
theorem dX8_give_83 : decode cX8_give 83 = .ok (.aload_n 0, 1) := by decide +kernel
theorem dX8_give_84 : decode cX8_give 84 = .ok (.getfield 12, 3) := by decide +kernel
theorem dX8_give_87 : decode cX8_give 87 = .ok (.getfield 146, 3) := by decide +kernel
theorem dX8_give_90 : decode cX8_give 90 = .ok (.iload_n 1, 1) := by decide +kernel
theorem dX8_give_91 : decode cX8_give 91 = .ok (.iload_n 3, 1) := by decide +kernel
theorem dX8_give_92 : decode cX8_give 92 = .ok (.iastore, 1) := by decide +kernel
theorem dX8_give_93 : decode cX8_give 93 = .ok (.iload 4, 2) := by decide +kernel
theorem dX8_give_95 : decode cX8_give 95 = .ok (.ireturn, 1) := by decide +kernel
theorem dX8_give_96 : decode cX8_give 96 = .ok (.aload_n 0, 1) := by decide +kernel
theorem dX8_give_97 : decode cX8_give 97 = .ok (.sipush (-1002), 3) := by decide +kernel
theorem dX8_give_100 : decode cX8_give 100 = .ok (.invokevirtual 83, 3) := by decide +kernel
theorem dX8_give_103 : decode cX8_give 103 = .ok (.ireturn, 1) := by decide +kernel
set_option maxRecDepth 20000 in
theorem ggX8_bind_X2_hasTwo : GoodIn wsX8_bind wsX2_hasTwo := goodIn_r _ [6, 7, 8, 9, 5, 10, 11, 12, 13, 14, 49, 50, 51, 52, 53, 54, 55, 56, 57, 58, 59, 60, 61] (by decide +kernel) (by decide +kernel)
set_option maxRecDepth 20000 in
theorem gX8_bind_X2_hasTwo : GoodIn wsX8_bind (wsV RX8 162 RX2 yX2_hasTwo wsX2_hasTwo) := goodIn_app (goodIn_of _ (by decide +kernel)) ggX8_bind_X2_hasTwo
set_option maxRecDepth 20000 in
theorem ggX8_bind_X8_within : GoodIn wsX8_bind wsX8_within := goodIn_r _ [14] (by decide +kernel) (by decide +kernel)
set_option maxRecDepth 20000 in
theorem gX8_bind_X8_within : GoodIn wsX8_bind (va_wsS RX8 79 yX8_within wsX8_within) := goodIn_app (goodIn_of _ (by decide +kernel)) ggX8_bind_X8_within
set_option maxRecDepth 20000 in
theorem ggX8_bind_X8_refuse : GoodIn wsX8_bind wsX8_refuse := goodIn_r _ [19, 20, 15, 12, 13, 14, 37, 38, 39, 40, 41, 42, 43, 44, 45, 46, 47, 48] (by decide +kernel) (by decide +kernel)
set_option maxRecDepth 20000 in
theorem gX8_bind_X8_refuse : GoodIn wsX8_bind (wsV RX8 83 RX8 yX8_refuse wsX8_refuse) := goodIn_app (goodIn_of _ (by decide +kernel)) ggX8_bind_X8_refuse
set_option maxRecDepth 20000 in
theorem ggX8_bind_X2_relation : GoodIn wsX8_bind wsX2_relation := goodIn_r _ [24, 25, 26, 27, 3, 4, 5, 6, 7, 8, 9, 10, 11, 12, 13, 14, 28, 29, 49, 50, 51, 52, 53, 54, 55, 56, 57, 58, 59, 60, 61] (by decide +kernel) (by decide +kernel)
set_option maxRecDepth 20000 in
theorem gX8_bind_X2_relation : GoodIn wsX8_bind (wsV RX8 165 RX2 yX2_relation wsX2_relation) := goodIn_app (goodIn_of _ (by decide +kernel)) ggX8_bind_X2_relation
set_option maxRecDepth 20000 in
theorem ggX8_bind_X2_relate : GoodIn wsX8_bind wsX2_relate := goodIn_r _ [33, 25, 26, 27, 3, 4, 5, 6, 7, 8, 9, 10, 11, 12, 13, 14, 34, 35, 36, 49, 50, 51, 52, 53, 54, 55, 56, 57, 58, 59, 60, 61] (by decide +kernel) (by decide +kernel)
set_option maxRecDepth 20000 in
theorem gX8_bind_X2_relate : GoodIn wsX8_bind (wsV RX8 169 RX2 yX2_relate wsX2_relate) := goodIn_app (goodIn_of _ (by decide +kernel)) ggX8_bind_X2_relate
theorem dX8_bind_0 : decode cX8_bind 0 = .ok (.aload_n 0, 1) := by decide +kernel
theorem dX8_bind_1 : decode cX8_bind 1 = .ok (.getfield 12, 3) := by decide +kernel
theorem dX8_bind_4 : decode cX8_bind 4 = .ok (.iload_n 1, 1) := by decide +kernel
theorem dX8_bind_5 : decode cX8_bind 5 = .ok (.iload_n 2, 1) := by decide +kernel
theorem dX8_bind_6 : decode cX8_bind 6 = .ok (.invokevirtual 162, 3) := by decide +kernel
theorem dX8_bind_9 : decode cX8_bind 9 = .ok (.ifCond .eq 12, 3) := by decide +kernel
theorem dX8_bind_12 : decode cX8_bind 12 = .ok (.iload_n 3, 1) := by decide +kernel
theorem dX8_bind_13 : decode cX8_bind 13 = .ok (.iconst 0, 1) := by decide +kernel
theorem dX8_bind_14 : decode cX8_bind 14 = .ok (.iconst 2, 1) := by decide +kernel
theorem dX8_bind_15 : decode cX8_bind 15 = .ok (.invokestatic 79, 3) := by decide +kernel
theorem dX8_bind_18 : decode cX8_bind 18 = .ok (.ifCond .ne 11, 3) := by decide +kernel
theorem dX8_bind_21 : decode cX8_bind 21 = .ok (.aload_n 0, 1) := by decide +kernel
theorem dX8_bind_22 : decode cX8_bind 22 = .ok (.sipush (-1002), 3) := by decide +kernel
theorem dX8_bind_25 : decode cX8_bind 25 = .ok (.invokevirtual 83, 3) := by decide +kernel
theorem dX8_bind_28 : decode cX8_bind 28 = .ok (.ireturn, 1) := by decide +kernel
theorem dX8_bind_29 : decode cX8_bind 29 = .ok (.aload_n 0, 1) := by decide +kernel
theorem dX8_bind_30 : decode cX8_bind 30 = .ok (.getfield 12, 3) := by decide +kernel
theorem dX8_bind_33 : decode cX8_bind 33 = .ok (.iload_n 1, 1) := by decide +kernel
theorem dX8_bind_34 : decode cX8_bind 34 = .ok (.iload_n 2, 1) := by decide +kernel
theorem dX8_bind_35 : decode cX8_bind 35 = .ok (.invokevirtual 165, 3) := by decide +kernel
theorem dX8_bind_38 : decode cX8_bind 38 = .ok (.istore 4, 2) := by decide +kernel
theorem dX8_bind_40 : decode cX8_bind 40 = .ok (.aload_n 0, 1) := by decide +kernel
theorem dX8_bind_41 : decode cX8_bind 41 = .ok (.getfield 12, 3) := by decide +kernel
theorem dX8_bind_44 : decode cX8_bind 44 = .ok (.iload_n 1, 1) := by decide +kernel
theorem dX8_bind_45 : decode cX8_bind 45 = .ok (.iload_n 2, 1) := by decide +kernel
theorem dX8_bind_46 : decode cX8_bind 46 = .ok (.iload_n 3, 1) := by decide +kernel
theorem dX8_bind_47 : decode cX8_bind 47 = .ok (.invokevirtual 169, 3) := by decide +kernel
theorem dX8_bind_50 : decode cX8_bind 50 = .ok (.iload 4, 2) := by decide +kernel
theorem dX8_bind_52 : decode cX8_bind 52 = .ok (.ireturn, 1) := by decide +kernel
set_option maxRecDepth 20000 in
theorem ggX8_tell_X8_within : GoodIn wsX8_tell wsX8_within := goodIn_r _ [8] (by decide +kernel) (by decide +kernel)
set_option maxRecDepth 20000 in
theorem gX8_tell_X8_within : GoodIn wsX8_tell (va_wsS RX8 79 yX8_within wsX8_within) := goodIn_app (goodIn_of _ (by decide +kernel)) ggX8_tell_X8_within
set_option maxRecDepth 20000 in
theorem ggX8_tell_X8_refuse : GoodIn wsX8_tell wsX8_refuse := goodIn_r _ [12, 13, 5, 6, 7, 8, 14, 15, 16, 17, 18, 19, 20, 21, 22, 23, 24, 25] (by decide +kernel) (by decide +kernel)
set_option maxRecDepth 20000 in
theorem gX8_tell_X8_refuse : GoodIn wsX8_tell (wsV RX8 83 RX8 yX8_refuse wsX8_refuse) := goodIn_app (goodIn_of _ (by decide +kernel)) ggX8_tell_X8_refuse
theorem dX8_tell_0 : decode cX8_tell 0 = .ok (.iload_n 1, 1) := by decide +kernel
theorem dX8_tell_1 : decode cX8_tell 1 = .ok (.iconst 0, 1) := by decide +kernel
theorem dX8_tell_2 : decode cX8_tell 2 = .ok (.iconst 4, 1) := by decide +kernel
theorem dX8_tell_3 : decode cX8_tell 3 = .ok (.invokestatic 79, 3) := by decide +kernel
theorem dX8_tell_6 : decode cX8_tell 6 = .ok (.ifCond .eq 20, 3) := by decide +kernel
theorem dX8_tell_9 : decode cX8_tell 9 = .ok (.iload_n 2, 1) := by decide +kernel
theorem dX8_tell_10 : decode cX8_tell 10 = .ok (.getstatic 173, 3) := by decide +kernel
theorem dX8_tell_13 : decode cX8_tell 13 = .ok (.iload_n 1, 1) := by decide +kernel
theorem dX8_tell_14 : decode cX8_tell 14 = .ok (.iaload, 1) := by decide +kernel
theorem dX8_tell_15 : decode cX8_tell 15 = .ok (.getstatic 176, 3) := by decide +kernel
theorem dX8_tell_18 : decode cX8_tell 18 = .ok (.iload_n 1, 1) := by decide +kernel
theorem dX8_tell_19 : decode cX8_tell 19 = .ok (.iaload, 1) := by decide +kernel
theorem dX8_tell_20 : decode cX8_tell 20 = .ok (.invokestatic 79, 3) := by decide +kernel
theorem dX8_tell_23 : decode cX8_tell 23 = .ok (.ifCond .ne 11, 3) := by decide +kernel
theorem dX8_tell_26 : decode cX8_tell 26 = .ok (.aload_n 0, 1) := by decide +kernel
theorem dX8_tell_27 : decode cX8_tell 27 = .ok (.sipush (-1002), 3) := by decide +kernel
theorem dX8_tell_30 : decode cX8_tell 30 = .ok (.invokevirtual 83, 3) := by decide +kernel
theorem dX8_tell_33 : decode cX8_tell 33 = .ok (.ireturn, 1) := by decide +kernel
theorem dX8_tell_34 : decode cX8_tell 34 = .ok (.aload_n 0, 1) := by decide +kernel
theorem dX8_tell_35 : decode cX8_tell 35 = .ok (.getfield 12, 3) := by decide +kernel
theorem dX8_tell_38 : decode cX8_tell 38 = .ok (.getfield 179, 3) := by decide +kernel
theorem dX8_tell_41 : decode cX8_tell 41 = .ok (.iload_n 1, 1) := by decide +kernel
theorem dX8_tell_42 : decode cX8_tell 42 = .ok (.iaload, 1) := by decide +kernel
theorem dX8_tell_43 : decode cX8_tell 43 = .ok (.istore_n 3, 1) := by decide +kernel
theorem dX8_tell_44 : decode cX8_tell 44 = .ok (.aload_n 0, 1) := by decide +kernel
theorem dX8_tell_45 : decode cX8_tell 45 = .ok (.getfield 12, 3) := by decide +kernel
theorem dX8_tell_48 : decode cX8_tell 48 = .ok (.getfield 179, 3) := by decide +kernel
theorem dX8_tell_51 : decode cX8_tell 51 = .ok (.iload_n 1, 1) := by decide +kernel
theorem dX8_tell_52 : decode cX8_tell 52 = .ok (.iload_n 2, 1) := by decide +kernel
theorem dX8_tell_53 : decode cX8_tell 53 = .ok (.iastore, 1) := by decide +kernel
theorem dX8_tell_54 : decode cX8_tell 54 = .ok (.iload_n 3, 1) := by decide +kernel
theorem dX8_tell_55 : decode cX8_tell 55 = .ok (.ireturn, 1) := by decide +kernel
set_option maxRecDepth 20000 in
theorem ggX8_feed_X8_within : GoodIn wsX8_feed wsX8_within := goodIn_r _ [6] (by decide +kernel) (by decide +kernel)
set_option maxRecDepth 20000 in
theorem gX8_feed_X8_within : GoodIn wsX8_feed (va_wsS RX8 79 yX8_within wsX8_within) := goodIn_app (goodIn_of _ (by decide +kernel)) ggX8_feed_X8_within
set_option maxRecDepth 20000 in
theorem ggX8_feed_X8_refuse : GoodIn wsX8_feed wsX8_refuse := goodIn_r _ [10, 11, 3, 4, 5, 6, 19, 20, 21, 22, 23, 24, 25, 26, 27, 28, 29, 30] (by decide +kernel) (by decide +kernel)
set_option maxRecDepth 20000 in
theorem gX8_feed_X8_refuse : GoodIn wsX8_feed (wsV RX8 83 RX8 yX8_refuse wsX8_refuse) := goodIn_app (goodIn_of _ (by decide +kernel)) ggX8_feed_X8_refuse
set_option maxRecDepth 20000 in
theorem ggX8_feed_X7_append : GoodIn wsX8_feed wsX7_append := goodIn_r _ [16, 17, 18, 4, 5, 6, 31, 32, 33, 34, 35, 36] (by decide +kernel) (by decide +kernel)
set_option maxRecDepth 20000 in
theorem gX8_feed_X7_append : GoodIn wsX8_feed (wsV RX8 182 RX7 yX7_append wsX7_append) := goodIn_app (goodIn_of _ (by decide +kernel)) ggX8_feed_X7_append
theorem dX8_feed_0 : decode cX8_feed 0 = .ok (.iload_n 1, 1) := by decide +kernel
theorem dX8_feed_1 : decode cX8_feed 1 = .ok (.iconst 0, 1) := by decide +kernel
theorem dX8_feed_2 : decode cX8_feed 2 = .ok (.sipush 255, 3) := by decide +kernel
theorem dX8_feed_5 : decode cX8_feed 5 = .ok (.invokestatic 79, 3) := by decide +kernel
theorem dX8_feed_8 : decode cX8_feed 8 = .ok (.ifCond .ne 11, 3) := by decide +kernel
theorem dX8_feed_11 : decode cX8_feed 11 = .ok (.aload_n 0, 1) := by decide +kernel
theorem dX8_feed_12 : decode cX8_feed 12 = .ok (.sipush (-1002), 3) := by decide +kernel
theorem dX8_feed_15 : decode cX8_feed 15 = .ok (.invokevirtual 83, 3) := by decide +kernel
theorem dX8_feed_18 : decode cX8_feed 18 = .ok (.ireturn, 1) := by decide +kernel
theorem dX8_feed_19 : decode cX8_feed 19 = .ok (.aload_n 0, 1) := by decide +kernel
theorem dX8_feed_20 : decode cX8_feed 20 = .ok (.getfield 25, 3) := by decide +kernel
theorem dX8_feed_23 : decode cX8_feed 23 = .ok (.iload_n 1, 1) := by decide +kernel
theorem dX8_feed_24 : decode cX8_feed 24 = .ok (.invokevirtual 182, 3) := by decide +kernel
theorem dX8_feed_27 : decode cX8_feed 27 = .ok (.ifCond .eq 13, 3) := by decide +kernel
theorem dX8_feed_30 : decode cX8_feed 30 = .ok (.aload_n 0, 1) := by decide +kernel
theorem dX8_feed_31 : decode cX8_feed 31 = .ok (.getfield 25, 3) := by decide +kernel
theorem dX8_feed_34 : decode cX8_feed 34 = .ok (.getfield 185, 3) := by decide +kernel
theorem dX8_feed_37 : decode cX8_feed 37 = .ok (.goto 10, 3) := by decide +kernel
theorem dX8_feed_40 : decode cX8_feed 40 = .ok (.aload_n 0, 1) := by decide +kernel
theorem dX8_feed_41 : decode cX8_feed 41 = .ok (.sipush (-1006), 3) := by decide +kernel
theorem dX8_feed_44 : decode cX8_feed 44 = .ok (.invokevirtual 83, 3) := by decide +kernel
theorem dX8_feed_47 : decode cX8_feed 47 = .ok (.ireturn, 1) := by decide +kernel
theorem dX8_wipe_0 : decode cX8_wipe 0 = .ok (.aload_n 0, 1) := by decide +kernel
theorem dX8_wipe_1 : decode cX8_wipe 1 = .ok (.getfield 25, 3) := by decide +kernel
theorem dX8_wipe_4 : decode cX8_wipe 4 = .ok (.getfield 185, 3) := by decide +kernel
theorem dX8_wipe_7 : decode cX8_wipe 7 = .ok (.istore_n 1, 1) := by decide +kernel
theorem dX8_wipe_8 : decode cX8_wipe 8 = .ok (.aload_n 0, 1) := by decide +kernel
theorem dX8_wipe_9 : decode cX8_wipe 9 = .ok (.getfield 25, 3) := by decide +kernel
theorem dX8_wipe_12 : decode cX8_wipe 12 = .ok (.iconst 0, 1) := by decide +kernel
theorem dX8_wipe_13 : decode cX8_wipe 13 = .ok (.putfield 185, 3) := by decide +kernel
theorem dX8_wipe_16 : decode cX8_wipe 16 = .ok (.iload_n 1, 1) := by decide +kernel
theorem dX8_wipe_17 : decode cX8_wipe 17 = .ok (.ireturn, 1) := by decide +kernel
set_option maxRecDepth 20000 in
theorem ggX8_bank_X2_become : GoodIn wsX8_bank wsX2_become := goodIn_r _ [10, 11, 12, 13, 14, 15, 16, 17, 18, 19, 20, 21, 22, 23, 24, 25, 26, 27, 177, 178, 179, 180, 181, 182, 183, 184, 185, 186, 187, 188, 189] (by decide +kernel) (by decide +kernel)
set_option maxRecDepth 20000 in
theorem gX8_bank_X2_become : GoodIn wsX8_bank (wsV RX8 188 RX2 yX2_become wsX2_become) := goodIn_app (goodIn_of _ (by decide +kernel)) ggX8_bank_X2_become
set_option maxRecDepth 20000 in
theorem ggX8_bank_X7_readInto : GoodIn wsX8_bank wsX7_readInto := goodIn_r _ [32, 33, 34, 35, 36, 37, 38, 31, 39, 40, 41, 42, 43, 44, 45, 46, 47, 48, 49, 50, 51, 52, 53, 54, 55, 56, 57, 58, 59, 60, 61, 62, 63, 64, 65, 66, 67, 68, 69, 70, 71, 72, 73, 74, 75, 76, 77, 78, 79, 80, 81, 82, 83, 84, 85, 86, 87, 88, 89, 90, 91, 92, 93, 94, 95, 96, 97, 98, 99, 100, 101, 102, 103, 104, 105, 106, 107, 108, 109, 110, 111, 112, 113, 9, 114, 22, 115, 116, 117, 118, 119, 120, 121, 122, 123, 124, 125, 126, 11, 16, 17, 18, 127, 128, 129, 130, 131, 132, 133, 134, 135, 136, 19, 20, 137, 138, 139, 140, 141, 142, 143, 144, 145, 146, 147, 148, 149, 150, 151, 152, 171, 172, 173, 174, 175, 176, 177, 178, 179, 180, 181, 182, 183, 184, 185, 186, 187, 188, 189] (by decide +kernel) (by decide +kernel)
set_option maxRecDepth 20000 in
theorem gX8_bank_X7_readInto : GoodIn wsX8_bank (wsV RX8 192 RX7 yX7_readInto wsX7_readInto) := goodIn_app (goodIn_of _ (by decide +kernel)) ggX8_bank_X7_readInto
set_option maxRecDepth 20000 in
theorem ggX8_bank_X8_refuse : GoodIn wsX8_bank wsX8_refuse := goodIn_r _ [156, 157, 158, 51, 52, 53, 159, 160, 161, 162, 163, 164, 165, 166, 167, 168, 169, 170] (by decide +kernel) (by decide +kernel)
set_option maxRecDepth 20000 in
theorem gX8_bank_X8_refuse : GoodIn wsX8_bank (wsV RX8 83 RX8 yX8_refuse wsX8_refuse) := goodIn_app (goodIn_of _ (by decide +kernel)) ggX8_bank_X8_refuse
theorem dX8_bank_0 : decode cX8_bank 0 = .ok (.aload_n 0, 1) := by decide +kernel
theorem dX8_bank_1 : decode cX8_bank 1 = .ok (.getfield 19, 3) := by decide +kernel
theorem dX8_bank_4 : decode cX8_bank 4 = .ok (.aload_n 0, 1) := by decide +kernel
theorem dX8_bank_5 : decode cX8_bank 5 = .ok (.getfield 12, 3) := by decide +kernel
theorem dX8_bank_8 : decode cX8_bank 8 = .ok (.invokevirtual 188, 3) := by decide +kernel
theorem dX8_bank_11 : decode cX8_bank 11 = .ok (.aload_n 0, 1) := by decide +kernel
theorem dX8_bank_12 : decode cX8_bank 12 = .ok (.getfield 25, 3) := by decide +kernel
theorem dX8_bank_15 : decode cX8_bank 15 = .ok (.aload_n 0, 1) := by decide +kernel
theorem dX8_bank_16 : decode cX8_bank 16 = .ok (.getfield 19, 3) := by decide +kernel
theorem dX8_bank_19 : decode cX8_bank 19 = .ok (.invokevirtual 192, 3) := by decide +kernel
theorem dX8_bank_22 : decode cX8_bank 22 = .ok (.istore_n 1, 1) := by decide +kernel
theorem dX8_bank_23 : decode cX8_bank 23 = .ok (.iload_n 1, 1) := by decide +kernel
theorem dX8_bank_24 : decode cX8_bank 24 = .ok (.iconst (-1), 1) := by decide +kernel
theorem dX8_bank_25 : decode cX8_bank 25 = .ok (.if_icmp .ne 17, 3) := by decide +kernel
theorem dX8_bank_28 : decode cX8_bank 28 = .ok (.sipush (-2000), 3) := by decide +kernel
theorem dX8_bank_31 : decode cX8_bank 31 = .ok (.aload_n 0, 1) := by decide +kernel
theorem dX8_bank_32 : decode cX8_bank 32 = .ok (.getfield 25, 3) := by decide +kernel
theorem dX8_bank_35 : decode cX8_bank 35 = .ok (.getfield 196, 3) := by decide +kernel
theorem dX8_bank_38 : decode cX8_bank 38 = .ok (.isub, 1) := by decide +kernel
theorem dX8_bank_39 : decode cX8_bank 39 = .ok (.goto 4, 3) := by decide +kernel
theorem dX8_bank_42 : decode cX8_bank 42 = .ok (.iload_n 1, 1) := by decide +kernel
theorem dX8_bank_43 : decode cX8_bank 43 = .ok (.istore_n 2, 1) := by decide +kernel
theorem dX8_bank_44 : decode cX8_bank 44 = .ok (.aload_n 0, 1) := by decide +kernel
theorem dX8_bank_45 : decode cX8_bank 45 = .ok (.getfield 25, 3) := by decide +kernel
theorem dX8_bank_48 : decode cX8_bank 48 = .ok (.iconst 0, 1) := by decide +kernel
theorem dX8_bank_49 : decode cX8_bank 49 = .ok (.putfield 185, 3) := by decide +kernel
theorem dX8_bank_52 : decode cX8_bank 52 = .ok (.iload_n 1, 1) := by decide +kernel
theorem dX8_bank_53 : decode cX8_bank 53 = .ok (.iconst (-1), 1) := by decide +kernel
theorem dX8_bank_54 : decode cX8_bank 54 = .ok (.if_icmp .ne 14, 3) := by decide +kernel
theorem dX8_bank_57 : decode cX8_bank 57 = .ok (.aload_n 0, 1) := by decide +kernel
theorem dX8_bank_58 : decode cX8_bank 58 = .ok (.sipush (-1002), 3) := by decide +kernel
theorem dX8_bank_61 : decode cX8_bank 61 = .ok (.invokevirtual 83, 3) := by decide +kernel
theorem dX8_bank_64 : decode cX8_bank 64 = .ok (.pop, 1) := by decide +kernel
theorem dX8_bank_65 : decode cX8_bank 65 = .ok (.goto 14, 3) := by decide +kernel
theorem dX8_bank_68 : decode cX8_bank 68 = .ok (.aload_n 0, 1) := by decide +kernel
theorem dX8_bank_69 : decode cX8_bank 69 = .ok (.getfield 12, 3) := by decide +kernel
theorem dX8_bank_72 : decode cX8_bank 72 = .ok (.aload_n 0, 1) := by decide +kernel
theorem dX8_bank_73 : decode cX8_bank 73 = .ok (.getfield 19, 3) := by decide +kernel
theorem dX8_bank_76 : decode cX8_bank 76 = .ok (.invokevirtual 188, 3) := by decide +kernel
theorem dX8_bank_79 : decode cX8_bank 79 = .ok (.iload_n 2, 1) := by decide +kernel
theorem dX8_bank_80 : decode cX8_bank 80 = .ok (.ireturn, 1) := by decide +kernel
set_option maxRecDepth 20000 in
theorem ggX8_partyOf_X2_hasParty : GoodIn wsX8_partyOf wsX2_hasParty := goodIn_r _ [12, 13, 14, 15, 16, 54, 55, 56, 57, 58, 59, 60, 61, 62, 63, 64, 65, 66] (by decide +kernel) (by decide +kernel)
set_option maxRecDepth 20000 in
theorem gX8_partyOf_X2_hasParty : GoodIn wsX8_partyOf (wsV RX8 127 RX2 yX2_hasParty wsX2_hasParty) := goodIn_app (goodIn_of _ (by decide +kernel)) ggX8_partyOf_X2_hasParty
set_option maxRecDepth 20000 in
theorem ggX8_partyOf_X8_refuse : GoodIn wsX8_partyOf wsX8_refuse := goodIn_r _ [20, 21, 22, 14, 15, 16, 42, 43, 44, 45, 46, 47, 48, 49, 50, 51, 52, 53] (by decide +kernel) (by decide +kernel)
set_option maxRecDepth 20000 in
theorem gX8_partyOf_X8_refuse : GoodIn wsX8_partyOf (wsV RX8 83 RX8 yX8_refuse wsX8_refuse) := goodIn_app (goodIn_of _ (by decide +kernel)) ggX8_partyOf_X8_refuse
set_option maxRecDepth 20000 in
theorem ggX8_partyOf_X2_headsOf : GoodIn wsX8_partyOf wsX2_headsOf := goodIn_r _ [26, 27, 28, 29, 30, 11, 31, 32, 33, 34, 54, 55, 56, 57, 58, 59, 60, 61, 62, 63, 64, 65, 66] (by decide +kernel) (by decide +kernel)
set_option maxRecDepth 20000 in
theorem gX8_partyOf_X2_headsOf : GoodIn wsX8_partyOf (wsV RX8 149 RX2 yX2_headsOf wsX2_headsOf) := goodIn_app (goodIn_of _ (by decide +kernel)) ggX8_partyOf_X2_headsOf
set_option maxRecDepth 20000 in
theorem ggX8_partyOf_X2_isOver : GoodIn wsX8_partyOf wsX2_isOver := goodIn_r _ [38, 39, 40, 15, 41, 54, 55, 56, 57, 58, 59, 60, 61, 62, 63, 64, 65, 66] (by decide +kernel) (by decide +kernel)
set_option maxRecDepth 20000 in
theorem gX8_partyOf_X2_isOver : GoodIn wsX8_partyOf (wsV RX8 202 RX2 yX2_isOver wsX2_isOver) := goodIn_app (goodIn_of _ (by decide +kernel)) ggX8_partyOf_X2_isOver
theorem dX8_partyOf_0 : decode cX8_partyOf 0 = .ok (.aload_n 0, 1) := by decide +kernel
theorem dX8_partyOf_1 : decode cX8_partyOf 1 = .ok (.getfield 12, 3) := by decide +kernel
theorem dX8_partyOf_4 : decode cX8_partyOf 4 = .ok (.iload_n 1, 1) := by decide +kernel
theorem dX8_partyOf_5 : decode cX8_partyOf 5 = .ok (.invokevirtual 127, 3) := by decide +kernel
theorem dX8_partyOf_8 : decode cX8_partyOf 8 = .ok (.ifCond .ne 11, 3) := by decide +kernel
theorem dX8_partyOf_11 : decode cX8_partyOf 11 = .ok (.aload_n 0, 1) := by decide +kernel
theorem dX8_partyOf_12 : decode cX8_partyOf 12 = .ok (.sipush (-1002), 3) := by decide +kernel
theorem dX8_partyOf_15 : decode cX8_partyOf 15 = .ok (.invokevirtual 83, 3) := by decide +kernel
theorem dX8_partyOf_18 : decode cX8_partyOf 18 = .ok (.ireturn, 1) := by decide +kernel
theorem dX8_partyOf_19 : decode cX8_partyOf 19 = .ok (.iload_n 2, 1) := by decide +kernel
theorem dX8_partyOf_20 : decode cX8_partyOf 20 = .ok (.tableswitch 134 0 7 #[48, 58, 68, 78, 88, 97, 114, 124], 48) := by decide +kernel
theorem dX8_partyOf_68 : decode cX8_partyOf 68 = .ok (.aload_n 0, 1) := by decide +kernel
theorem dX8_partyOf_69 : decode cX8_partyOf 69 = .ok (.getfield 12, 3) := by decide +kernel
theorem dX8_partyOf_72 : decode cX8_partyOf 72 = .ok (.getfield 140, 3) := by decide +kernel
theorem dX8_partyOf_75 : decode cX8_partyOf 75 = .ok (.iload_n 1, 1) := by decide +kernel
theorem dX8_partyOf_76 : decode cX8_partyOf 76 = .ok (.iaload, 1) := by decide +kernel
theorem dX8_partyOf_77 : decode cX8_partyOf 77 = .ok (.ireturn, 1) := by decide +kernel
theorem dX8_partyOf_78 : decode cX8_partyOf 78 = .ok (.aload_n 0, 1) := by decide +kernel
theorem dX8_partyOf_79 : decode cX8_partyOf 79 = .ok (.getfield 12, 3) := by decide +kernel
theorem dX8_partyOf_82 : decode cX8_partyOf 82 = .ok (.getfield 199, 3) := by decide +kernel
theorem dX8_partyOf_85 : decode cX8_partyOf 85 = .ok (.iload_n 1, 1) := by decide +kernel
theorem dX8_partyOf_86 : decode cX8_partyOf 86 = .ok (.iaload, 1) := by decide +kernel
theorem dX8_partyOf_87 : decode cX8_partyOf 87 = .ok (.ireturn, 1) := by decide +kernel
theorem dX8_partyOf_88 : decode cX8_partyOf 88 = .ok (.aload_n 0, 1) := by decide +kernel
theorem dX8_partyOf_89 : decode cX8_partyOf 89 = .ok (.getfield 12, 3) := by decide +kernel
theorem dX8_partyOf_92 : decode cX8_partyOf 92 = .ok (.getfield 159, 3) := by decide +kernel
theorem dX8_partyOf_95 : decode cX8_partyOf 95 = .ok (.iload_n 1, 1) := by decide +kernel
theorem dX8_partyOf_96 : decode cX8_partyOf 96 = .ok (.iaload, 1) := by decide +kernel
theorem dX8_partyOf_97 : decode cX8_partyOf 97 = .ok (.ireturn, 1) := by decide +kernel
theorem dX8_partyOf_98 : decode cX8_partyOf 98 = .ok (.aload_n 0, 1) := by decide +kernel
theorem dX8_partyOf_99 : decode cX8_partyOf 99 = .ok (.getfield 12, 3) := by decide +kernel
theorem dX8_partyOf_102 : decode cX8_partyOf 102 = .ok (.getfield 146, 3) := by decide +kernel
theorem dX8_partyOf_105 : decode cX8_partyOf 105 = .ok (.iload_n 1, 1) := by decide +kernel
theorem dX8_partyOf_106 : decode cX8_partyOf 106 = .ok (.iaload, 1) := by decide +kernel
theorem dX8_partyOf_107 : decode cX8_partyOf 107 = .ok (.ireturn, 1) := by decide +kernel
theorem dX8_partyOf_108 : decode cX8_partyOf 108 = .ok (.aload_n 0, 1) := by decide +kernel
theorem dX8_partyOf_109 : decode cX8_partyOf 109 = .ok (.getfield 12, 3) := by decide +kernel
theorem dX8_partyOf_112 : decode cX8_partyOf 112 = .ok (.iload_n 1, 1) := by decide +kernel
theorem dX8_partyOf_113 : decode cX8_partyOf 113 = .ok (.invokevirtual 149, 3) := by decide +kernel
theorem dX8_partyOf_116 : decode cX8_partyOf 116 = .ok (.ireturn, 1) := by decide +kernel
theorem dX8_partyOf_117 : decode cX8_partyOf 117 = .ok (.aload_n 0, 1) := by decide +kernel
theorem dX8_partyOf_118 : decode cX8_partyOf 118 = .ok (.getfield 12, 3) := by decide +kernel
theorem dX8_partyOf_121 : decode cX8_partyOf 121 = .ok (.iload_n 1, 1) := by decide +kernel
theorem dX8_partyOf_122 : decode cX8_partyOf 122 = .ok (.invokevirtual 202, 3) := by decide +kernel
theorem dX8_partyOf_125 : decode cX8_partyOf 125 = .ok (.ifCond .eq 7, 3) := by decide +kernel
theorem dX8_partyOf_128 : decode cX8_partyOf 128 = .ok (.iconst 1, 1) := by decide +kernel
theorem dX8_partyOf_129 : decode cX8_partyOf 129 = .ok (.goto 4, 3) := by decide +kernel
theorem dX8_partyOf_132 : decode cX8_partyOf 132 = .ok (.iconst 0, 1) := by decide +kernel
theorem dX8_partyOf_133 : decode cX8_partyOf 133 = .ok (.ireturn, 1) := by decide +kernel
theorem dX8_partyOf_134 : decode cX8_partyOf 134 = .ok (.aload_n 0, 1) := by decide +kernel
theorem dX8_partyOf_135 : decode cX8_partyOf 135 = .ok (.getfield 12, 3) := by decide +kernel
theorem dX8_partyOf_138 : decode cX8_partyOf 138 = .ok (.getfield 205, 3) := by decide +kernel
theorem dX8_partyOf_141 : decode cX8_partyOf 141 = .ok (.iload_n 1, 1) := by decide +kernel
theorem dX8_partyOf_142 : decode cX8_partyOf 142 = .ok (.iaload, 1) := by decide +kernel
theorem dX8_partyOf_143 : decode cX8_partyOf 143 = .ok (.ireturn, 1) := by decide +kernel
theorem dX8_partyOf_144 : decode cX8_partyOf 144 = .ok (.aload_n 0, 1) := by decide +kernel
theorem dX8_partyOf_145 : decode cX8_partyOf 145 = .ok (.getfield 12, 3) := by decide +kernel
theorem dX8_partyOf_148 : decode cX8_partyOf 148 = .ok (.getfield 208, 3) := by decide +kernel
theorem dX8_partyOf_151 : decode cX8_partyOf 151 = .ok (.iload_n 1, 1) := by decide +kernel
theorem dX8_partyOf_152 : decode cX8_partyOf 152 = .ok (.iaload, 1) := by decide +kernel
theorem dX8_partyOf_153 : decode cX8_partyOf 153 = .ok (.ireturn, 1) := by decide +kernel
theorem dX8_partyOf_154 : decode cX8_partyOf 154 = .ok (.aload_n 0, 1) := by decide +kernel
theorem dX8_partyOf_155 : decode cX8_partyOf 155 = .ok (.sipush (-1002), 3) := by decide +kernel
theorem dX8_partyOf_158 : decode cX8_partyOf 158 = .ok (.invokevirtual 83, 3) := by decide +kernel
theorem dX8_partyOf_161 : decode cX8_partyOf 161 = .ok (.ireturn, 1) := by decide +kernel
set_option maxRecDepth 20000 in
theorem ggX8_heads_X2_hasGroup : GoodIn wsX8_heads wsX2_hasGroup := goodIn_r _ [6, 7, 8, 9, 5, 10, 11, 12, 13, 14, 51, 52, 53, 54, 55, 56, 57, 58, 59, 60, 61, 62, 63] (by decide +kernel) (by decide +kernel)
set_option maxRecDepth 20000 in
theorem gX8_heads_X2_hasGroup : GoodIn wsX8_heads (wsV RX8 211 RX2 yX2_hasGroup wsX2_hasGroup) := goodIn_app (goodIn_of _ (by decide +kernel)) ggX8_heads_X2_hasGroup
set_option maxRecDepth 20000 in
theorem ggX8_heads_X2_headsTogether : GoodIn wsX8_heads wsX2_headsTogether := goodIn_r _ [18, 11, 19, 13, 20, 21, 22, 23, 5, 24, 25, 26, 27, 28, 29, 30, 31, 32, 51, 52, 53, 54, 55, 56, 57, 58, 59, 60, 61, 62, 63] (by decide +kernel) (by decide +kernel)
set_option maxRecDepth 20000 in
theorem gX8_heads_X2_headsTogether : GoodIn wsX8_heads (wsV RX8 214 RX2 yX2_headsTogether wsX2_headsTogether) := goodIn_app (goodIn_of _ (by decide +kernel)) ggX8_heads_X2_headsTogether
set_option maxRecDepth 20000 in
theorem ggX8_heads_X8_refuse : GoodIn wsX8_heads wsX8_refuse := goodIn_r _ [36, 37, 38, 12, 13, 14, 39, 40, 41, 42, 43, 44, 45, 46, 47, 48, 49, 50] (by decide +kernel) (by decide +kernel)
set_option maxRecDepth 20000 in
theorem gX8_heads_X8_refuse : GoodIn wsX8_heads (wsV RX8 83 RX8 yX8_refuse wsX8_refuse) := goodIn_app (goodIn_of _ (by decide +kernel)) ggX8_heads_X8_refuse
theorem dX8_heads_0 : decode cX8_heads 0 = .ok (.aload_n 0, 1) := by decide +kernel
theorem dX8_heads_1 : decode cX8_heads 1 = .ok (.getfield 12, 3) := by decide +kernel
theorem dX8_heads_4 : decode cX8_heads 4 = .ok (.iload_n 1, 1) := by decide +kernel
theorem dX8_heads_5 : decode cX8_heads 5 = .ok (.invokevirtual 211, 3) := by decide +kernel
theorem dX8_heads_8 : decode cX8_heads 8 = .ok (.ifCond .eq 14, 3) := by decide +kernel
theorem dX8_heads_11 : decode cX8_heads 11 = .ok (.aload_n 0, 1) := by decide +kernel
theorem dX8_heads_12 : decode cX8_heads 12 = .ok (.getfield 12, 3) := by decide +kernel
theorem dX8_heads_15 : decode cX8_heads 15 = .ok (.iload_n 1, 1) := by decide +kernel
theorem dX8_heads_16 : decode cX8_heads 16 = .ok (.invokevirtual 214, 3) := by decide +kernel
theorem dX8_heads_19 : decode cX8_heads 19 = .ok (.goto 10, 3) := by decide +kernel
theorem dX8_heads_22 : decode cX8_heads 22 = .ok (.aload_n 0, 1) := by decide +kernel
theorem dX8_heads_23 : decode cX8_heads 23 = .ok (.sipush (-1002), 3) := by decide +kernel
theorem dX8_heads_26 : decode cX8_heads 26 = .ok (.invokevirtual 83, 3) := by decide +kernel
theorem dX8_heads_29 : decode cX8_heads 29 = .ok (.ireturn, 1) := by decide +kernel
set_option maxRecDepth 20000 in
theorem ggX8_goes_X8_within : GoodIn wsX8_goes wsX8_within := goodIn_r _ [5] (by decide +kernel) (by decide +kernel)
set_option maxRecDepth 20000 in
theorem gX8_goes_X8_within : GoodIn wsX8_goes (va_wsS RX8 79 yX8_within wsX8_within) := goodIn_app (goodIn_of _ (by decide +kernel)) ggX8_goes_X8_within
set_option maxRecDepth 20000 in
theorem ggX8_goes_X8_refuse : GoodIn wsX8_goes wsX8_refuse := goodIn_r _ [9, 10, 2, 3, 4, 5, 23, 24, 25, 26, 27, 28, 29, 30, 31, 32, 33, 34] (by decide +kernel) (by decide +kernel)
set_option maxRecDepth 20000 in
theorem gX8_goes_X8_refuse : GoodIn wsX8_goes (wsV RX8 83 RX8 yX8_refuse wsX8_refuse) := goodIn_app (goodIn_of _ (by decide +kernel)) ggX8_goes_X8_refuse
set_option maxRecDepth 20000 in
theorem ggX8_goes_X2_lets : GoodIn wsX8_goes wsX2_lets := goodIn_r _ [15, 16, 3, 4, 5, 17, 18, 14, 19, 20, 21, 22, 35, 36, 37, 38, 39, 40, 41, 42, 43, 44, 45, 46, 47] (by decide +kernel) (by decide +kernel)
set_option maxRecDepth 20000 in
theorem gX8_goes_X2_lets : GoodIn wsX8_goes (wsV RX8 217 RX2 yX2_lets wsX2_lets) := goodIn_app (goodIn_of _ (by decide +kernel)) ggX8_goes_X2_lets
theorem dX8_goes_0 : decode cX8_goes 0 = .ok (.iload_n 1, 1) := by decide +kernel
theorem dX8_goes_1 : decode cX8_goes 1 = .ok (.iconst 0, 1) := by decide +kernel
theorem dX8_goes_2 : decode cX8_goes 2 = .ok (.sipush 999, 3) := by decide +kernel
theorem dX8_goes_5 : decode cX8_goes 5 = .ok (.invokestatic 79, 3) := by decide +kernel
theorem dX8_goes_8 : decode cX8_goes 8 = .ok (.ifCond .ne 11, 3) := by decide +kernel
theorem dX8_goes_11 : decode cX8_goes 11 = .ok (.aload_n 0, 1) := by decide +kernel
theorem dX8_goes_12 : decode cX8_goes 12 = .ok (.sipush (-1002), 3) := by decide +kernel
theorem dX8_goes_15 : decode cX8_goes 15 = .ok (.invokevirtual 83, 3) := by decide +kernel
theorem dX8_goes_18 : decode cX8_goes 18 = .ok (.ireturn, 1) := by decide +kernel
theorem dX8_goes_19 : decode cX8_goes 19 = .ok (.aload_n 0, 1) := by decide +kernel
theorem dX8_goes_20 : decode cX8_goes 20 = .ok (.getfield 12, 3) := by decide +kernel
theorem dX8_goes_23 : decode cX8_goes 23 = .ok (.iload_n 1, 1) := by decide +kernel
theorem dX8_goes_24 : decode cX8_goes 24 = .ok (.invokevirtual 217, 3) := by decide +kernel
theorem dX8_goes_27 : decode cX8_goes 27 = .ok (.ifCond .eq 7, 3) := by decide +kernel
theorem dX8_goes_30 : decode cX8_goes 30 = .ok (.iconst 1, 1) := by decide +kernel
theorem dX8_goes_31 : decode cX8_goes 31 = .ok (.goto 4, 3) := by decide +kernel
theorem dX8_goes_34 : decode cX8_goes 34 = .ok (.iconst 0, 1) := by decide +kernel
theorem dX8_goes_35 : decode cX8_goes 35 = .ok (.ireturn, 1) := by decide +kernel
set_option maxRecDepth 20000 in
theorem ggX8_next_X8_within : GoodIn wsX8_next wsX8_within := goodIn_r _ [5] (by decide +kernel) (by decide +kernel)
set_option maxRecDepth 20000 in
theorem gX8_next_X8_within : GoodIn wsX8_next (va_wsS RX8 79 yX8_within wsX8_within) := goodIn_app (goodIn_of _ (by decide +kernel)) ggX8_next_X8_within
set_option maxRecDepth 20000 in
theorem ggX8_next_X8_refuse : GoodIn wsX8_next wsX8_refuse := goodIn_r _ [9, 10, 2, 3, 4, 5, 23, 24, 25, 26, 27, 28, 29, 30, 31, 32, 33, 34] (by decide +kernel) (by decide +kernel)
set_option maxRecDepth 20000 in
theorem gX8_next_X8_refuse : GoodIn wsX8_next (wsV RX8 83 RX8 yX8_refuse wsX8_refuse) := goodIn_app (goodIn_of _ (by decide +kernel)) ggX8_next_X8_refuse
set_option maxRecDepth 20000 in
theorem ggX8_next_X2_lets : GoodIn wsX8_next wsX2_lets := goodIn_r _ [15, 16, 3, 4, 5, 17, 18, 14, 19, 20, 21, 22, 35, 36, 37, 38, 39, 40, 41, 42, 43, 44, 45, 46, 47] (by decide +kernel) (by decide +kernel)
set_option maxRecDepth 20000 in
theorem gX8_next_X2_lets : GoodIn wsX8_next (wsV RX8 217 RX2 yX2_lets wsX2_lets) := goodIn_app (goodIn_of _ (by decide +kernel)) ggX8_next_X2_lets
theorem dX8_next_0 : decode cX8_next 0 = .ok (.iload_n 1, 1) := by decide +kernel
theorem dX8_next_1 : decode cX8_next 1 = .ok (.iconst 0, 1) := by decide +kernel
theorem dX8_next_2 : decode cX8_next 2 = .ok (.bipush 99, 2) := by decide +kernel
theorem dX8_next_4 : decode cX8_next 4 = .ok (.invokestatic 79, 3) := by decide +kernel
theorem dX8_next_7 : decode cX8_next 7 = .ok (.ifCond .ne 11, 3) := by decide +kernel
theorem dX8_next_10 : decode cX8_next 10 = .ok (.aload_n 0, 1) := by decide +kernel
theorem dX8_next_11 : decode cX8_next 11 = .ok (.sipush (-1002), 3) := by decide +kernel
theorem dX8_next_14 : decode cX8_next 14 = .ok (.invokevirtual 83, 3) := by decide +kernel
theorem dX8_next_17 : decode cX8_next 17 = .ok (.ireturn, 1) := by decide +kernel
theorem dX8_next_18 : decode cX8_next 18 = .ok (.iload_n 1, 1) := by decide +kernel
theorem dX8_next_19 : decode cX8_next 19 = .ok (.istore_n 2, 1) := by decide +kernel
theorem dX8_next_20 : decode cX8_next 20 = .ok (.iload_n 2, 1) := by decide +kernel
theorem dX8_next_21 : decode cX8_next 21 = .ok (.bipush 99, 2) := by decide +kernel
theorem dX8_next_23 : decode cX8_next 23 = .ok (.if_icmp .gt 22, 3) := by decide +kernel
theorem dX8_next_26 : decode cX8_next 26 = .ok (.aload_n 0, 1) := by decide +kernel
theorem dX8_next_27 : decode cX8_next 27 = .ok (.getfield 12, 3) := by decide +kernel
theorem dX8_next_30 : decode cX8_next 30 = .ok (.iload_n 2, 1) := by decide +kernel
theorem dX8_next_31 : decode cX8_next 31 = .ok (.invokevirtual 217, 3) := by decide +kernel
theorem dX8_next_34 : decode cX8_next 34 = .ok (.ifCond .eq 5, 3) := by decide +kernel
theorem dX8_next_37 : decode cX8_next 37 = .ok (.iload_n 2, 1) := by decide +kernel
theorem dX8_next_38 : decode cX8_next 38 = .ok (.ireturn, 1) := by decide +kernel
theorem dX8_next_39 : decode cX8_next 39 = .ok (.iinc 2 1, 3) := by decide +kernel
theorem dX8_next_42 : decode cX8_next 42 = .ok (.goto (-22), 3) := by decide +kernel
theorem dX8_next_45 : decode cX8_next 45 = .ok (.iconst (-1), 1) := by decide +kernel
theorem dX8_next_46 : decode cX8_next 46 = .ok (.ireturn, 1) := by decide +kernel
set_option maxRecDepth 20000 in
theorem ggX8_hire_X2_hasGroup : GoodIn wsX8_hire wsX2_hasGroup := goodIn_r _ [6, 7, 8, 9, 5, 10, 11, 12, 13, 14, 80, 81, 82, 83, 84, 85, 86, 87, 88, 89, 90, 91, 92] (by decide +kernel) (by decide +kernel)
set_option maxRecDepth 20000 in
theorem gX8_hire_X2_hasGroup : GoodIn wsX8_hire (wsV RX8 211 RX2 yX2_hasGroup wsX2_hasGroup) := goodIn_app (goodIn_of _ (by decide +kernel)) ggX8_hire_X2_hasGroup
set_option maxRecDepth 20000 in
theorem ggX8_hire_X2_hireNow : GoodIn wsX8_hire wsX2_hireNow := goodIn_r _ [18, 19, 20, 21, 22, 5, 23, 24, 25, 26, 27, 28, 11, 29, 30, 31, 13, 32, 33, 34, 35, 36, 37, 38, 39, 40, 41, 42, 43, 44, 45, 46, 47, 48, 49, 50, 51, 52, 53, 54, 55, 12, 14, 56, 57, 58, 59, 60, 61, 80, 81, 82, 83, 84, 85, 86, 87, 88, 89, 90, 91, 92] (by decide +kernel) (by decide +kernel)
set_option maxRecDepth 20000 in
theorem gX8_hire_X2_hireNow : GoodIn wsX8_hire (wsV RX8 220 RX2 yX2_hireNow wsX2_hireNow) := goodIn_app (goodIn_of _ (by decide +kernel)) ggX8_hire_X2_hireNow
set_option maxRecDepth 20000 in
theorem ggX8_hire_X8_refuse : GoodIn wsX8_hire wsX8_refuse := goodIn_r _ [65, 66, 67, 12, 13, 14, 68, 69, 70, 71, 72, 73, 74, 75, 76, 77, 78, 79] (by decide +kernel) (by decide +kernel)
set_option maxRecDepth 20000 in
theorem gX8_hire_X8_refuse : GoodIn wsX8_hire (wsV RX8 83 RX8 yX8_refuse wsX8_refuse) := goodIn_app (goodIn_of _ (by decide +kernel)) ggX8_hire_X8_refuse
theorem dX8_hire_0 : decode cX8_hire 0 = .ok (.aload_n 0, 1) := by decide +kernel
theorem dX8_hire_1 : decode cX8_hire 1 = .ok (.getfield 12, 3) := by decide +kernel
theorem dX8_hire_4 : decode cX8_hire 4 = .ok (.iload_n 1, 1) := by decide +kernel
theorem dX8_hire_5 : decode cX8_hire 5 = .ok (.invokevirtual 211, 3) := by decide +kernel
theorem dX8_hire_8 : decode cX8_hire 8 = .ok (.ifCond .eq 14, 3) := by decide +kernel
theorem dX8_hire_11 : decode cX8_hire 11 = .ok (.aload_n 0, 1) := by decide +kernel
theorem dX8_hire_12 : decode cX8_hire 12 = .ok (.getfield 12, 3) := by decide +kernel
theorem dX8_hire_15 : decode cX8_hire 15 = .ok (.iload_n 1, 1) := by decide +kernel
theorem dX8_hire_16 : decode cX8_hire 16 = .ok (.invokevirtual 220, 3) := by decide +kernel
theorem dX8_hire_19 : decode cX8_hire 19 = .ok (.goto 10, 3) := by decide +kernel
theorem dX8_hire_22 : decode cX8_hire 22 = .ok (.aload_n 0, 1) := by decide +kernel
theorem dX8_hire_23 : decode cX8_hire 23 = .ok (.sipush (-1002), 3) := by decide +kernel
theorem dX8_hire_26 : decode cX8_hire 26 = .ok (.invokevirtual 83, 3) := by decide +kernel
theorem dX8_hire_29 : decode cX8_hire 29 = .ok (.ireturn, 1) := by decide +kernel
set_option maxRecDepth 20000 in
theorem ggX8_many_X2_everybody : GoodIn wsX8_many wsX2_everybody := goodIn_r _ [6, 7, 70, 71, 72, 73, 74, 75, 76, 77, 78, 79, 80, 81, 82] (by decide +kernel) (by decide +kernel)
set_option maxRecDepth 20000 in
theorem gX8_many_X2_everybody : GoodIn wsX8_many (wsV RX8 223 RX2 yX2_everybody wsX2_everybody) := goodIn_app (goodIn_of _ (by decide +kernel)) ggX8_many_X2_everybody
set_option maxRecDepth 20000 in
theorem ggX8_many_X2_hireNow : GoodIn wsX8_many wsX2_hireNow := goodIn_r _ [11, 12, 13, 14, 15, 5, 16, 17, 18, 19, 20, 21, 7, 22, 23, 24, 25, 26, 27, 28, 29, 30, 31, 32, 33, 34, 35, 36, 37, 38, 39, 40, 41, 42, 43, 44, 45, 46, 47, 48, 49, 50, 51, 52, 53, 54, 55, 56, 57, 70, 71, 72, 73, 74, 75, 76, 77, 78, 79, 80, 81, 82] (by decide +kernel) (by decide +kernel)
set_option maxRecDepth 20000 in
theorem gX8_many_X2_hireNow : GoodIn wsX8_many (wsV RX8 220 RX2 yX2_hireNow wsX2_hireNow) := goodIn_app (goodIn_of _ (by decide +kernel)) ggX8_many_X2_hireNow
theorem dX8_many_0 : decode cX8_many 0 = .ok (.iconst 0, 1) := by decide +kernel
theorem dX8_many_1 : decode cX8_many 1 = .ok (.istore_n 1, 1) := by decide +kernel
theorem dX8_many_2 : decode cX8_many 2 = .ok (.iconst 1, 1) := by decide +kernel
theorem dX8_many_3 : decode cX8_many 3 = .ok (.istore_n 2, 1) := by decide +kernel
theorem dX8_many_4 : decode cX8_many 4 = .ok (.iload_n 2, 1) := by decide +kernel
theorem dX8_many_5 : decode cX8_many 5 = .ok (.aload_n 0, 1) := by decide +kernel
theorem dX8_many_6 : decode cX8_many 6 = .ok (.getfield 12, 3) := by decide +kernel
theorem dX8_many_9 : decode cX8_many 9 = .ok (.invokevirtual 223, 3) := by decide +kernel
theorem dX8_many_12 : decode cX8_many 12 = .ok (.if_icmp .gt 24, 3) := by decide +kernel
theorem dX8_many_15 : decode cX8_many 15 = .ok (.aload_n 0, 1) := by decide +kernel
theorem dX8_many_16 : decode cX8_many 16 = .ok (.getfield 12, 3) := by decide +kernel
theorem dX8_many_19 : decode cX8_many 19 = .ok (.iload_n 2, 1) := by decide +kernel
theorem dX8_many_20 : decode cX8_many 20 = .ok (.invokevirtual 220, 3) := by decide +kernel
theorem dX8_many_23 : decode cX8_many 23 = .ok (.iconst (-1), 1) := by decide +kernel
theorem dX8_many_24 : decode cX8_many 24 = .ok (.if_icmp .eq 6, 3) := by decide +kernel
theorem dX8_many_27 : decode cX8_many 27 = .ok (.iinc 1 1, 3) := by decide +kernel
theorem dX8_many_30 : decode cX8_many 30 = .ok (.iinc 2 1, 3) := by decide +kernel
theorem dX8_many_33 : decode cX8_many 33 = .ok (.goto (-29), 3) := by decide +kernel
theorem dX8_many_36 : decode cX8_many 36 = .ok (.iload_n 1, 1) := by decide +kernel
theorem dX8_many_37 : decode cX8_many 37 = .ok (.ireturn, 1) := by decide +kernel
set_option maxRecDepth 20000 in
theorem ggX8_stranded_X2_everybody : GoodIn wsX8_stranded wsX2_everybody := goodIn_r _ [6, 7, 75, 76, 77, 78, 79, 80, 81, 82, 83, 84, 85, 86, 87] (by decide +kernel) (by decide +kernel)
set_option maxRecDepth 20000 in
theorem gX8_stranded_X2_everybody : GoodIn wsX8_stranded (wsV RX8 223 RX2 yX2_everybody wsX2_everybody) := goodIn_app (goodIn_of _ (by decide +kernel)) ggX8_stranded_X2_everybody
set_option maxRecDepth 20000 in
theorem ggX8_stranded_X2_hireNow : GoodIn wsX8_stranded wsX2_hireNow := goodIn_r _ [11, 12, 13, 14, 15, 5, 16, 17, 18, 19, 20, 21, 7, 22, 23, 24, 25, 26, 27, 28, 29, 30, 31, 32, 33, 34, 35, 36, 37, 38, 39, 40, 41, 42, 43, 44, 45, 46, 47, 48, 49, 50, 51, 52, 53, 54, 55, 56, 57, 75, 76, 77, 78, 79, 80, 81, 82, 83, 84, 85, 86, 87] (by decide +kernel) (by decide +kernel)
set_option maxRecDepth 20000 in
theorem gX8_stranded_X2_hireNow : GoodIn wsX8_stranded (wsV RX8 220 RX2 yX2_hireNow wsX2_hireNow) := goodIn_app (goodIn_of _ (by decide +kernel)) ggX8_stranded_X2_hireNow
set_option maxRecDepth 20000 in
theorem ggX8_stranded_X2_here : GoodIn wsX8_stranded wsX2_here := goodIn_r _ [61, 12, 62, 3, 4, 5, 6, 7, 75, 76, 77, 78, 79, 80, 81, 82, 83, 84, 85, 86, 87] (by decide +kernel) (by decide +kernel)
set_option maxRecDepth 20000 in
theorem gX8_stranded_X2_here : GoodIn wsX8_stranded (wsV RX8 226 RX2 yX2_here wsX2_here) := goodIn_app (goodIn_of _ (by decide +kernel)) ggX8_stranded_X2_here
theorem dX8_stranded_0 : decode cX8_stranded 0 = .ok (.iconst 0, 1) := by decide +kernel
theorem dX8_stranded_1 : decode cX8_stranded 1 = .ok (.istore_n 1, 1) := by decide +kernel
theorem dX8_stranded_2 : decode cX8_stranded 2 = .ok (.iconst 1, 1) := by decide +kernel
theorem dX8_stranded_3 : decode cX8_stranded 3 = .ok (.istore_n 2, 1) := by decide +kernel
theorem dX8_stranded_4 : decode cX8_stranded 4 = .ok (.iload_n 2, 1) := by decide +kernel
theorem dX8_stranded_5 : decode cX8_stranded 5 = .ok (.aload_n 0, 1) := by decide +kernel
theorem dX8_stranded_6 : decode cX8_stranded 6 = .ok (.getfield 12, 3) := by decide +kernel
theorem dX8_stranded_9 : decode cX8_stranded 9 = .ok (.invokevirtual 223, 3) := by decide +kernel
theorem dX8_stranded_12 : decode cX8_stranded 12 = .ok (.if_icmp .gt 25, 3) := by decide +kernel
theorem dX8_stranded_15 : decode cX8_stranded 15 = .ok (.aload_n 0, 1) := by decide +kernel
theorem dX8_stranded_16 : decode cX8_stranded 16 = .ok (.getfield 12, 3) := by decide +kernel
theorem dX8_stranded_19 : decode cX8_stranded 19 = .ok (.iload_n 2, 1) := by decide +kernel
theorem dX8_stranded_20 : decode cX8_stranded 20 = .ok (.invokevirtual 220, 3) := by decide +kernel
theorem dX8_stranded_23 : decode cX8_stranded 23 = .ok (.iconst (-1), 1) := by decide +kernel
theorem dX8_stranded_24 : decode cX8_stranded 24 = .ok (.if_icmp .eq 7, 3) := by decide +kernel
theorem dX8_stranded_27 : decode cX8_stranded 27 = .ok (.iload_n 1, 1) := by decide +kernel
theorem dX8_stranded_28 : decode cX8_stranded 28 = .ok (.iload_n 2, 1) := by decide +kernel
theorem dX8_stranded_29 : decode cX8_stranded 29 = .ok (.ior, 1) := by decide +kernel
theorem dX8_stranded_30 : decode cX8_stranded 30 = .ok (.istore_n 1, 1) := by decide +kernel
theorem dX8_stranded_31 : decode cX8_stranded 31 = .ok (.iinc 2 1, 3) := by decide +kernel
theorem dX8_stranded_34 : decode cX8_stranded 34 = .ok (.goto (-30), 3) := by decide +kernel
theorem dX8_stranded_37 : decode cX8_stranded 37 = .ok (.aload_n 0, 1) := by decide +kernel
theorem dX8_stranded_38 : decode cX8_stranded 38 = .ok (.getfield 12, 3) := by decide +kernel
theorem dX8_stranded_41 : decode cX8_stranded 41 = .ok (.invokevirtual 226, 3) := by decide +kernel
theorem dX8_stranded_44 : decode cX8_stranded 44 = .ok (.iload_n 1, 1) := by decide +kernel
theorem dX8_stranded_45 : decode cX8_stranded 45 = .ok (.iconst (-1), 1) := by decide +kernel
theorem dX8_stranded_46 : decode cX8_stranded 46 = .ok (.ixor, 1) := by decide +kernel
theorem dX8_stranded_47 : decode cX8_stranded 47 = .ok (.iand, 1) := by decide +kernel
theorem dX8_stranded_48 : decode cX8_stranded 48 = .ok (.ireturn, 1) := by decide +kernel
set_option maxRecDepth 20000 in
theorem ggX8_along_X8_waiterTrouble : GoodIn wsX8_along wsX8_waiterTrouble := goodIn_r _ [7, 1, 8, 9, 10, 11, 12, 13, 14, 6, 15, 16, 17, 18, 19, 20, 21, 22, 73, 74, 75, 76, 77, 78, 79, 80, 81, 82, 83, 84, 85, 86, 87, 88, 89, 90, 91, 92, 93, 94, 95, 96, 97] (by decide +kernel) (by decide +kernel)
set_option maxRecDepth 20000 in
theorem gX8_along_X8_waiterTrouble : GoodIn wsX8_along (wsV RX8 229 RX8 yX8_waiterTrouble wsX8_waiterTrouble) := goodIn_app (goodIn_of _ (by decide +kernel)) ggX8_along_X8_waiterTrouble
set_option maxRecDepth 20000 in
theorem ggX8_along_X8_refuse : GoodIn wsX8_along wsX8_refuse := goodIn_r _ [26, 27, 28, 14, 6, 15, 73, 74, 75, 76, 77, 78, 79, 80, 81, 82, 83, 84] (by decide +kernel) (by decide +kernel)
set_option maxRecDepth 20000 in
theorem gX8_along_X8_refuse : GoodIn wsX8_along (wsV RX8 83 RX8 yX8_refuse wsX8_refuse) := goodIn_app (goodIn_of _ (by decide +kernel)) ggX8_along_X8_refuse
set_option maxRecDepth 20000 in
theorem ggX8_along_X2_hireNow : GoodIn wsX8_along wsX2_hireNow := goodIn_r _ [32, 20, 33, 34, 35, 11, 36, 37, 38, 39, 40, 41, 13, 42, 43, 21, 6, 22, 44, 45, 46, 47, 48, 49, 50, 51, 52, 53, 54, 55, 56, 57, 58, 59, 60, 61, 62, 63, 64, 65, 66, 14, 15, 67, 68, 69, 70, 71, 72, 85, 86, 87, 88, 89, 90, 91, 92, 93, 94, 95, 96, 97] (by decide +kernel) (by decide +kernel)
set_option maxRecDepth 20000 in
theorem gX8_along_X2_hireNow : GoodIn wsX8_along (wsV RX8 220 RX2 yX2_hireNow wsX2_hireNow) := goodIn_app (goodIn_of _ (by decide +kernel)) ggX8_along_X2_hireNow
theorem dX8_along_0 : decode cX8_along 0 = .ok (.aload_n 0, 1) := by decide +kernel
theorem dX8_along_1 : decode cX8_along 1 = .ok (.iload_n 1, 1) := by decide +kernel
theorem dX8_along_2 : decode cX8_along 2 = .ok (.invokevirtual 229, 3) := by decide +kernel
theorem dX8_along_5 : decode cX8_along 5 = .ok (.istore_n 2, 1) := by decide +kernel
theorem dX8_along_6 : decode cX8_along 6 = .ok (.iload_n 2, 1) := by decide +kernel
theorem dX8_along_7 : decode cX8_along 7 = .ok (.ifCond .eq 9, 3) := by decide +kernel
theorem dX8_along_10 : decode cX8_along 10 = .ok (.aload_n 0, 1) := by decide +kernel
theorem dX8_along_11 : decode cX8_along 11 = .ok (.iload_n 2, 1) := by decide +kernel
theorem dX8_along_12 : decode cX8_along 12 = .ok (.invokevirtual 83, 3) := by decide +kernel
theorem dX8_along_15 : decode cX8_along 15 = .ok (.ireturn, 1) := by decide +kernel
theorem dX8_along_16 : decode cX8_along 16 = .ok (.iconst (-1), 1) := by decide +kernel
theorem dX8_along_17 : decode cX8_along 17 = .ok (.istore_n 3, 1) := by decide +kernel
theorem dX8_along_18 : decode cX8_along 18 = .ok (.iconst (-1), 1) := by decide +kernel
theorem dX8_along_19 : decode cX8_along 19 = .ok (.istore 4, 2) := by decide +kernel
theorem dX8_along_21 : decode cX8_along 21 = .ok (.iconst 0, 1) := by decide +kernel
theorem dX8_along_22 : decode cX8_along 22 = .ok (.istore 5, 2) := by decide +kernel
theorem dX8_along_24 : decode cX8_along 24 = .ok (.iload 5, 2) := by decide +kernel
theorem dX8_along_26 : decode cX8_along 26 = .ok (.aload_n 0, 1) := by decide +kernel
theorem dX8_along_27 : decode cX8_along 27 = .ok (.getfield 12, 3) := by decide +kernel
theorem dX8_along_30 : decode cX8_along 30 = .ok (.getfield 232, 3) := by decide +kernel
theorem dX8_along_33 : decode cX8_along 33 = .ok (.if_icmp .ge 61, 3) := by decide +kernel
theorem dX8_along_36 : decode cX8_along 36 = .ok (.iload 5, 2) := by decide +kernel
theorem dX8_along_38 : decode cX8_along 38 = .ok (.iload_n 1, 1) := by decide +kernel
theorem dX8_along_39 : decode cX8_along 39 = .ok (.if_icmp .ne 7, 3) := by decide +kernel
theorem dX8_along_42 : decode cX8_along 42 = .ok (.iconst (-1), 1) := by decide +kernel
theorem dX8_along_43 : decode cX8_along 43 = .ok (.goto 18, 3) := by decide +kernel
theorem dX8_along_46 : decode cX8_along 46 = .ok (.aload_n 0, 1) := by decide +kernel
theorem dX8_along_47 : decode cX8_along 47 = .ok (.getfield 12, 3) := by decide +kernel
theorem dX8_along_50 : decode cX8_along 50 = .ok (.iconst 1, 1) := by decide +kernel
theorem dX8_along_51 : decode cX8_along 51 = .ok (.iload_n 1, 1) := by decide +kernel
theorem dX8_along_52 : decode cX8_along 52 = .ok (.ishl, 1) := by decide +kernel
theorem dX8_along_53 : decode cX8_along 53 = .ok (.iconst 1, 1) := by decide +kernel
theorem dX8_along_54 : decode cX8_along 54 = .ok (.iload 5, 2) := by decide +kernel
theorem dX8_along_56 : decode cX8_along 56 = .ok (.ishl, 1) := by decide +kernel
theorem dX8_along_57 : decode cX8_along 57 = .ok (.ior, 1) := by decide +kernel
theorem dX8_along_58 : decode cX8_along 58 = .ok (.invokevirtual 220, 3) := by decide +kernel
theorem dX8_along_61 : decode cX8_along 61 = .ok (.istore 6, 2) := by decide +kernel
theorem dX8_along_63 : decode cX8_along 63 = .ok (.iload 6, 2) := by decide +kernel
theorem dX8_along_65 : decode cX8_along 65 = .ok (.iconst (-1), 1) := by decide +kernel
theorem dX8_along_66 : decode cX8_along 66 = .ok (.if_icmp .eq 22, 3) := by decide +kernel
theorem dX8_along_69 : decode cX8_along 69 = .ok (.iload_n 3, 1) := by decide +kernel
theorem dX8_along_70 : decode cX8_along 70 = .ok (.iconst (-1), 1) := by decide +kernel
theorem dX8_along_71 : decode cX8_along 71 = .ok (.if_icmp .eq 10, 3) := by decide +kernel
theorem dX8_along_74 : decode cX8_along 74 = .ok (.iload 6, 2) := by decide +kernel
theorem dX8_along_76 : decode cX8_along 76 = .ok (.iload 4, 2) := by decide +kernel
theorem dX8_along_78 : decode cX8_along 78 = .ok (.if_icmp .ge 10, 3) := by decide +kernel
theorem dX8_along_81 : decode cX8_along 81 = .ok (.iload 5, 2) := by decide +kernel
theorem dX8_along_83 : decode cX8_along 83 = .ok (.istore_n 3, 1) := by decide +kernel
theorem dX8_along_84 : decode cX8_along 84 = .ok (.iload 6, 2) := by decide +kernel
theorem dX8_along_86 : decode cX8_along 86 = .ok (.istore 4, 2) := by decide +kernel
theorem dX8_along_88 : decode cX8_along 88 = .ok (.iinc 5 1, 3) := by decide +kernel
theorem dX8_along_91 : decode cX8_along 91 = .ok (.goto (-67), 3) := by decide +kernel
theorem dX8_along_94 : decode cX8_along 94 = .ok (.iload_n 3, 1) := by decide +kernel
theorem dX8_along_95 : decode cX8_along 95 = .ok (.ireturn, 1) := by decide +kernel
set_option maxRecDepth 20000 in
theorem ggX8_plan_X8_refuse : GoodIn wsX8_plan wsX8_refuse := goodIn_r _ [7, 8, 9, 10, 6, 11, 111, 112, 113, 114, 115, 116, 117, 118, 119, 120, 121, 122] (by decide +kernel) (by decide +kernel)
set_option maxRecDepth 20000 in
theorem gX8_plan_X8_refuse : GoodIn wsX8_plan (wsV RX8 83 RX8 yX8_refuse wsX8_refuse) := goodIn_app (goodIn_of _ (by decide +kernel)) ggX8_plan_X8_refuse
set_option maxRecDepth 20000 in
theorem ggX8_plan_X5_reckon : GoodIn wsX8_plan wsX5_reckon := goodIn_r _ [16, 17, 18, 19, 20, 21, 22, 23, 24, 25, 26, 27, 28, 29, 30, 31, 32, 33, 34, 35, 36, 37, 38, 39, 40, 41, 42, 43, 44, 6, 45, 46, 47, 48, 49, 50, 51, 52, 53, 54, 55, 56, 57, 58, 59, 60, 61, 62, 63, 64, 65, 66, 67, 68, 10, 11, 69, 70, 71, 72, 73, 74, 75, 76, 77, 15, 78, 79, 80, 81, 82, 83, 84, 85, 86, 87, 88, 89, 123, 124, 125, 126, 127, 128, 129, 130, 131, 132, 133, 134, 135, 136, 137, 138] (by decide +kernel) (by decide +kernel)
set_option maxRecDepth 20000 in
theorem gX8_plan_X5_reckon : GoodIn wsX8_plan (wsV RX8 235 RX5 yX5_reckon wsX5_reckon) := goodIn_app (goodIn_of _ (by decide +kernel)) ggX8_plan_X5_reckon
set_option maxRecDepth 20000 in
theorem ggX8_plan_X5_found : GoodIn wsX8_plan wsX5_found := goodIn_r _ [93, 18, 17, 21, 123, 124, 125] (by decide +kernel) (by decide +kernel)
set_option maxRecDepth 20000 in
theorem gX8_plan_X5_found : GoodIn wsX8_plan (wsV RX8 238 RX5 yX5_found wsX5_found) := goodIn_app (goodIn_of _ (by decide +kernel)) ggX8_plan_X5_found
set_option maxRecDepth 20000 in
theorem ggX8_plan_X5_crossings : GoodIn wsX8_plan wsX5_crossings := goodIn_r _ [97, 18, 17, 98, 91, 92, 15, 93, 21, 123, 124, 125] (by decide +kernel) (by decide +kernel)
set_option maxRecDepth 20000 in
theorem gX8_plan_X5_crossings : GoodIn wsX8_plan (wsV RX8 241 RX5 yX5_crossings wsX5_crossings) := goodIn_app (goodIn_of _ (by decide +kernel)) ggX8_plan_X5_crossings
set_option maxRecDepth 20000 in
theorem ggX8_plan_X5_hermits : GoodIn wsX8_plan wsX5_hermits := goodIn_r _ [102, 18, 17, 98, 91, 92, 15, 93, 21, 123, 124, 125] (by decide +kernel) (by decide +kernel)
set_option maxRecDepth 20000 in
theorem gX8_plan_X5_hermits : GoodIn wsX8_plan (wsV RX8 244 RX5 yX5_hermits wsX5_hermits) := goodIn_app (goodIn_of _ (by decide +kernel)) ggX8_plan_X5_hermits
set_option maxRecDepth 20000 in
theorem ggX8_plan_X5_groupAt : GoodIn wsX8_plan wsX5_groupAt := goodIn_r _ [106, 17, 107, 108, 109, 15, 110, 20, 18, 123, 124, 125] (by decide +kernel) (by decide +kernel)
set_option maxRecDepth 20000 in
theorem gX8_plan_X5_groupAt : GoodIn wsX8_plan (wsV RX8 247 RX5 yX5_groupAt wsX5_groupAt) := goodIn_app (goodIn_of _ (by decide +kernel)) ggX8_plan_X5_groupAt
theorem dX8_plan_0 : decode cX8_plan 0 = .ok (.iload_n 1, 1) := by decide +kernel
theorem dX8_plan_1 : decode cX8_plan 1 = .ok (.bipush (-2), 2) := by decide +kernel
theorem dX8_plan_3 : decode cX8_plan 3 = .ok (.if_icmp .ge 11, 3) := by decide +kernel
theorem dX8_plan_6 : decode cX8_plan 6 = .ok (.aload_n 0, 1) := by decide +kernel
theorem dX8_plan_7 : decode cX8_plan 7 = .ok (.sipush (-1002), 3) := by decide +kernel
theorem dX8_plan_10 : decode cX8_plan 10 = .ok (.invokevirtual 83, 3) := by decide +kernel
theorem dX8_plan_13 : decode cX8_plan 13 = .ok (.ireturn, 1) := by decide +kernel
theorem dX8_plan_14 : decode cX8_plan 14 = .ok (.aload_n 0, 1) := by decide +kernel
theorem dX8_plan_15 : decode cX8_plan 15 = .ok (.getfield 42, 3) := by decide +kernel
theorem dX8_plan_18 : decode cX8_plan 18 = .ok (.aload_n 0, 1) := by decide +kernel
theorem dX8_plan_19 : decode cX8_plan 19 = .ok (.getfield 12, 3) := by decide +kernel
theorem dX8_plan_22 : decode cX8_plan 22 = .ok (.invokevirtual 235, 3) := by decide +kernel
theorem dX8_plan_25 : decode cX8_plan 25 = .ok (.aload_n 0, 1) := by decide +kernel
theorem dX8_plan_26 : decode cX8_plan 26 = .ok (.getfield 42, 3) := by decide +kernel
theorem dX8_plan_29 : decode cX8_plan 29 = .ok (.invokevirtual 238, 3) := by decide +kernel
theorem dX8_plan_32 : decode cX8_plan 32 = .ok (.ifCond .ne 5, 3) := by decide +kernel
theorem dX8_plan_35 : decode cX8_plan 35 = .ok (.iconst (-1), 1) := by decide +kernel
theorem dX8_plan_36 : decode cX8_plan 36 = .ok (.ireturn, 1) := by decide +kernel
theorem dX8_plan_37 : decode cX8_plan 37 = .ok (.iload_n 1, 1) := by decide +kernel
theorem dX8_plan_38 : decode cX8_plan 38 = .ok (.bipush (-2), 2) := by decide +kernel
theorem dX8_plan_40 : decode cX8_plan 40 = .ok (.if_icmp .ne 11, 3) := by decide +kernel
theorem dX8_plan_43 : decode cX8_plan 43 = .ok (.aload_n 0, 1) := by decide +kernel
theorem dX8_plan_44 : decode cX8_plan 44 = .ok (.getfield 42, 3) := by decide +kernel
theorem dX8_plan_47 : decode cX8_plan 47 = .ok (.invokevirtual 241, 3) := by decide +kernel
theorem dX8_plan_50 : decode cX8_plan 50 = .ok (.ireturn, 1) := by decide +kernel
theorem dX8_plan_51 : decode cX8_plan 51 = .ok (.iload_n 1, 1) := by decide +kernel
theorem dX8_plan_52 : decode cX8_plan 52 = .ok (.iconst (-1), 1) := by decide +kernel
theorem dX8_plan_53 : decode cX8_plan 53 = .ok (.if_icmp .ne 11, 3) := by decide +kernel
theorem dX8_plan_56 : decode cX8_plan 56 = .ok (.aload_n 0, 1) := by decide +kernel
theorem dX8_plan_57 : decode cX8_plan 57 = .ok (.getfield 42, 3) := by decide +kernel
theorem dX8_plan_60 : decode cX8_plan 60 = .ok (.invokevirtual 244, 3) := by decide +kernel
theorem dX8_plan_63 : decode cX8_plan 63 = .ok (.ireturn, 1) := by decide +kernel
theorem dX8_plan_64 : decode cX8_plan 64 = .ok (.iload_n 1, 1) := by decide +kernel
theorem dX8_plan_65 : decode cX8_plan 65 = .ok (.aload_n 0, 1) := by decide +kernel
theorem dX8_plan_66 : decode cX8_plan 66 = .ok (.getfield 42, 3) := by decide +kernel
theorem dX8_plan_69 : decode cX8_plan 69 = .ok (.invokevirtual 241, 3) := by decide +kernel
theorem dX8_plan_72 : decode cX8_plan 72 = .ok (.if_icmp .ge 14, 3) := by decide +kernel
theorem dX8_plan_75 : decode cX8_plan 75 = .ok (.aload_n 0, 1) := by decide +kernel
theorem dX8_plan_76 : decode cX8_plan 76 = .ok (.getfield 42, 3) := by decide +kernel
theorem dX8_plan_79 : decode cX8_plan 79 = .ok (.iload_n 1, 1) := by decide +kernel
theorem dX8_plan_80 : decode cX8_plan 80 = .ok (.invokevirtual 247, 3) := by decide +kernel
theorem dX8_plan_83 : decode cX8_plan 83 = .ok (.goto 10, 3) := by decide +kernel
theorem dX8_plan_86 : decode cX8_plan 86 = .ok (.aload_n 0, 1) := by decide +kernel
theorem dX8_plan_87 : decode cX8_plan 87 = .ok (.sipush (-1005), 3) := by decide +kernel
theorem dX8_plan_90 : decode cX8_plan 90 = .ok (.invokevirtual 83, 3) := by decide +kernel
theorem dX8_plan_93 : decode cX8_plan 93 = .ok (.ireturn, 1) := by decide +kernel
set_option maxRecDepth 20000 in
theorem ggX8_worth_X8_waiterTrouble : GoodIn wsX8_worth wsX8_waiterTrouble := goodIn_r _ [9, 2, 10, 11, 12, 13, 14, 15, 16, 8, 17, 18, 19, 20, 21, 22, 23, 24, 125, 126, 127, 128, 129, 130, 131, 132, 133, 134, 135, 136, 137, 138, 139, 140, 141, 142, 143, 144, 145, 146, 147, 148, 149] (by decide +kernel) (by decide +kernel)
set_option maxRecDepth 20000 in
theorem gX8_worth_X8_waiterTrouble : GoodIn wsX8_worth (wsV RX8 229 RX8 yX8_waiterTrouble wsX8_waiterTrouble) := goodIn_app (goodIn_of _ (by decide +kernel)) ggX8_worth_X8_waiterTrouble
set_option maxRecDepth 20000 in
theorem ggX8_worth_X8_refuse : GoodIn wsX8_worth wsX8_refuse := goodIn_r _ [28, 29, 30, 16, 8, 17, 125, 126, 127, 128, 129, 130, 131, 132, 133, 134, 135, 136] (by decide +kernel) (by decide +kernel)
set_option maxRecDepth 20000 in
theorem gX8_worth_X8_refuse : GoodIn wsX8_worth (wsV RX8 83 RX8 yX8_refuse wsX8_refuse) := goodIn_app (goodIn_of _ (by decide +kernel)) ggX8_worth_X8_refuse
set_option maxRecDepth 20000 in
theorem ggX8_worth_X5_reckon : GoodIn wsX8_worth wsX5_reckon := goodIn_r _ [35, 36, 37, 38, 39, 40, 41, 42, 43, 13, 44, 22, 45, 46, 47, 48, 15, 49, 50, 51, 52, 53, 54, 55, 56, 57, 58, 59, 23, 8, 24, 60, 61, 62, 63, 64, 65, 66, 67, 68, 69, 70, 71, 72, 73, 74, 75, 76, 77, 78, 79, 80, 81, 82, 16, 17, 83, 84, 85, 86, 87, 88, 89, 90, 91, 34, 92, 93, 94, 95, 96, 97, 98, 99, 100, 101, 102, 103, 150, 151, 152, 137, 138, 139, 140, 141, 142, 143, 144, 145, 146, 147, 148, 149] (by decide +kernel) (by decide +kernel)
set_option maxRecDepth 20000 in
theorem gX8_worth_X5_reckon : GoodIn wsX8_worth (wsV RX8 235 RX5 yX5_reckon wsX5_reckon) := goodIn_app (goodIn_of _ (by decide +kernel)) ggX8_worth_X5_reckon
set_option maxRecDepth 20000 in
theorem ggX8_worth_X5_hermits : GoodIn wsX8_worth wsX5_hermits := goodIn_r _ [107, 37, 36, 108, 109, 110, 34, 111, 40, 150, 151, 152] (by decide +kernel) (by decide +kernel)
set_option maxRecDepth 20000 in
theorem gX8_worth_X5_hermits : GoodIn wsX8_worth (wsV RX8 244 RX5 yX5_hermits wsX5_hermits) := goodIn_app (goodIn_of _ (by decide +kernel)) ggX8_worth_X5_hermits
set_option maxRecDepth 20000 in
theorem ggX8_worth_X2_become : GoodIn wsX8_worth wsX2_become := goodIn_r _ [115, 74, 116, 117, 118, 119, 73, 68, 120, 59, 58, 53, 15, 22, 121, 122, 123, 124, 137, 138, 139, 140, 141, 142, 143, 144, 145, 146, 147, 148, 149] (by decide +kernel) (by decide +kernel)
set_option maxRecDepth 20000 in
theorem gX8_worth_X2_become : GoodIn wsX8_worth (wsV RX8 188 RX2 yX2_become wsX2_become) := goodIn_app (goodIn_of _ (by decide +kernel)) ggX8_worth_X2_become
theorem dX8_worth_0 : decode cX8_worth 0 = .ok (.aload_n 0, 1) := by decide +kernel
theorem dX8_worth_1 : decode cX8_worth 1 = .ok (.iload_n 1, 1) := by decide +kernel
theorem dX8_worth_2 : decode cX8_worth 2 = .ok (.invokevirtual 229, 3) := by decide +kernel
theorem dX8_worth_5 : decode cX8_worth 5 = .ok (.istore_n 2, 1) := by decide +kernel
theorem dX8_worth_6 : decode cX8_worth 6 = .ok (.iload_n 2, 1) := by decide +kernel
theorem dX8_worth_7 : decode cX8_worth 7 = .ok (.ifCond .eq 9, 3) := by decide +kernel
theorem dX8_worth_10 : decode cX8_worth 10 = .ok (.aload_n 0, 1) := by decide +kernel
theorem dX8_worth_11 : decode cX8_worth 11 = .ok (.iload_n 2, 1) := by decide +kernel
theorem dX8_worth_12 : decode cX8_worth 12 = .ok (.invokevirtual 83, 3) := by decide +kernel
theorem dX8_worth_15 : decode cX8_worth 15 = .ok (.ireturn, 1) := by decide +kernel
theorem dX8_worth_16 : decode cX8_worth 16 = .ok (.aload_n 0, 1) := by decide +kernel
theorem dX8_worth_17 : decode cX8_worth 17 = .ok (.getfield 42, 3) := by decide +kernel
theorem dX8_worth_20 : decode cX8_worth 20 = .ok (.aload_n 0, 1) := by decide +kernel
theorem dX8_worth_21 : decode cX8_worth 21 = .ok (.getfield 12, 3) := by decide +kernel
theorem dX8_worth_24 : decode cX8_worth 24 = .ok (.invokevirtual 235, 3) := by decide +kernel
theorem dX8_worth_27 : decode cX8_worth 27 = .ok (.aload_n 0, 1) := by decide +kernel
theorem dX8_worth_28 : decode cX8_worth 28 = .ok (.getfield 42, 3) := by decide +kernel
theorem dX8_worth_31 : decode cX8_worth 31 = .ok (.invokevirtual 244, 3) := by decide +kernel
theorem dX8_worth_34 : decode cX8_worth 34 = .ok (.istore_n 3, 1) := by decide +kernel
theorem dX8_worth_35 : decode cX8_worth 35 = .ok (.aload_n 0, 1) := by decide +kernel
theorem dX8_worth_36 : decode cX8_worth 36 = .ok (.getfield 19, 3) := by decide +kernel
theorem dX8_worth_39 : decode cX8_worth 39 = .ok (.aload_n 0, 1) := by decide +kernel
theorem dX8_worth_40 : decode cX8_worth 40 = .ok (.getfield 12, 3) := by decide +kernel
theorem dX8_worth_43 : decode cX8_worth 43 = .ok (.invokevirtual 188, 3) := by decide +kernel
theorem dX8_worth_46 : decode cX8_worth 46 = .ok (.aload_n 0, 1) := by decide +kernel
theorem dX8_worth_47 : decode cX8_worth 47 = .ok (.getfield 19, 3) := by decide +kernel
theorem dX8_worth_50 : decode cX8_worth 50 = .ok (.dup, 1) := by decide +kernel
theorem dX8_worth_51 : decode cX8_worth 51 = .ok (.getfield 250, 3) := by decide +kernel
theorem dX8_worth_54 : decode cX8_worth 54 = .ok (.iconst 1, 1) := by decide +kernel
theorem dX8_worth_55 : decode cX8_worth 55 = .ok (.iload_n 1, 1) := by decide +kernel
theorem dX8_worth_56 : decode cX8_worth 56 = .ok (.ishl, 1) := by decide +kernel
theorem dX8_worth_57 : decode cX8_worth 57 = .ok (.ior, 1) := by decide +kernel
theorem dX8_worth_58 : decode cX8_worth 58 = .ok (.putfield 250, 3) := by decide +kernel
theorem dX8_worth_61 : decode cX8_worth 61 = .ok (.aload_n 0, 1) := by decide +kernel
theorem dX8_worth_62 : decode cX8_worth 62 = .ok (.getfield 42, 3) := by decide +kernel
theorem dX8_worth_65 : decode cX8_worth 65 = .ok (.aload_n 0, 1) := by decide +kernel
theorem dX8_worth_66 : decode cX8_worth 66 = .ok (.getfield 19, 3) := by decide +kernel
theorem dX8_worth_69 : decode cX8_worth 69 = .ok (.invokevirtual 235, 3) := by decide +kernel
theorem dX8_worth_72 : decode cX8_worth 72 = .ok (.aload_n 0, 1) := by decide +kernel
theorem dX8_worth_73 : decode cX8_worth 73 = .ok (.getfield 42, 3) := by decide +kernel
theorem dX8_worth_76 : decode cX8_worth 76 = .ok (.invokevirtual 244, 3) := by decide +kernel
theorem dX8_worth_79 : decode cX8_worth 79 = .ok (.istore 4, 2) := by decide +kernel
theorem dX8_worth_81 : decode cX8_worth 81 = .ok (.iload_n 3, 1) := by decide +kernel
theorem dX8_worth_82 : decode cX8_worth 82 = .ok (.iconst (-1), 1) := by decide +kernel
theorem dX8_worth_83 : decode cX8_worth 83 = .ok (.if_icmp .eq 9, 3) := by decide +kernel
theorem dX8_worth_86 : decode cX8_worth 86 = .ok (.iload 4, 2) := by decide +kernel
theorem dX8_worth_88 : decode cX8_worth 88 = .ok (.iconst (-1), 1) := by decide +kernel
theorem dX8_worth_89 : decode cX8_worth 89 = .ok (.if_icmp .ne 9, 3) := by decide +kernel
theorem dX8_worth_92 : decode cX8_worth 92 = .ok (.sipush (-1000), 3) := by decide +kernel
theorem dX8_worth_95 : decode cX8_worth 95 = .ok (.goto 7, 3) := by decide +kernel
theorem dX8_worth_98 : decode cX8_worth 98 = .ok (.iload 4, 2) := by decide +kernel
theorem dX8_worth_100 : decode cX8_worth 100 = .ok (.iload_n 3, 1) := by decide +kernel
theorem dX8_worth_101 : decode cX8_worth 101 = .ok (.isub, 1) := by decide +kernel
theorem dX8_worth_102 : decode cX8_worth 102 = .ok (.ireturn, 1) := by decide +kernel
set_option maxRecDepth 20000 in
theorem ggX8_laws_X8_within : GoodIn wsX8_laws wsX8_within := goodIn_r _ [6] (by decide +kernel) (by decide +kernel)
set_option maxRecDepth 20000 in
theorem gX8_laws_X8_within : GoodIn wsX8_laws (va_wsS RX8 79 yX8_within wsX8_within) := goodIn_app (goodIn_of _ (by decide +kernel)) ggX8_laws_X8_within
set_option maxRecDepth 20000 in
theorem ggX8_laws_X8_refuse : GoodIn wsX8_laws wsX8_refuse := goodIn_r _ [10, 11, 3, 4, 5, 6, 119, 120, 121, 122, 123, 124, 125, 126, 127, 128, 129, 130] (by decide +kernel) (by decide +kernel)
set_option maxRecDepth 20000 in
theorem gX8_laws_X8_refuse : GoodIn wsX8_laws (wsV RX8 83 RX8 yX8_refuse wsX8_refuse) := goodIn_app (goodIn_of _ (by decide +kernel)) ggX8_laws_X8_refuse
set_option maxRecDepth 20000 in
theorem ggX8_laws_X8_planIf : GoodIn wsX8_laws wsX8_planIf := goodIn_r _ [15, 16, 17, 18, 1, 19, 20, 21, 22, 23, 24, 25, 26, 27, 28, 29, 30, 31, 32, 33, 34, 35, 36, 37, 38, 39, 40, 3, 4, 5, 6, 41, 42, 43, 44, 45, 46, 47, 48, 49, 50, 51, 52, 53, 54, 55, 56, 57, 58, 59, 60, 61, 62, 63, 64, 65, 66, 67, 68, 69, 70, 71, 72, 73, 74, 75, 76, 77, 78, 79, 80, 81, 82, 83, 84, 85, 86, 87, 88, 89, 90, 91, 92, 93, 94, 95, 96, 97, 98, 99, 100, 101, 102, 103, 104, 105, 106, 107, 108, 109, 119, 120, 121, 122, 123, 124, 125, 126, 127, 128, 129, 130, 131, 132, 133, 134, 135, 136, 137, 138, 139, 140, 141, 142, 143, 144, 145, 146] (by decide +kernel) (by decide +kernel)
set_option maxRecDepth 20000 in
theorem gX8_laws_X8_planIf : GoodIn wsX8_laws (wsV RX8 253 RX8 yX8_planIf wsX8_planIf) := goodIn_app (goodIn_of _ (by decide +kernel)) ggX8_laws_X8_planIf
set_option maxRecDepth 20000 in
theorem ggX8_laws_X5_crossings : GoodIn wsX8_laws wsX5_crossings := goodIn_r _ [113, 47, 46, 114, 115, 116, 44, 117, 50, 144, 145, 146] (by decide +kernel) (by decide +kernel)
set_option maxRecDepth 20000 in
theorem gX8_laws_X5_crossings : GoodIn wsX8_laws (wsV RX8 241 RX5 yX5_crossings wsX5_crossings) := goodIn_app (goodIn_of _ (by decide +kernel)) ggX8_laws_X5_crossings
set_option maxRecDepth 20000 in
theorem ggX8_laws_X5_found : GoodIn wsX8_laws wsX5_found := goodIn_r _ [117, 47, 46, 50, 144, 145, 146] (by decide +kernel) (by decide +kernel)
set_option maxRecDepth 20000 in
theorem gX8_laws_X5_found : GoodIn wsX8_laws (wsV RX8 238 RX5 yX5_found wsX5_found) := goodIn_app (goodIn_of _ (by decide +kernel)) ggX8_laws_X5_found
theorem dX8_laws_0 : decode cX8_laws 0 = .ok (.iload_n 1, 1) := by decide +kernel
theorem dX8_laws_1 : decode cX8_laws 1 = .ok (.iconst (-1), 1) := by decide +kernel
theorem dX8_laws_2 : decode cX8_laws 2 = .ok (.iconst 3, 1) := by decide +kernel
theorem dX8_laws_3 : decode cX8_laws 3 = .ok (.invokestatic 79, 3) := by decide +kernel
theorem dX8_laws_6 : decode cX8_laws 6 = .ok (.ifCond .ne 11, 3) := by decide +kernel
theorem dX8_laws_9 : decode cX8_laws 9 = .ok (.aload_n 0, 1) := by decide +kernel
theorem dX8_laws_10 : decode cX8_laws 10 = .ok (.sipush (-1002), 3) := by decide +kernel
theorem dX8_laws_13 : decode cX8_laws 13 = .ok (.invokevirtual 83, 3) := by decide +kernel
theorem dX8_laws_16 : decode cX8_laws 16 = .ok (.ireturn, 1) := by decide +kernel
theorem dX8_laws_17 : decode cX8_laws 17 = .ok (.iload_n 1, 1) := by decide +kernel
theorem dX8_laws_18 : decode cX8_laws 18 = .ok (.iconst (-1), 1) := by decide +kernel
theorem dX8_laws_19 : decode cX8_laws 19 = .ok (.if_icmp .eq 17, 3) := by decide +kernel
theorem dX8_laws_22 : decode cX8_laws 22 = .ok (.aload_n 0, 1) := by decide +kernel
theorem dX8_laws_23 : decode cX8_laws 23 = .ok (.iconst 1, 1) := by decide +kernel
theorem dX8_laws_24 : decode cX8_laws 24 = .ok (.iload_n 1, 1) := by decide +kernel
theorem dX8_laws_25 : decode cX8_laws 25 = .ok (.invokevirtual 253, 3) := by decide +kernel
theorem dX8_laws_28 : decode cX8_laws 28 = .ok (.aload_n 0, 1) := by decide +kernel
theorem dX8_laws_29 : decode cX8_laws 29 = .ok (.getfield 42, 3) := by decide +kernel
theorem dX8_laws_32 : decode cX8_laws 32 = .ok (.invokevirtual 241, 3) := by decide +kernel
theorem dX8_laws_35 : decode cX8_laws 35 = .ok (.ireturn, 1) := by decide +kernel
theorem dX8_laws_36 : decode cX8_laws 36 = .ok (.iconst 0, 1) := by decide +kernel
theorem dX8_laws_37 : decode cX8_laws 37 = .ok (.istore_n 2, 1) := by decide +kernel
theorem dX8_laws_38 : decode cX8_laws 38 = .ok (.ldc_w 256, 3) := by decide +kernel
theorem dX8_laws_41 : decode cX8_laws 41 = .ok (.istore_n 3, 1) := by decide +kernel
theorem dX8_laws_42 : decode cX8_laws 42 = .ok (.iconst 0, 1) := by decide +kernel
theorem dX8_laws_43 : decode cX8_laws 43 = .ok (.istore 4, 2) := by decide +kernel
theorem dX8_laws_45 : decode cX8_laws 45 = .ok (.iload 4, 2) := by decide +kernel
theorem dX8_laws_47 : decode cX8_laws 47 = .ok (.iconst 4, 1) := by decide +kernel
theorem dX8_laws_48 : decode cX8_laws 48 = .ok (.if_icmp .ge 48, 3) := by decide +kernel
theorem dX8_laws_51 : decode cX8_laws 51 = .ok (.aload_n 0, 1) := by decide +kernel
theorem dX8_laws_52 : decode cX8_laws 52 = .ok (.iconst 1, 1) := by decide +kernel
theorem dX8_laws_53 : decode cX8_laws 53 = .ok (.iload 4, 2) := by decide +kernel
theorem dX8_laws_55 : decode cX8_laws 55 = .ok (.invokevirtual 253, 3) := by decide +kernel
theorem dX8_laws_58 : decode cX8_laws 58 = .ok (.aload_n 0, 1) := by decide +kernel
theorem dX8_laws_59 : decode cX8_laws 59 = .ok (.getfield 42, 3) := by decide +kernel
theorem dX8_laws_62 : decode cX8_laws 62 = .ok (.invokevirtual 238, 3) := by decide +kernel
theorem dX8_laws_65 : decode cX8_laws 65 = .ok (.ifCond .eq 25, 3) := by decide +kernel
theorem dX8_laws_68 : decode cX8_laws 68 = .ok (.aload_n 0, 1) := by decide +kernel
theorem dX8_laws_69 : decode cX8_laws 69 = .ok (.getfield 42, 3) := by decide +kernel
theorem dX8_laws_72 : decode cX8_laws 72 = .ok (.invokevirtual 241, 3) := by decide +kernel
theorem dX8_laws_75 : decode cX8_laws 75 = .ok (.iload_n 3, 1) := by decide +kernel
theorem dX8_laws_76 : decode cX8_laws 76 = .ok (.if_icmp .ge 14, 3) := by decide +kernel
theorem dX8_laws_79 : decode cX8_laws 79 = .ok (.iload 4, 2) := by decide +kernel
theorem dX8_laws_81 : decode cX8_laws 81 = .ok (.istore_n 2, 1) := by decide +kernel
theorem dX8_laws_82 : decode cX8_laws 82 = .ok (.aload_n 0, 1) := by decide +kernel
theorem dX8_laws_83 : decode cX8_laws 83 = .ok (.getfield 42, 3) := by decide +kernel
theorem dX8_laws_86 : decode cX8_laws 86 = .ok (.invokevirtual 241, 3) := by decide +kernel
theorem dX8_laws_89 : decode cX8_laws 89 = .ok (.istore_n 3, 1) := by decide +kernel
theorem dX8_laws_90 : decode cX8_laws 90 = .ok (.iinc 4 1, 3) := by decide +kernel
theorem dX8_laws_93 : decode cX8_laws 93 = .ok (.goto (-48), 3) := by decide +kernel
theorem dX8_laws_96 : decode cX8_laws 96 = .ok (.iload_n 2, 1) := by decide +kernel
theorem dX8_laws_97 : decode cX8_laws 97 = .ok (.ireturn, 1) := by decide +kernel
set_option maxRecDepth 20000 in
theorem ggX8_sizes_X8_planIf : GoodIn wsX8_sizes wsX8_planIf := goodIn_r _ [6, 7, 8, 9, 1, 10, 11, 12, 13, 14, 15, 16, 17, 18, 19, 20, 21, 22, 23, 24, 25, 26, 27, 28, 29, 30, 31, 32, 33, 5, 34, 35, 36, 37, 38, 39, 40, 41, 42, 43, 44, 45, 46, 47, 48, 49, 50, 51, 52, 53, 54, 55, 56, 57, 58, 59, 60, 61, 62, 63, 64, 65, 66, 67, 68, 69, 70, 71, 72, 73, 74, 75, 76, 77, 78, 79, 80, 81, 82, 83, 84, 85, 86, 87, 88, 89, 90, 91, 92, 93, 94, 95, 96, 97, 98, 99, 100, 101, 102, 103, 108, 109, 110, 111, 112, 113, 114, 115, 116, 117, 118, 119, 120, 121, 122, 123, 124, 125, 126, 127, 128, 129, 130, 131, 132, 133, 134, 135] (by decide +kernel) (by decide +kernel)
set_option maxRecDepth 20000 in
theorem gX8_sizes_X8_planIf : GoodIn wsX8_sizes (wsV RX8 253 RX8 yX8_planIf wsX8_planIf) := goodIn_app (goodIn_of _ (by decide +kernel)) ggX8_sizes_X8_planIf
set_option maxRecDepth 20000 in
theorem ggX8_sizes_X5_found : GoodIn wsX8_sizes wsX5_found := goodIn_r _ [107, 41, 40, 44, 133, 134, 135] (by decide +kernel) (by decide +kernel)
set_option maxRecDepth 20000 in
theorem gX8_sizes_X5_found : GoodIn wsX8_sizes (wsV RX8 238 RX5 yX5_found wsX5_found) := goodIn_app (goodIn_of _ (by decide +kernel)) ggX8_sizes_X5_found
theorem dX8_sizes_0 : decode cX8_sizes 0 = .ok (.aload_n 0, 1) := by decide +kernel
theorem dX8_sizes_1 : decode cX8_sizes 1 = .ok (.iconst 0, 1) := by decide +kernel
theorem dX8_sizes_2 : decode cX8_sizes 2 = .ok (.bipush 99, 2) := by decide +kernel
theorem dX8_sizes_4 : decode cX8_sizes 4 = .ok (.invokevirtual 253, 3) := by decide +kernel
theorem dX8_sizes_7 : decode cX8_sizes 7 = .ok (.aload_n 0, 1) := by decide +kernel
theorem dX8_sizes_8 : decode cX8_sizes 8 = .ok (.getfield 42, 3) := by decide +kernel
theorem dX8_sizes_11 : decode cX8_sizes 11 = .ok (.invokevirtual 238, 3) := by decide +kernel
theorem dX8_sizes_14 : decode cX8_sizes 14 = .ok (.ifCond .ne 5, 3) := by decide +kernel
theorem dX8_sizes_17 : decode cX8_sizes 17 = .ok (.iconst (-1), 1) := by decide +kernel
theorem dX8_sizes_18 : decode cX8_sizes 18 = .ok (.ireturn, 1) := by decide +kernel
theorem dX8_sizes_19 : decode cX8_sizes 19 = .ok (.iconst 1, 1) := by decide +kernel
theorem dX8_sizes_20 : decode cX8_sizes 20 = .ok (.istore_n 1, 1) := by decide +kernel
theorem dX8_sizes_21 : decode cX8_sizes 21 = .ok (.bipush 99, 2) := by decide +kernel
theorem dX8_sizes_23 : decode cX8_sizes 23 = .ok (.istore_n 2, 1) := by decide +kernel
theorem dX8_sizes_24 : decode cX8_sizes 24 = .ok (.iconst 0, 1) := by decide +kernel
theorem dX8_sizes_25 : decode cX8_sizes 25 = .ok (.istore_n 3, 1) := by decide +kernel
theorem dX8_sizes_26 : decode cX8_sizes 26 = .ok (.iload_n 3, 1) := by decide +kernel
theorem dX8_sizes_27 : decode cX8_sizes 27 = .ok (.bipush 99, 2) := by decide +kernel
theorem dX8_sizes_29 : decode cX8_sizes 29 = .ok (.if_icmp .ge 49, 3) := by decide +kernel
theorem dX8_sizes_32 : decode cX8_sizes 32 = .ok (.iload_n 1, 1) := by decide +kernel
theorem dX8_sizes_33 : decode cX8_sizes 33 = .ok (.iload_n 2, 1) := by decide +kernel
theorem dX8_sizes_34 : decode cX8_sizes 34 = .ok (.if_icmp .ge 44, 3) := by decide +kernel
theorem dX8_sizes_37 : decode cX8_sizes 37 = .ok (.iload_n 1, 1) := by decide +kernel
theorem dX8_sizes_38 : decode cX8_sizes 38 = .ok (.iload_n 2, 1) := by decide +kernel
theorem dX8_sizes_39 : decode cX8_sizes 39 = .ok (.iadd, 1) := by decide +kernel
theorem dX8_sizes_40 : decode cX8_sizes 40 = .ok (.iconst 2, 1) := by decide +kernel
theorem dX8_sizes_41 : decode cX8_sizes 41 = .ok (.idiv, 1) := by decide +kernel
theorem dX8_sizes_42 : decode cX8_sizes 42 = .ok (.istore 4, 2) := by decide +kernel
theorem dX8_sizes_44 : decode cX8_sizes 44 = .ok (.aload_n 0, 1) := by decide +kernel
theorem dX8_sizes_45 : decode cX8_sizes 45 = .ok (.iconst 0, 1) := by decide +kernel
theorem dX8_sizes_46 : decode cX8_sizes 46 = .ok (.iload 4, 2) := by decide +kernel
theorem dX8_sizes_48 : decode cX8_sizes 48 = .ok (.invokevirtual 253, 3) := by decide +kernel
theorem dX8_sizes_51 : decode cX8_sizes 51 = .ok (.aload_n 0, 1) := by decide +kernel
theorem dX8_sizes_52 : decode cX8_sizes 52 = .ok (.getfield 42, 3) := by decide +kernel
theorem dX8_sizes_55 : decode cX8_sizes 55 = .ok (.invokevirtual 238, 3) := by decide +kernel
theorem dX8_sizes_58 : decode cX8_sizes 58 = .ok (.ifCond .eq 9, 3) := by decide +kernel
theorem dX8_sizes_61 : decode cX8_sizes 61 = .ok (.iload 4, 2) := by decide +kernel
theorem dX8_sizes_63 : decode cX8_sizes 63 = .ok (.istore_n 2, 1) := by decide +kernel
theorem dX8_sizes_64 : decode cX8_sizes 64 = .ok (.goto 8, 3) := by decide +kernel
theorem dX8_sizes_67 : decode cX8_sizes 67 = .ok (.iload 4, 2) := by decide +kernel
theorem dX8_sizes_69 : decode cX8_sizes 69 = .ok (.iconst 1, 1) := by decide +kernel
theorem dX8_sizes_70 : decode cX8_sizes 70 = .ok (.iadd, 1) := by decide +kernel
theorem dX8_sizes_71 : decode cX8_sizes 71 = .ok (.istore_n 1, 1) := by decide +kernel
theorem dX8_sizes_72 : decode cX8_sizes 72 = .ok (.iinc 3 1, 3) := by decide +kernel
theorem dX8_sizes_75 : decode cX8_sizes 75 = .ok (.goto (-49), 3) := by decide +kernel
theorem dX8_sizes_78 : decode cX8_sizes 78 = .ok (.iload_n 1, 1) := by decide +kernel
theorem dX8_sizes_79 : decode cX8_sizes 79 = .ok (.ireturn, 1) := by decide +kernel
set_option maxRecDepth 20000 in
theorem ggX8_rules_X8_planIf : GoodIn wsX8_rules wsX8_planIf := goodIn_r _ [7, 8, 9, 10, 2, 11, 12, 13, 14, 15, 16, 17, 18, 19, 20, 21, 22, 23, 24, 25, 26, 27, 28, 29, 30, 31, 32, 33, 34, 6, 35, 36, 37, 38, 39, 40, 41, 42, 43, 44, 45, 46, 47, 48, 49, 50, 51, 52, 53, 54, 55, 56, 57, 58, 59, 60, 61, 62, 63, 64, 65, 66, 67, 68, 69, 70, 71, 72, 73, 74, 75, 76, 77, 78, 79, 80, 81, 82, 83, 84, 85, 86, 87, 88, 89, 90, 91, 92, 93, 94, 95, 96, 97, 98, 99, 100, 101, 102, 103, 104, 109, 110, 111, 112, 113, 114, 115, 116, 117, 118, 119, 120, 121, 122, 123, 124, 125, 126, 127, 128, 129, 130, 131, 132, 133, 134, 135, 136] (by decide +kernel) (by decide +kernel)
set_option maxRecDepth 20000 in
theorem gX8_rules_X8_planIf : GoodIn wsX8_rules (wsV RX8 253 RX8 yX8_planIf wsX8_planIf) := goodIn_app (goodIn_of _ (by decide +kernel)) ggX8_rules_X8_planIf
set_option maxRecDepth 20000 in
theorem ggX8_rules_X5_price : GoodIn wsX8_rules wsX5_price := goodIn_r _ [108, 42, 41, 134, 135, 136] (by decide +kernel) (by decide +kernel)
set_option maxRecDepth 20000 in
theorem gX8_rules_X5_price : GoodIn wsX8_rules (wsV RX8 257 RX5 yX5_price wsX5_price) := goodIn_app (goodIn_of _ (by decide +kernel)) ggX8_rules_X5_price
theorem dX8_rules_0 : decode cX8_rules 0 = .ok (.iconst 0, 1) := by decide +kernel
theorem dX8_rules_1 : decode cX8_rules 1 = .ok (.istore_n 1, 1) := by decide +kernel
theorem dX8_rules_2 : decode cX8_rules 2 = .ok (.ldc_w 256, 3) := by decide +kernel
theorem dX8_rules_5 : decode cX8_rules 5 = .ok (.istore_n 2, 1) := by decide +kernel
theorem dX8_rules_6 : decode cX8_rules 6 = .ok (.iconst 0, 1) := by decide +kernel
theorem dX8_rules_7 : decode cX8_rules 7 = .ok (.istore_n 3, 1) := by decide +kernel
theorem dX8_rules_8 : decode cX8_rules 8 = .ok (.iload_n 3, 1) := by decide +kernel
theorem dX8_rules_9 : decode cX8_rules 9 = .ok (.iconst 4, 1) := by decide +kernel
theorem dX8_rules_10 : decode cX8_rules 10 = .ok (.if_icmp .ge 36, 3) := by decide +kernel
theorem dX8_rules_13 : decode cX8_rules 13 = .ok (.aload_n 0, 1) := by decide +kernel
theorem dX8_rules_14 : decode cX8_rules 14 = .ok (.iconst 2, 1) := by decide +kernel
theorem dX8_rules_15 : decode cX8_rules 15 = .ok (.iload_n 3, 1) := by decide +kernel
theorem dX8_rules_16 : decode cX8_rules 16 = .ok (.invokevirtual 253, 3) := by decide +kernel
theorem dX8_rules_19 : decode cX8_rules 19 = .ok (.aload_n 0, 1) := by decide +kernel
theorem dX8_rules_20 : decode cX8_rules 20 = .ok (.getfield 42, 3) := by decide +kernel
theorem dX8_rules_23 : decode cX8_rules 23 = .ok (.invokevirtual 257, 3) := by decide +kernel
theorem dX8_rules_26 : decode cX8_rules 26 = .ok (.iload_n 2, 1) := by decide +kernel
theorem dX8_rules_27 : decode cX8_rules 27 = .ok (.if_icmp .ge 13, 3) := by decide +kernel
theorem dX8_rules_30 : decode cX8_rules 30 = .ok (.iload_n 3, 1) := by decide +kernel
theorem dX8_rules_31 : decode cX8_rules 31 = .ok (.istore_n 1, 1) := by decide +kernel
theorem dX8_rules_32 : decode cX8_rules 32 = .ok (.aload_n 0, 1) := by decide +kernel
theorem dX8_rules_33 : decode cX8_rules 33 = .ok (.getfield 42, 3) := by decide +kernel
theorem dX8_rules_36 : decode cX8_rules 36 = .ok (.invokevirtual 257, 3) := by decide +kernel
theorem dX8_rules_39 : decode cX8_rules 39 = .ok (.istore_n 2, 1) := by decide +kernel
theorem dX8_rules_40 : decode cX8_rules 40 = .ok (.iinc 3 1, 3) := by decide +kernel
theorem dX8_rules_43 : decode cX8_rules 43 = .ok (.goto (-35), 3) := by decide +kernel
theorem dX8_rules_46 : decode cX8_rules 46 = .ok (.iload_n 1, 1) := by decide +kernel
theorem dX8_rules_47 : decode cX8_rules 47 = .ok (.ireturn, 1) := by decide +kernel
set_option maxRecDepth 20000 in
theorem ggX8_time_X5_reckon : GoodIn wsX8_time wsX5_reckon := goodIn_r _ [7, 8, 9, 10, 11, 12, 13, 14, 15, 16, 17, 18, 19, 20, 21, 22, 23, 24, 25, 26, 27, 28, 29, 30, 31, 32, 33, 34, 35, 36, 37, 38, 39, 40, 41, 42, 43, 44, 45, 46, 47, 48, 49, 50, 51, 52, 53, 54, 55, 56, 57, 58, 59, 60, 61, 62, 63, 64, 65, 66, 67, 68, 69, 70, 71, 6, 72, 73, 74, 75, 76, 77, 78, 79, 80, 81, 82, 83, 105, 106, 107, 108, 109, 110, 111, 112, 113, 114, 115, 116, 117, 118, 119, 120] (by decide +kernel) (by decide +kernel)
set_option maxRecDepth 20000 in
theorem gX8_time_X5_reckon : GoodIn wsX8_time (wsV RX8 235 RX5 yX5_reckon wsX5_reckon) := goodIn_app (goodIn_of _ (by decide +kernel)) ggX8_time_X5_reckon
set_option maxRecDepth 20000 in
theorem ggX8_time_X5_found : GoodIn wsX8_time wsX5_found := goodIn_r _ [87, 9, 8, 12, 105, 106, 107] (by decide +kernel) (by decide +kernel)
set_option maxRecDepth 20000 in
theorem gX8_time_X5_found : GoodIn wsX8_time (wsV RX8 238 RX5 yX5_found wsX5_found) := goodIn_app (goodIn_of _ (by decide +kernel)) ggX8_time_X5_found
set_option maxRecDepth 20000 in
theorem ggX8_time_X5_crossings : GoodIn wsX8_time wsX5_crossings := goodIn_r _ [91, 9, 8, 92, 85, 86, 6, 87, 12, 105, 106, 107] (by decide +kernel) (by decide +kernel)
set_option maxRecDepth 20000 in
theorem gX8_time_X5_crossings : GoodIn wsX8_time (wsV RX8 241 RX5 yX5_crossings wsX5_crossings) := goodIn_app (goodIn_of _ (by decide +kernel)) ggX8_time_X5_crossings
theorem dX8_time_0 : decode cX8_time 0 = .ok (.aload_n 0, 1) := by decide +kernel
theorem dX8_time_1 : decode cX8_time 1 = .ok (.getfield 42, 3) := by decide +kernel
theorem dX8_time_4 : decode cX8_time 4 = .ok (.aload_n 0, 1) := by decide +kernel
theorem dX8_time_5 : decode cX8_time 5 = .ok (.getfield 12, 3) := by decide +kernel
theorem dX8_time_8 : decode cX8_time 8 = .ok (.invokevirtual 235, 3) := by decide +kernel
theorem dX8_time_11 : decode cX8_time 11 = .ok (.aload_n 0, 1) := by decide +kernel
theorem dX8_time_12 : decode cX8_time 12 = .ok (.getfield 42, 3) := by decide +kernel
theorem dX8_time_15 : decode cX8_time 15 = .ok (.invokevirtual 238, 3) := by decide +kernel
theorem dX8_time_18 : decode cX8_time 18 = .ok (.ifCond .eq 16, 3) := by decide +kernel
theorem dX8_time_21 : decode cX8_time 21 = .ok (.aload_n 0, 1) := by decide +kernel
theorem dX8_time_22 : decode cX8_time 22 = .ok (.getfield 42, 3) := by decide +kernel
theorem dX8_time_25 : decode cX8_time 25 = .ok (.invokevirtual 241, 3) := by decide +kernel
theorem dX8_time_28 : decode cX8_time 28 = .ok (.bipush 20, 2) := by decide +kernel
theorem dX8_time_30 : decode cX8_time 30 = .ok (.imul, 1) := by decide +kernel
theorem dX8_time_31 : decode cX8_time 31 = .ok (.goto 4, 3) := by decide +kernel
theorem dX8_time_34 : decode cX8_time 34 = .ok (.iconst (-1), 1) := by decide +kernel
theorem dX8_time_35 : decode cX8_time 35 = .ok (.ireturn, 1) := by decide +kernel
set_option maxRecDepth 20000 in
theorem ggX8_loosen_X2_relation : GoodIn wsX8_loosen wsX2_relation := goodIn_r _ [8, 9, 10, 11, 12, 13, 7, 14, 15, 16, 17, 18, 19, 20, 21, 22, 23, 24, 139, 140, 141, 142, 143, 144, 145, 146, 147, 148, 149, 150, 151] (by decide +kernel) (by decide +kernel)
set_option maxRecDepth 20000 in
theorem gX8_loosen_X2_relation : GoodIn wsX8_loosen (wsV RX8 165 RX2 yX2_relation wsX2_relation) := goodIn_app (goodIn_of _ (by decide +kernel)) ggX8_loosen_X2_relation
set_option maxRecDepth 20000 in
theorem ggX8_loosen_X8_priceUntied : GoodIn wsX8_loosen wsX8_priceUntied := goodIn_r _ [28, 29, 2, 30, 31, 32, 33, 7, 34, 35, 36, 37, 38, 39, 40, 41, 42, 9, 10, 43, 19, 44, 45, 46, 47, 48, 49, 50, 51, 52, 11, 12, 13, 14, 15, 16, 17, 18, 20, 21, 22, 53, 54, 55, 56, 57, 58, 59, 60, 61, 62, 63, 64, 65, 66, 67, 68, 69, 70, 71, 72, 73, 74, 75, 76, 77, 78, 79, 80, 81, 23, 24, 82, 83, 84, 85, 86, 87, 88, 89, 90, 91, 92, 93, 94, 95, 96, 97, 98, 99, 100, 101, 102, 103, 104, 105, 106, 107, 108, 109, 110, 111, 112, 113, 114, 115, 116, 117, 118, 119, 120, 121, 122, 123, 124, 125, 126, 127, 128, 129, 130, 131, 132, 133, 134, 135, 136, 137, 138, 139, 140, 141, 142, 143, 144, 145, 146, 147, 148, 149, 150, 151, 152, 153, 154] (by decide +kernel) (by decide +kernel)
set_option maxRecDepth 20000 in
theorem gX8_loosen_X8_priceUntied : GoodIn wsX8_loosen (wsV RX8 260 RX8 yX8_priceUntied wsX8_priceUntied) := goodIn_app (goodIn_of _ (by decide +kernel)) ggX8_loosen_X8_priceUntied
theorem dX8_loosen_0 : decode cX8_loosen 0 = .ok (.iconst (-1), 1) := by decide +kernel
theorem dX8_loosen_1 : decode cX8_loosen 1 = .ok (.istore_n 1, 1) := by decide +kernel
theorem dX8_loosen_2 : decode cX8_loosen 2 = .ok (.ldc_w 256, 3) := by decide +kernel
theorem dX8_loosen_5 : decode cX8_loosen 5 = .ok (.istore_n 2, 1) := by decide +kernel
theorem dX8_loosen_6 : decode cX8_loosen 6 = .ok (.iconst 0, 1) := by decide +kernel
theorem dX8_loosen_7 : decode cX8_loosen 7 = .ok (.istore_n 3, 1) := by decide +kernel
theorem dX8_loosen_8 : decode cX8_loosen 8 = .ok (.iload_n 3, 1) := by decide +kernel
theorem dX8_loosen_9 : decode cX8_loosen 9 = .ok (.aload_n 0, 1) := by decide +kernel
theorem dX8_loosen_10 : decode cX8_loosen 10 = .ok (.getfield 12, 3) := by decide +kernel
theorem dX8_loosen_13 : decode cX8_loosen 13 = .ok (.getfield 232, 3) := by decide +kernel
theorem dX8_loosen_16 : decode cX8_loosen 16 = .ok (.if_icmp .ge 77, 3) := by decide +kernel
theorem dX8_loosen_19 : decode cX8_loosen 19 = .ok (.iload_n 3, 1) := by decide +kernel
theorem dX8_loosen_20 : decode cX8_loosen 20 = .ok (.iconst 1, 1) := by decide +kernel
theorem dX8_loosen_21 : decode cX8_loosen 21 = .ok (.iadd, 1) := by decide +kernel
theorem dX8_loosen_22 : decode cX8_loosen 22 = .ok (.istore 4, 2) := by decide +kernel
theorem dX8_loosen_24 : decode cX8_loosen 24 = .ok (.iload 4, 2) := by decide +kernel
theorem dX8_loosen_26 : decode cX8_loosen 26 = .ok (.aload_n 0, 1) := by decide +kernel
theorem dX8_loosen_27 : decode cX8_loosen 27 = .ok (.getfield 12, 3) := by decide +kernel
theorem dX8_loosen_30 : decode cX8_loosen 30 = .ok (.getfield 232, 3) := by decide +kernel
theorem dX8_loosen_33 : decode cX8_loosen 33 = .ok (.if_icmp .ge 54, 3) := by decide +kernel
theorem dX8_loosen_36 : decode cX8_loosen 36 = .ok (.aload_n 0, 1) := by decide +kernel
theorem dX8_loosen_37 : decode cX8_loosen 37 = .ok (.getfield 12, 3) := by decide +kernel
theorem dX8_loosen_40 : decode cX8_loosen 40 = .ok (.iload_n 3, 1) := by decide +kernel
theorem dX8_loosen_41 : decode cX8_loosen 41 = .ok (.iload 4, 2) := by decide +kernel
theorem dX8_loosen_43 : decode cX8_loosen 43 = .ok (.invokevirtual 165, 3) := by decide +kernel
theorem dX8_loosen_46 : decode cX8_loosen 46 = .ok (.iconst 1, 1) := by decide +kernel
theorem dX8_loosen_47 : decode cX8_loosen 47 = .ok (.if_icmp .ne 34, 3) := by decide +kernel
theorem dX8_loosen_50 : decode cX8_loosen 50 = .ok (.aload_n 0, 1) := by decide +kernel
theorem dX8_loosen_51 : decode cX8_loosen 51 = .ok (.iload_n 3, 1) := by decide +kernel
theorem dX8_loosen_52 : decode cX8_loosen 52 = .ok (.iload 4, 2) := by decide +kernel
theorem dX8_loosen_54 : decode cX8_loosen 54 = .ok (.invokevirtual 260, 3) := by decide +kernel
theorem dX8_loosen_57 : decode cX8_loosen 57 = .ok (.istore 5, 2) := by decide +kernel
theorem dX8_loosen_59 : decode cX8_loosen 59 = .ok (.iload_n 1, 1) := by decide +kernel
theorem dX8_loosen_60 : decode cX8_loosen 60 = .ok (.iconst (-1), 1) := by decide +kernel
theorem dX8_loosen_61 : decode cX8_loosen 61 = .ok (.if_icmp .eq 9, 3) := by decide +kernel
theorem dX8_loosen_64 : decode cX8_loosen 64 = .ok (.iload 5, 2) := by decide +kernel
theorem dX8_loosen_66 : decode cX8_loosen 66 = .ok (.iload_n 2, 1) := by decide +kernel
theorem dX8_loosen_67 : decode cX8_loosen 67 = .ok (.if_icmp .ge 14, 3) := by decide +kernel
theorem dX8_loosen_70 : decode cX8_loosen 70 = .ok (.iload_n 3, 1) := by decide +kernel
theorem dX8_loosen_71 : decode cX8_loosen 71 = .ok (.bipush 10, 2) := by decide +kernel
theorem dX8_loosen_73 : decode cX8_loosen 73 = .ok (.imul, 1) := by decide +kernel
theorem dX8_loosen_74 : decode cX8_loosen 74 = .ok (.iload 4, 2) := by decide +kernel
theorem dX8_loosen_76 : decode cX8_loosen 76 = .ok (.iadd, 1) := by decide +kernel
theorem dX8_loosen_77 : decode cX8_loosen 77 = .ok (.istore_n 1, 1) := by decide +kernel
theorem dX8_loosen_78 : decode cX8_loosen 78 = .ok (.iload 5, 2) := by decide +kernel
theorem dX8_loosen_80 : decode cX8_loosen 80 = .ok (.istore_n 2, 1) := by decide +kernel
theorem dX8_loosen_81 : decode cX8_loosen 81 = .ok (.iinc 4 1, 3) := by decide +kernel
theorem dX8_loosen_84 : decode cX8_loosen 84 = .ok (.goto (-60), 3) := by decide +kernel
theorem dX8_loosen_87 : decode cX8_loosen 87 = .ok (.iinc 3 1, 3) := by decide +kernel
theorem dX8_loosen_90 : decode cX8_loosen 90 = .ok (.goto (-82), 3) := by decide +kernel
theorem dX8_loosen_93 : decode cX8_loosen 93 = .ok (.iload_n 1, 1) := by decide +kernel
theorem dX8_loosen_94 : decode cX8_loosen 94 = .ok (.ireturn, 1) := by decide +kernel
set_option maxRecDepth 20000 in
theorem ggX8_left_X8_within : GoodIn wsX8_left wsX8_within := goodIn_r _ [6] (by decide +kernel) (by decide +kernel)
set_option maxRecDepth 20000 in
theorem gX8_left_X8_within : GoodIn wsX8_left (va_wsS RX8 79 yX8_within wsX8_within) := goodIn_app (goodIn_of _ (by decide +kernel)) ggX8_left_X8_within
set_option maxRecDepth 20000 in
theorem ggX8_left_X4_leastStaying : GoodIn wsX8_left wsX4_leastStaying := goodIn_r _ [11, 12, 13, 14, 15, 16, 17, 18, 19, 20, 21, 10, 22, 23, 24, 25, 26, 27, 28, 4, 5, 6, 29, 30, 31, 32, 33, 34, 52, 53, 54, 55, 56, 57, 58, 59, 60, 61, 62, 63, 64, 65, 66, 67] (by decide +kernel) (by decide +kernel)
set_option maxRecDepth 20000 in
theorem gX8_left_X4_leastStaying : GoodIn wsX8_left (wsV RX8 263 RX4 yX4_leastStaying wsX4_leastStaying) := goodIn_app (goodIn_of _ (by decide +kernel)) ggX8_left_X4_leastStaying
set_option maxRecDepth 20000 in
theorem ggX8_left_X8_refuse : GoodIn wsX8_left wsX8_refuse := goodIn_r _ [38, 39, 3, 4, 5, 6, 40, 41, 42, 43, 44, 45, 46, 47, 48, 49, 50, 51] (by decide +kernel) (by decide +kernel)
set_option maxRecDepth 20000 in
theorem gX8_left_X8_refuse : GoodIn wsX8_left (wsV RX8 83 RX8 yX8_refuse wsX8_refuse) := goodIn_app (goodIn_of _ (by decide +kernel)) ggX8_left_X8_refuse
theorem dX8_left_0 : decode cX8_left 0 = .ok (.iload_n 1, 1) := by decide +kernel
theorem dX8_left_1 : decode cX8_left 1 = .ok (.iconst 0, 1) := by decide +kernel
theorem dX8_left_2 : decode cX8_left 2 = .ok (.sipush 400, 3) := by decide +kernel
theorem dX8_left_5 : decode cX8_left 5 = .ok (.invokestatic 79, 3) := by decide +kernel
theorem dX8_left_8 : decode cX8_left 8 = .ok (.ifCond .eq 18, 3) := by decide +kernel
theorem dX8_left_11 : decode cX8_left 11 = .ok (.aload_n 0, 1) := by decide +kernel
theorem dX8_left_12 : decode cX8_left 12 = .ok (.getfield 49, 3) := by decide +kernel
theorem dX8_left_15 : decode cX8_left 15 = .ok (.aload_n 0, 1) := by decide +kernel
theorem dX8_left_16 : decode cX8_left 16 = .ok (.getfield 12, 3) := by decide +kernel
theorem dX8_left_19 : decode cX8_left 19 = .ok (.iload_n 1, 1) := by decide +kernel
theorem dX8_left_20 : decode cX8_left 20 = .ok (.invokevirtual 263, 3) := by decide +kernel
theorem dX8_left_23 : decode cX8_left 23 = .ok (.goto 10, 3) := by decide +kernel
theorem dX8_left_26 : decode cX8_left 26 = .ok (.aload_n 0, 1) := by decide +kernel
theorem dX8_left_27 : decode cX8_left 27 = .ok (.sipush (-1002), 3) := by decide +kernel
theorem dX8_left_30 : decode cX8_left 30 = .ok (.invokevirtual 83, 3) := by decide +kernel
theorem dX8_left_33 : decode cX8_left 33 = .ok (.ireturn, 1) := by decide +kernel
set_option maxRecDepth 20000 in
theorem ggX8_ways_X8_within : GoodIn wsX8_ways wsX8_within := goodIn_r _ [6] (by decide +kernel) (by decide +kernel)
set_option maxRecDepth 20000 in
theorem gX8_ways_X8_within : GoodIn wsX8_ways (va_wsS RX8 79 yX8_within wsX8_within) := goodIn_app (goodIn_of _ (by decide +kernel)) ggX8_ways_X8_within
set_option maxRecDepth 20000 in
theorem ggX8_ways_X4_waysToSum : GoodIn wsX8_ways wsX4_waysToSum := goodIn_r _ [11, 12, 13, 14, 15, 16, 17, 10, 18, 19, 20, 21, 22, 23, 24, 4, 5, 6, 25, 26, 27, 28, 29, 30, 31, 32, 33, 34, 52, 53, 54, 55, 56, 57, 58, 59, 60, 61, 62, 63, 64, 65, 66, 67] (by decide +kernel) (by decide +kernel)
set_option maxRecDepth 20000 in
theorem gX8_ways_X4_waysToSum : GoodIn wsX8_ways (wsV RX8 267 RX4 yX4_waysToSum wsX4_waysToSum) := goodIn_app (goodIn_of _ (by decide +kernel)) ggX8_ways_X4_waysToSum
set_option maxRecDepth 20000 in
theorem ggX8_ways_X8_refuse : GoodIn wsX8_ways wsX8_refuse := goodIn_r _ [38, 39, 3, 4, 5, 6, 40, 41, 42, 43, 44, 45, 46, 47, 48, 49, 50, 51] (by decide +kernel) (by decide +kernel)
set_option maxRecDepth 20000 in
theorem gX8_ways_X8_refuse : GoodIn wsX8_ways (wsV RX8 83 RX8 yX8_refuse wsX8_refuse) := goodIn_app (goodIn_of _ (by decide +kernel)) ggX8_ways_X8_refuse
theorem dX8_ways_0 : decode cX8_ways 0 = .ok (.iload_n 1, 1) := by decide +kernel
theorem dX8_ways_1 : decode cX8_ways 1 = .ok (.iconst 0, 1) := by decide +kernel
theorem dX8_ways_2 : decode cX8_ways 2 = .ok (.bipush 60, 2) := by decide +kernel
theorem dX8_ways_4 : decode cX8_ways 4 = .ok (.invokestatic 79, 3) := by decide +kernel
theorem dX8_ways_7 : decode cX8_ways 7 = .ok (.ifCond .eq 18, 3) := by decide +kernel
theorem dX8_ways_10 : decode cX8_ways 10 = .ok (.aload_n 0, 1) := by decide +kernel
theorem dX8_ways_11 : decode cX8_ways 11 = .ok (.getfield 49, 3) := by decide +kernel
theorem dX8_ways_14 : decode cX8_ways 14 = .ok (.aload_n 0, 1) := by decide +kernel
theorem dX8_ways_15 : decode cX8_ways 15 = .ok (.getfield 12, 3) := by decide +kernel
theorem dX8_ways_18 : decode cX8_ways 18 = .ok (.iload_n 1, 1) := by decide +kernel
theorem dX8_ways_19 : decode cX8_ways 19 = .ok (.invokevirtual 267, 3) := by decide +kernel
theorem dX8_ways_22 : decode cX8_ways 22 = .ok (.goto 10, 3) := by decide +kernel
theorem dX8_ways_25 : decode cX8_ways 25 = .ok (.aload_n 0, 1) := by decide +kernel
theorem dX8_ways_26 : decode cX8_ways 26 = .ok (.sipush (-1002), 3) := by decide +kernel
theorem dX8_ways_29 : decode cX8_ways 29 = .ok (.invokevirtual 83, 3) := by decide +kernel
theorem dX8_ways_32 : decode cX8_ways 32 = .ok (.ireturn, 1) := by decide +kernel
set_option maxRecDepth 20000 in
theorem ggX8_bids_X2_hasTwo : GoodIn wsX8_bids wsX2_hasTwo := goodIn_r _ [12, 13, 14, 15, 11, 16, 17, 18, 19, 20, 51, 52, 53, 54, 55, 56, 57, 58, 59, 60, 61, 62, 63] (by decide +kernel) (by decide +kernel)
set_option maxRecDepth 20000 in
theorem gX8_bids_X2_hasTwo : GoodIn wsX8_bids (wsV RX8 162 RX2 yX2_hasTwo wsX2_hasTwo) := goodIn_app (goodIn_of _ (by decide +kernel)) ggX8_bids_X2_hasTwo
set_option maxRecDepth 20000 in
theorem ggX8_bids_X8_within : GoodIn wsX8_bids wsX8_within := goodIn_r _ [20] (by decide +kernel) (by decide +kernel)
set_option maxRecDepth 20000 in
theorem gX8_bids_X8_within : GoodIn wsX8_bids (va_wsS RX8 79 yX8_within wsX8_within) := goodIn_app (goodIn_of _ (by decide +kernel)) ggX8_bids_X8_within
set_option maxRecDepth 20000 in
theorem ggX8_bids_X8_refuse : GoodIn wsX8_bids wsX8_refuse := goodIn_r _ [25, 26, 21, 18, 19, 20, 39, 40, 41, 42, 43, 44, 45, 46, 47, 48, 49, 50] (by decide +kernel) (by decide +kernel)
set_option maxRecDepth 20000 in
theorem gX8_bids_X8_refuse : GoodIn wsX8_bids (wsV RX8 83 RX8 yX8_refuse wsX8_refuse) := goodIn_app (goodIn_of _ (by decide +kernel)) ggX8_bids_X8_refuse
set_option maxRecDepth 20000 in
theorem ggX8_bids_X1_firstBid : GoodIn wsX8_bids wsX1_firstBid := goodIn_r _ [31, 32, 33, 34, 35, 36, 30, 37, 38, 5, 6, 7, 64, 65] (by decide +kernel) (by decide +kernel)
set_option maxRecDepth 20000 in
theorem gX8_bids_X1_firstBid : GoodIn wsX8_bids (wsV RX8 270 RX1 yX1_firstBid wsX1_firstBid) := goodIn_app (goodIn_of _ (by decide +kernel)) ggX8_bids_X1_firstBid
theorem dX8_bids_0 : decode cX8_bids 0 = .ok (.aload_n 0, 1) := by decide +kernel
theorem dX8_bids_1 : decode cX8_bids 1 = .ok (.getfield 12, 3) := by decide +kernel
theorem dX8_bids_4 : decode cX8_bids 4 = .ok (.iload_n 1, 1) := by decide +kernel
theorem dX8_bids_5 : decode cX8_bids 5 = .ok (.iload_n 2, 1) := by decide +kernel
theorem dX8_bids_6 : decode cX8_bids 6 = .ok (.invokevirtual 162, 3) := by decide +kernel
theorem dX8_bids_9 : decode cX8_bids 9 = .ok (.ifCond .eq 12, 3) := by decide +kernel
theorem dX8_bids_12 : decode cX8_bids 12 = .ok (.iload_n 3, 1) := by decide +kernel
theorem dX8_bids_13 : decode cX8_bids 13 = .ok (.iconst 0, 1) := by decide +kernel
theorem dX8_bids_14 : decode cX8_bids 14 = .ok (.iconst 1, 1) := by decide +kernel
theorem dX8_bids_15 : decode cX8_bids 15 = .ok (.invokestatic 79, 3) := by decide +kernel
theorem dX8_bids_18 : decode cX8_bids 18 = .ok (.ifCond .ne 11, 3) := by decide +kernel
theorem dX8_bids_21 : decode cX8_bids 21 = .ok (.aload_n 0, 1) := by decide +kernel
theorem dX8_bids_22 : decode cX8_bids 22 = .ok (.sipush (-1002), 3) := by decide +kernel
theorem dX8_bids_25 : decode cX8_bids 25 = .ok (.invokevirtual 83, 3) := by decide +kernel
theorem dX8_bids_28 : decode cX8_bids 28 = .ok (.ireturn, 1) := by decide +kernel
theorem dX8_bids_29 : decode cX8_bids 29 = .ok (.aload_n 0, 1) := by decide +kernel
theorem dX8_bids_30 : decode cX8_bids 30 = .ok (.getfield 56, 3) := by decide +kernel
theorem dX8_bids_33 : decode cX8_bids 33 = .ok (.aload_n 0, 1) := by decide +kernel
theorem dX8_bids_34 : decode cX8_bids 34 = .ok (.getfield 12, 3) := by decide +kernel
theorem dX8_bids_37 : decode cX8_bids 37 = .ok (.getfield 146, 3) := by decide +kernel
theorem dX8_bids_40 : decode cX8_bids 40 = .ok (.iload_n 1, 1) := by decide +kernel
theorem dX8_bids_41 : decode cX8_bids 41 = .ok (.iaload, 1) := by decide +kernel
theorem dX8_bids_42 : decode cX8_bids 42 = .ok (.aload_n 0, 1) := by decide +kernel
theorem dX8_bids_43 : decode cX8_bids 43 = .ok (.getfield 12, 3) := by decide +kernel
theorem dX8_bids_46 : decode cX8_bids 46 = .ok (.getfield 146, 3) := by decide +kernel
theorem dX8_bids_49 : decode cX8_bids 49 = .ok (.iload_n 2, 1) := by decide +kernel
theorem dX8_bids_50 : decode cX8_bids 50 = .ok (.iaload, 1) := by decide +kernel
theorem dX8_bids_51 : decode cX8_bids 51 = .ok (.invokevirtual 270, 3) := by decide +kernel
theorem dX8_bids_54 : decode cX8_bids 54 = .ok (.istore 4, 2) := by decide +kernel
theorem dX8_bids_56 : decode cX8_bids 56 = .ok (.iload_n 3, 1) := by decide +kernel
theorem dX8_bids_57 : decode cX8_bids 57 = .ok (.iconst 1, 1) := by decide +kernel
theorem dX8_bids_58 : decode cX8_bids 58 = .ok (.if_icmp .ne 8, 3) := by decide +kernel
theorem dX8_bids_61 : decode cX8_bids 61 = .ok (.iload 4, 2) := by decide +kernel
theorem dX8_bids_63 : decode cX8_bids 63 = .ok (.goto 9, 3) := by decide +kernel
theorem dX8_bids_66 : decode cX8_bids 66 = .ok (.iload 4, 2) := by decide +kernel
theorem dX8_bids_68 : decode cX8_bids 68 = .ok (.iconst 1, 1) := by decide +kernel
theorem dX8_bids_69 : decode cX8_bids 69 = .ok (.invokestatic 273, 3) := by decide +kernel
theorem dX8_bids_72 : decode cX8_bids 72 = .ok (.ireturn, 1) := by decide +kernel
set_option maxRecDepth 20000 in
theorem ggX8_numbers_X2_lets : GoodIn wsX8_numbers wsX2_lets := goodIn_r _ [6, 7, 8, 9, 10, 11, 12, 5, 13, 14, 15, 16, 29, 30, 31, 32, 33, 34, 35, 36, 37, 38, 39, 40, 41] (by decide +kernel) (by decide +kernel)
set_option maxRecDepth 20000 in
theorem gX8_numbers_X2_lets : GoodIn wsX8_numbers (wsV RX8 217 RX2 yX2_lets wsX2_lets) := goodIn_app (goodIn_of _ (by decide +kernel)) ggX8_numbers_X2_lets
theorem dX8_numbers_0 : decode cX8_numbers 0 = .ok (.iconst 0, 1) := by decide +kernel
theorem dX8_numbers_1 : decode cX8_numbers 1 = .ok (.istore_n 1, 1) := by decide +kernel
theorem dX8_numbers_2 : decode cX8_numbers 2 = .ok (.iconst 1, 1) := by decide +kernel
theorem dX8_numbers_3 : decode cX8_numbers 3 = .ok (.istore_n 2, 1) := by decide +kernel
theorem dX8_numbers_4 : decode cX8_numbers 4 = .ok (.iload_n 2, 1) := by decide +kernel
theorem dX8_numbers_5 : decode cX8_numbers 5 = .ok (.bipush 99, 2) := by decide +kernel
theorem dX8_numbers_7 : decode cX8_numbers 7 = .ok (.if_icmp .gt 23, 3) := by decide +kernel
theorem dX8_numbers_10 : decode cX8_numbers 10 = .ok (.aload_n 0, 1) := by decide +kernel
theorem dX8_numbers_11 : decode cX8_numbers 11 = .ok (.getfield 12, 3) := by decide +kernel
theorem dX8_numbers_14 : decode cX8_numbers 14 = .ok (.iload_n 2, 1) := by decide +kernel
theorem dX8_numbers_15 : decode cX8_numbers 15 = .ok (.invokevirtual 217, 3) := by decide +kernel
theorem dX8_numbers_18 : decode cX8_numbers 18 = .ok (.ifCond .eq 6, 3) := by decide +kernel
theorem dX8_numbers_21 : decode cX8_numbers 21 = .ok (.iinc 1 1, 3) := by decide +kernel
theorem dX8_numbers_24 : decode cX8_numbers 24 = .ok (.iinc 2 1, 3) := by decide +kernel
theorem dX8_numbers_27 : decode cX8_numbers 27 = .ok (.goto (-23), 3) := by decide +kernel
theorem dX8_numbers_30 : decode cX8_numbers 30 = .ok (.iload_n 1, 1) := by decide +kernel
theorem dX8_numbers_31 : decode cX8_numbers 31 = .ok (.ireturn, 1) := by decide +kernel
set_option maxRecDepth 20000 in
theorem ggX8_before_X8_within : GoodIn wsX8_before wsX8_within := goodIn_r _ [5] (by decide +kernel) (by decide +kernel)
set_option maxRecDepth 20000 in
theorem gX8_before_X8_within : GoodIn wsX8_before (va_wsS RX8 79 yX8_within wsX8_within) := goodIn_app (goodIn_of _ (by decide +kernel)) ggX8_before_X8_within
set_option maxRecDepth 20000 in
theorem ggX8_before_X8_refuse : GoodIn wsX8_before wsX8_refuse := goodIn_r _ [9, 10, 2, 3, 4, 5, 23, 24, 25, 26, 27, 28, 29, 30, 31, 32, 33, 34] (by decide +kernel) (by decide +kernel)
set_option maxRecDepth 20000 in
theorem gX8_before_X8_refuse : GoodIn wsX8_before (wsV RX8 83 RX8 yX8_refuse wsX8_refuse) := goodIn_app (goodIn_of _ (by decide +kernel)) ggX8_before_X8_refuse
set_option maxRecDepth 20000 in
theorem ggX8_before_X2_lets : GoodIn wsX8_before wsX2_lets := goodIn_r _ [15, 16, 3, 4, 5, 17, 18, 14, 19, 20, 21, 22, 35, 36, 37, 38, 39, 40, 41, 42, 43, 44, 45, 46, 47] (by decide +kernel) (by decide +kernel)
set_option maxRecDepth 20000 in
theorem gX8_before_X2_lets : GoodIn wsX8_before (wsV RX8 217 RX2 yX2_lets wsX2_lets) := goodIn_app (goodIn_of _ (by decide +kernel)) ggX8_before_X2_lets
theorem dX8_before_0 : decode cX8_before 0 = .ok (.iload_n 1, 1) := by decide +kernel
theorem dX8_before_1 : decode cX8_before 1 = .ok (.iconst 0, 1) := by decide +kernel
theorem dX8_before_2 : decode cX8_before 2 = .ok (.bipush 99, 2) := by decide +kernel
theorem dX8_before_4 : decode cX8_before 4 = .ok (.invokestatic 79, 3) := by decide +kernel
theorem dX8_before_7 : decode cX8_before 7 = .ok (.ifCond .ne 11, 3) := by decide +kernel
theorem dX8_before_10 : decode cX8_before 10 = .ok (.aload_n 0, 1) := by decide +kernel
theorem dX8_before_11 : decode cX8_before 11 = .ok (.sipush (-1002), 3) := by decide +kernel
theorem dX8_before_14 : decode cX8_before 14 = .ok (.invokevirtual 83, 3) := by decide +kernel
theorem dX8_before_17 : decode cX8_before 17 = .ok (.ireturn, 1) := by decide +kernel
theorem dX8_before_18 : decode cX8_before 18 = .ok (.iload_n 1, 1) := by decide +kernel
theorem dX8_before_19 : decode cX8_before 19 = .ok (.istore_n 2, 1) := by decide +kernel
theorem dX8_before_20 : decode cX8_before 20 = .ok (.iload_n 2, 1) := by decide +kernel
theorem dX8_before_21 : decode cX8_before 21 = .ok (.iconst 1, 1) := by decide +kernel
theorem dX8_before_22 : decode cX8_before 22 = .ok (.if_icmp .lt 22, 3) := by decide +kernel
theorem dX8_before_25 : decode cX8_before 25 = .ok (.aload_n 0, 1) := by decide +kernel
theorem dX8_before_26 : decode cX8_before 26 = .ok (.getfield 12, 3) := by decide +kernel
theorem dX8_before_29 : decode cX8_before 29 = .ok (.iload_n 2, 1) := by decide +kernel
theorem dX8_before_30 : decode cX8_before 30 = .ok (.invokevirtual 217, 3) := by decide +kernel
theorem dX8_before_33 : decode cX8_before 33 = .ok (.ifCond .eq 5, 3) := by decide +kernel
theorem dX8_before_36 : decode cX8_before 36 = .ok (.iload_n 2, 1) := by decide +kernel
theorem dX8_before_37 : decode cX8_before 37 = .ok (.ireturn, 1) := by decide +kernel
theorem dX8_before_38 : decode cX8_before 38 = .ok (.iinc 2 (-1), 3) := by decide +kernel
theorem dX8_before_41 : decode cX8_before 41 = .ok (.goto (-21), 3) := by decide +kernel
theorem dX8_before_44 : decode cX8_before 44 = .ok (.iconst (-1), 1) := by decide +kernel
theorem dX8_before_45 : decode cX8_before 45 = .ok (.ireturn, 1) := by decide +kernel
set_option maxRecDepth 20000 in
theorem ggX8_lacks_X2_hasGroup : GoodIn wsX8_lacks wsX2_hasGroup := goodIn_r _ [7, 8, 9, 10, 6, 11, 12, 13, 14, 15, 72, 73, 74, 75, 76, 77, 78, 79, 80, 81, 82, 83, 84] (by decide +kernel) (by decide +kernel)
set_option maxRecDepth 20000 in
theorem gX8_lacks_X2_hasGroup : GoodIn wsX8_lacks (wsV RX8 211 RX2 yX2_hasGroup wsX2_hasGroup) := goodIn_app (goodIn_of _ (by decide +kernel)) ggX8_lacks_X2_hasGroup
set_option maxRecDepth 20000 in
theorem ggX8_lacks_X8_refuse : GoodIn wsX8_lacks wsX8_refuse := goodIn_r _ [19, 20, 21, 13, 14, 15, 60, 61, 62, 63, 64, 65, 66, 67, 68, 69, 70, 71] (by decide +kernel) (by decide +kernel)
set_option maxRecDepth 20000 in
theorem gX8_lacks_X8_refuse : GoodIn wsX8_lacks (wsV RX8 83 RX8 yX8_refuse wsX8_refuse) := goodIn_app (goodIn_of _ (by decide +kernel)) ggX8_lacks_X8_refuse
set_option maxRecDepth 20000 in
theorem ggX8_lacks_X2_agrees : GoodIn wsX8_lacks wsX2_agrees := goodIn_r _ [25, 12, 26, 27, 28, 14, 29, 72, 73, 74, 75, 76, 77, 78, 79, 80, 81, 82, 83, 84] (by decide +kernel) (by decide +kernel)
set_option maxRecDepth 20000 in
theorem gX8_lacks_X2_agrees : GoodIn wsX8_lacks (wsV RX8 278 RX2 yX2_agrees wsX2_agrees) := goodIn_app (goodIn_of _ (by decide +kernel)) ggX8_lacks_X2_agrees
set_option maxRecDepth 20000 in
theorem ggX8_lacks_X2_headsTogether : GoodIn wsX8_lacks wsX2_headsTogether := goodIn_r _ [33, 12, 28, 14, 29, 34, 35, 36, 6, 37, 38, 39, 40, 41, 42, 43, 44, 45, 72, 73, 74, 75, 76, 77, 78, 79, 80, 81, 82, 83, 84] (by decide +kernel) (by decide +kernel)
set_option maxRecDepth 20000 in
theorem gX8_lacks_X2_headsTogether : GoodIn wsX8_lacks (wsV RX8 214 RX2 yX2_headsTogether wsX2_headsTogether) := goodIn_app (goodIn_of _ (by decide +kernel)) ggX8_lacks_X2_headsTogether
set_option maxRecDepth 20000 in
theorem ggX8_lacks_X2_leastHermits : GoodIn wsX8_lacks wsX2_leastHermits := goodIn_r _ [49, 50, 51, 52, 6, 53, 44, 13, 14, 15, 54, 55, 56, 57, 58, 59, 72, 73, 74, 75, 76, 77, 78, 79, 80, 81, 82, 83, 84] (by decide +kernel) (by decide +kernel)
set_option maxRecDepth 20000 in
theorem gX8_lacks_X2_leastHermits : GoodIn wsX8_lacks (wsV RX8 281 RX2 yX2_leastHermits wsX2_leastHermits) := goodIn_app (goodIn_of _ (by decide +kernel)) ggX8_lacks_X2_leastHermits
theorem dX8_lacks_0 : decode cX8_lacks 0 = .ok (.aload_n 0, 1) := by decide +kernel
theorem dX8_lacks_1 : decode cX8_lacks 1 = .ok (.getfield 12, 3) := by decide +kernel
theorem dX8_lacks_4 : decode cX8_lacks 4 = .ok (.iload_n 1, 1) := by decide +kernel
theorem dX8_lacks_5 : decode cX8_lacks 5 = .ok (.invokevirtual 211, 3) := by decide +kernel
theorem dX8_lacks_8 : decode cX8_lacks 8 = .ok (.ifCond .ne 11, 3) := by decide +kernel
theorem dX8_lacks_11 : decode cX8_lacks 11 = .ok (.aload_n 0, 1) := by decide +kernel
theorem dX8_lacks_12 : decode cX8_lacks 12 = .ok (.sipush (-1002), 3) := by decide +kernel
theorem dX8_lacks_15 : decode cX8_lacks 15 = .ok (.invokevirtual 83, 3) := by decide +kernel
theorem dX8_lacks_18 : decode cX8_lacks 18 = .ok (.ireturn, 1) := by decide +kernel
theorem dX8_lacks_19 : decode cX8_lacks 19 = .ok (.aload_n 0, 1) := by decide +kernel
theorem dX8_lacks_20 : decode cX8_lacks 20 = .ok (.getfield 12, 3) := by decide +kernel
theorem dX8_lacks_23 : decode cX8_lacks 23 = .ok (.iload_n 1, 1) := by decide +kernel
theorem dX8_lacks_24 : decode cX8_lacks 24 = .ok (.aload_n 0, 1) := by decide +kernel
theorem dX8_lacks_25 : decode cX8_lacks 25 = .ok (.getfield 12, 3) := by decide +kernel
theorem dX8_lacks_28 : decode cX8_lacks 28 = .ok (.getfield 250, 3) := by decide +kernel
theorem dX8_lacks_31 : decode cX8_lacks 31 = .ok (.invokevirtual 278, 3) := by decide +kernel
theorem dX8_lacks_34 : decode cX8_lacks 34 = .ok (.ifCond .eq 23, 3) := by decide +kernel
theorem dX8_lacks_37 : decode cX8_lacks 37 = .ok (.aload_n 0, 1) := by decide +kernel
theorem dX8_lacks_38 : decode cX8_lacks 38 = .ok (.getfield 12, 3) := by decide +kernel
theorem dX8_lacks_41 : decode cX8_lacks 41 = .ok (.aload_n 0, 1) := by decide +kernel
theorem dX8_lacks_42 : decode cX8_lacks 42 = .ok (.getfield 12, 3) := by decide +kernel
theorem dX8_lacks_45 : decode cX8_lacks 45 = .ok (.iload_n 1, 1) := by decide +kernel
theorem dX8_lacks_46 : decode cX8_lacks 46 = .ok (.invokevirtual 214, 3) := by decide +kernel
theorem dX8_lacks_49 : decode cX8_lacks 49 = .ok (.bipush 99, 2) := by decide +kernel
theorem dX8_lacks_51 : decode cX8_lacks 51 = .ok (.invokevirtual 281, 3) := by decide +kernel
theorem dX8_lacks_54 : decode cX8_lacks 54 = .ok (.goto 4, 3) := by decide +kernel
theorem dX8_lacks_57 : decode cX8_lacks 57 = .ok (.iconst (-1), 1) := by decide +kernel
theorem dX8_lacks_58 : decode cX8_lacks 58 = .ok (.ireturn, 1) := by decide +kernel
set_option maxRecDepth 20000 in
theorem ggX8_fullest_X8_within : GoodIn wsX8_fullest wsX8_within := goodIn_r _ [5] (by decide +kernel) (by decide +kernel)
set_option maxRecDepth 20000 in
theorem gX8_fullest_X8_within : GoodIn wsX8_fullest (va_wsS RX8 79 yX8_within wsX8_within) := goodIn_app (goodIn_of _ (by decide +kernel)) ggX8_fullest_X8_within
set_option maxRecDepth 20000 in
theorem ggX8_fullest_X8_refuse : GoodIn wsX8_fullest wsX8_refuse := goodIn_r _ [9, 10, 2, 3, 4, 5, 65, 66, 67, 68, 69, 70, 71, 72, 73, 74, 75, 76] (by decide +kernel) (by decide +kernel)
set_option maxRecDepth 20000 in
theorem gX8_fullest_X8_refuse : GoodIn wsX8_fullest (wsV RX8 83 RX8 yX8_refuse wsX8_refuse) := goodIn_app (goodIn_of _ (by decide +kernel)) ggX8_fullest_X8_refuse
set_option maxRecDepth 20000 in
theorem ggX8_fullest_X2_everybody : GoodIn wsX8_fullest wsX2_everybody := goodIn_r _ [15, 16, 77, 78, 79, 80, 81, 82, 83, 84, 85, 86, 87, 88, 89] (by decide +kernel) (by decide +kernel)
set_option maxRecDepth 20000 in
theorem gX8_fullest_X2_everybody : GoodIn wsX8_fullest (wsV RX8 223 RX2 yX2_everybody wsX2_everybody) := goodIn_app (goodIn_of _ (by decide +kernel)) ggX8_fullest_X2_everybody
set_option maxRecDepth 20000 in
theorem ggX8_fullest_X2_hireNow : GoodIn wsX8_fullest wsX2_hireNow := goodIn_r _ [20, 21, 22, 23, 24, 14, 25, 26, 27, 28, 29, 30, 16, 31, 32, 33, 4, 34, 35, 36, 37, 38, 39, 40, 41, 42, 43, 44, 45, 46, 47, 48, 49, 50, 51, 52, 53, 54, 55, 56, 57, 3, 5, 58, 59, 60, 61, 62, 63, 77, 78, 79, 80, 81, 82, 83, 84, 85, 86, 87, 88, 89] (by decide +kernel) (by decide +kernel)
set_option maxRecDepth 20000 in
theorem gX8_fullest_X2_hireNow : GoodIn wsX8_fullest (wsV RX8 220 RX2 yX2_hireNow wsX2_hireNow) := goodIn_app (goodIn_of _ (by decide +kernel)) ggX8_fullest_X2_hireNow
set_option maxRecDepth 20000 in
theorem ggX8_fullest_X2_headsTogether : GoodIn wsX8_fullest wsX2_headsTogether := goodIn_r _ [38, 16, 33, 4, 34, 39, 40, 41, 14, 42, 43, 44, 45, 46, 47, 48, 26, 49, 77, 78, 79, 80, 81, 82, 83, 84, 85, 86, 87, 88, 89] (by decide +kernel) (by decide +kernel)
set_option maxRecDepth 20000 in
theorem gX8_fullest_X2_headsTogether : GoodIn wsX8_fullest (wsV RX8 214 RX2 yX2_headsTogether wsX2_headsTogether) := goodIn_app (goodIn_of _ (by decide +kernel)) ggX8_fullest_X2_headsTogether
theorem dX8_fullest_0 : decode cX8_fullest 0 = .ok (.iload_n 1, 1) := by decide +kernel
theorem dX8_fullest_1 : decode cX8_fullest 1 = .ok (.iconst 0, 1) := by decide +kernel
theorem dX8_fullest_2 : decode cX8_fullest 2 = .ok (.iconst 1, 1) := by decide +kernel
theorem dX8_fullest_3 : decode cX8_fullest 3 = .ok (.invokestatic 79, 3) := by decide +kernel
theorem dX8_fullest_6 : decode cX8_fullest 6 = .ok (.ifCond .ne 11, 3) := by decide +kernel
theorem dX8_fullest_9 : decode cX8_fullest 9 = .ok (.aload_n 0, 1) := by decide +kernel
theorem dX8_fullest_10 : decode cX8_fullest 10 = .ok (.sipush (-1002), 3) := by decide +kernel
theorem dX8_fullest_13 : decode cX8_fullest 13 = .ok (.invokevirtual 83, 3) := by decide +kernel
theorem dX8_fullest_16 : decode cX8_fullest 16 = .ok (.ireturn, 1) := by decide +kernel
theorem dX8_fullest_17 : decode cX8_fullest 17 = .ok (.iconst (-1), 1) := by decide +kernel
theorem dX8_fullest_18 : decode cX8_fullest 18 = .ok (.istore_n 2, 1) := by decide +kernel
theorem dX8_fullest_19 : decode cX8_fullest 19 = .ok (.iconst (-1), 1) := by decide +kernel
theorem dX8_fullest_20 : decode cX8_fullest 20 = .ok (.istore_n 3, 1) := by decide +kernel
theorem dX8_fullest_21 : decode cX8_fullest 21 = .ok (.iconst 1, 1) := by decide +kernel
theorem dX8_fullest_22 : decode cX8_fullest 22 = .ok (.istore 4, 2) := by decide +kernel
theorem dX8_fullest_24 : decode cX8_fullest 24 = .ok (.iload 4, 2) := by decide +kernel
theorem dX8_fullest_26 : decode cX8_fullest 26 = .ok (.aload_n 0, 1) := by decide +kernel
theorem dX8_fullest_27 : decode cX8_fullest 27 = .ok (.getfield 12, 3) := by decide +kernel
theorem dX8_fullest_30 : decode cX8_fullest 30 = .ok (.invokevirtual 223, 3) := by decide +kernel
theorem dX8_fullest_33 : decode cX8_fullest 33 = .ok (.if_icmp .gt 48, 3) := by decide +kernel
theorem dX8_fullest_36 : decode cX8_fullest 36 = .ok (.aload_n 0, 1) := by decide +kernel
theorem dX8_fullest_37 : decode cX8_fullest 37 = .ok (.getfield 12, 3) := by decide +kernel
theorem dX8_fullest_40 : decode cX8_fullest 40 = .ok (.iload 4, 2) := by decide +kernel
theorem dX8_fullest_42 : decode cX8_fullest 42 = .ok (.invokevirtual 220, 3) := by decide +kernel
theorem dX8_fullest_45 : decode cX8_fullest 45 = .ok (.iconst (-1), 1) := by decide +kernel
theorem dX8_fullest_46 : decode cX8_fullest 46 = .ok (.if_icmp .eq 29, 3) := by decide +kernel
theorem dX8_fullest_49 : decode cX8_fullest 49 = .ok (.aload_n 0, 1) := by decide +kernel
theorem dX8_fullest_50 : decode cX8_fullest 50 = .ok (.getfield 12, 3) := by decide +kernel
theorem dX8_fullest_53 : decode cX8_fullest 53 = .ok (.iload 4, 2) := by decide +kernel
theorem dX8_fullest_55 : decode cX8_fullest 55 = .ok (.invokevirtual 214, 3) := by decide +kernel
theorem dX8_fullest_58 : decode cX8_fullest 58 = .ok (.iload_n 3, 1) := by decide +kernel
theorem dX8_fullest_59 : decode cX8_fullest 59 = .ok (.if_icmp .le 16, 3) := by decide +kernel
theorem dX8_fullest_62 : decode cX8_fullest 62 = .ok (.iload 4, 2) := by decide +kernel
theorem dX8_fullest_64 : decode cX8_fullest 64 = .ok (.istore_n 2, 1) := by decide +kernel
theorem dX8_fullest_65 : decode cX8_fullest 65 = .ok (.aload_n 0, 1) := by decide +kernel
theorem dX8_fullest_66 : decode cX8_fullest 66 = .ok (.getfield 12, 3) := by decide +kernel
theorem dX8_fullest_69 : decode cX8_fullest 69 = .ok (.iload 4, 2) := by decide +kernel
theorem dX8_fullest_71 : decode cX8_fullest 71 = .ok (.invokevirtual 214, 3) := by decide +kernel
theorem dX8_fullest_74 : decode cX8_fullest 74 = .ok (.istore_n 3, 1) := by decide +kernel
theorem dX8_fullest_75 : decode cX8_fullest 75 = .ok (.iinc 4 1, 3) := by decide +kernel
theorem dX8_fullest_78 : decode cX8_fullest 78 = .ok (.goto (-54), 3) := by decide +kernel
theorem dX8_fullest_81 : decode cX8_fullest 81 = .ok (.iload_n 1, 1) := by decide +kernel
theorem dX8_fullest_82 : decode cX8_fullest 82 = .ok (.ifCond .ne 7, 3) := by decide +kernel
theorem dX8_fullest_85 : decode cX8_fullest 85 = .ok (.iload_n 2, 1) := by decide +kernel
theorem dX8_fullest_86 : decode cX8_fullest 86 = .ok (.goto 4, 3) := by decide +kernel
theorem dX8_fullest_89 : decode cX8_fullest 89 = .ok (.iload_n 3, 1) := by decide +kernel
theorem dX8_fullest_90 : decode cX8_fullest 90 = .ok (.ireturn, 1) := by decide +kernel
set_option maxRecDepth 20000 in
theorem ggX8_cheapest_X8_waiterTrouble : GoodIn wsX8_cheapest wsX8_waiterTrouble := goodIn_r _ [6, 1, 7, 8, 9, 10, 11, 12, 13, 5, 14, 15, 16, 17, 18, 19, 20, 21, 77, 78, 79, 80, 81, 82, 83, 84, 85, 86, 87, 88, 89, 90, 91, 92, 93, 94, 95, 96, 97, 98, 99, 100, 101] (by decide +kernel) (by decide +kernel)
set_option maxRecDepth 20000 in
theorem gX8_cheapest_X8_waiterTrouble : GoodIn wsX8_cheapest (wsV RX8 229 RX8 yX8_waiterTrouble wsX8_waiterTrouble) := goodIn_app (goodIn_of _ (by decide +kernel)) ggX8_cheapest_X8_waiterTrouble
set_option maxRecDepth 20000 in
theorem ggX8_cheapest_X8_refuse : GoodIn wsX8_cheapest wsX8_refuse := goodIn_r _ [25, 26, 27, 13, 5, 14, 77, 78, 79, 80, 81, 82, 83, 84, 85, 86, 87, 88] (by decide +kernel) (by decide +kernel)
set_option maxRecDepth 20000 in
theorem gX8_cheapest_X8_refuse : GoodIn wsX8_cheapest (wsV RX8 83 RX8 yX8_refuse wsX8_refuse) := goodIn_app (goodIn_of _ (by decide +kernel)) ggX8_cheapest_X8_refuse
set_option maxRecDepth 20000 in
theorem ggX8_cheapest_X2_everybody : GoodIn wsX8_cheapest wsX2_everybody := goodIn_r _ [31, 12, 89, 90, 91, 92, 93, 94, 95, 96, 97, 98, 99, 100, 101] (by decide +kernel) (by decide +kernel)
set_option maxRecDepth 20000 in
theorem gX8_cheapest_X2_everybody : GoodIn wsX8_cheapest (wsV RX8 223 RX2 yX2_everybody wsX2_everybody) := goodIn_app (goodIn_of _ (by decide +kernel)) ggX8_cheapest_X2_everybody
set_option maxRecDepth 20000 in
theorem ggX8_cheapest_X8_has : GoodIn wsX8_cheapest wsX8_has := goodIn_r _ [21] (by decide +kernel) (by decide +kernel)
set_option maxRecDepth 20000 in
theorem gX8_cheapest_X8_has : GoodIn wsX8_cheapest (va_wsS RX8 284 yX8_has wsX8_has) := goodIn_app (goodIn_of _ (by decide +kernel)) ggX8_cheapest_X8_has
set_option maxRecDepth 20000 in
theorem ggX8_cheapest_X2_hireNow : GoodIn wsX8_cheapest wsX2_hireNow := goodIn_r _ [36, 19, 37, 38, 39, 10, 40, 41, 42, 43, 44, 45, 12, 46, 47, 20, 5, 21, 48, 49, 50, 51, 52, 53, 54, 55, 56, 57, 58, 59, 60, 61, 62, 63, 64, 65, 66, 67, 68, 69, 70, 13, 14, 71, 72, 73, 74, 75, 76, 89, 90, 91, 92, 93, 94, 95, 96, 97, 98, 99, 100, 101] (by decide +kernel) (by decide +kernel)
set_option maxRecDepth 20000 in
theorem gX8_cheapest_X2_hireNow : GoodIn wsX8_cheapest (wsV RX8 220 RX2 yX2_hireNow wsX2_hireNow) := goodIn_app (goodIn_of _ (by decide +kernel)) ggX8_cheapest_X2_hireNow
theorem dX8_cheapest_0 : decode cX8_cheapest 0 = .ok (.aload_n 0, 1) := by decide +kernel
theorem dX8_cheapest_1 : decode cX8_cheapest 1 = .ok (.iload_n 1, 1) := by decide +kernel
theorem dX8_cheapest_2 : decode cX8_cheapest 2 = .ok (.invokevirtual 229, 3) := by decide +kernel
theorem dX8_cheapest_5 : decode cX8_cheapest 5 = .ok (.istore_n 2, 1) := by decide +kernel
theorem dX8_cheapest_6 : decode cX8_cheapest 6 = .ok (.iload_n 2, 1) := by decide +kernel
theorem dX8_cheapest_7 : decode cX8_cheapest 7 = .ok (.ifCond .eq 9, 3) := by decide +kernel
theorem dX8_cheapest_10 : decode cX8_cheapest 10 = .ok (.aload_n 0, 1) := by decide +kernel
theorem dX8_cheapest_11 : decode cX8_cheapest 11 = .ok (.iload_n 2, 1) := by decide +kernel
theorem dX8_cheapest_12 : decode cX8_cheapest 12 = .ok (.invokevirtual 83, 3) := by decide +kernel
theorem dX8_cheapest_15 : decode cX8_cheapest 15 = .ok (.ireturn, 1) := by decide +kernel
theorem dX8_cheapest_16 : decode cX8_cheapest 16 = .ok (.iconst (-1), 1) := by decide +kernel
theorem dX8_cheapest_17 : decode cX8_cheapest 17 = .ok (.istore_n 3, 1) := by decide +kernel
theorem dX8_cheapest_18 : decode cX8_cheapest 18 = .ok (.iconst (-1), 1) := by decide +kernel
theorem dX8_cheapest_19 : decode cX8_cheapest 19 = .ok (.istore 4, 2) := by decide +kernel
theorem dX8_cheapest_21 : decode cX8_cheapest 21 = .ok (.iconst 1, 1) := by decide +kernel
theorem dX8_cheapest_22 : decode cX8_cheapest 22 = .ok (.istore 5, 2) := by decide +kernel
theorem dX8_cheapest_24 : decode cX8_cheapest 24 = .ok (.iload 5, 2) := by decide +kernel
theorem dX8_cheapest_26 : decode cX8_cheapest 26 = .ok (.aload_n 0, 1) := by decide +kernel
theorem dX8_cheapest_27 : decode cX8_cheapest 27 = .ok (.getfield 12, 3) := by decide +kernel
theorem dX8_cheapest_30 : decode cX8_cheapest 30 = .ok (.invokevirtual 223, 3) := by decide +kernel
theorem dX8_cheapest_33 : decode cX8_cheapest 33 = .ok (.if_icmp .gt 58, 3) := by decide +kernel
theorem dX8_cheapest_36 : decode cX8_cheapest 36 = .ok (.iload 5, 2) := by decide +kernel
theorem dX8_cheapest_38 : decode cX8_cheapest 38 = .ok (.iload_n 1, 1) := by decide +kernel
theorem dX8_cheapest_39 : decode cX8_cheapest 39 = .ok (.invokestatic 284, 3) := by decide +kernel
theorem dX8_cheapest_42 : decode cX8_cheapest 42 = .ok (.ifCond .eq 15, 3) := by decide +kernel
theorem dX8_cheapest_45 : decode cX8_cheapest 45 = .ok (.aload_n 0, 1) := by decide +kernel
theorem dX8_cheapest_46 : decode cX8_cheapest 46 = .ok (.getfield 12, 3) := by decide +kernel
theorem dX8_cheapest_49 : decode cX8_cheapest 49 = .ok (.iload 5, 2) := by decide +kernel
theorem dX8_cheapest_51 : decode cX8_cheapest 51 = .ok (.invokevirtual 220, 3) := by decide +kernel
theorem dX8_cheapest_54 : decode cX8_cheapest 54 = .ok (.goto 4, 3) := by decide +kernel
theorem dX8_cheapest_57 : decode cX8_cheapest 57 = .ok (.iconst (-1), 1) := by decide +kernel
theorem dX8_cheapest_58 : decode cX8_cheapest 58 = .ok (.istore 6, 2) := by decide +kernel
theorem dX8_cheapest_60 : decode cX8_cheapest 60 = .ok (.iload 6, 2) := by decide +kernel
theorem dX8_cheapest_62 : decode cX8_cheapest 62 = .ok (.iconst (-1), 1) := by decide +kernel
theorem dX8_cheapest_63 : decode cX8_cheapest 63 = .ok (.if_icmp .eq 22, 3) := by decide +kernel
theorem dX8_cheapest_66 : decode cX8_cheapest 66 = .ok (.iload_n 3, 1) := by decide +kernel
theorem dX8_cheapest_67 : decode cX8_cheapest 67 = .ok (.iconst (-1), 1) := by decide +kernel
theorem dX8_cheapest_68 : decode cX8_cheapest 68 = .ok (.if_icmp .eq 10, 3) := by decide +kernel
theorem dX8_cheapest_71 : decode cX8_cheapest 71 = .ok (.iload 6, 2) := by decide +kernel
theorem dX8_cheapest_73 : decode cX8_cheapest 73 = .ok (.iload 4, 2) := by decide +kernel
theorem dX8_cheapest_75 : decode cX8_cheapest 75 = .ok (.if_icmp .ge 10, 3) := by decide +kernel
theorem dX8_cheapest_78 : decode cX8_cheapest 78 = .ok (.iload 5, 2) := by decide +kernel
theorem dX8_cheapest_80 : decode cX8_cheapest 80 = .ok (.istore_n 3, 1) := by decide +kernel
theorem dX8_cheapest_81 : decode cX8_cheapest 81 = .ok (.iload 6, 2) := by decide +kernel
theorem dX8_cheapest_83 : decode cX8_cheapest 83 = .ok (.istore 4, 2) := by decide +kernel
theorem dX8_cheapest_85 : decode cX8_cheapest 85 = .ok (.iinc 5 1, 3) := by decide +kernel
theorem dX8_cheapest_88 : decode cX8_cheapest 88 = .ok (.goto (-64), 3) := by decide +kernel
theorem dX8_cheapest_91 : decode cX8_cheapest 91 = .ok (.iload_n 3, 1) := by decide +kernel
theorem dX8_cheapest_92 : decode cX8_cheapest 92 = .ok (.ireturn, 1) := by decide +kernel
set_option maxRecDepth 20000 in
theorem ggX8_knot_X2_hasParty : GoodIn wsX8_knot wsX2_hasParty := goodIn_r _ [6, 7, 8, 9, 10, 36, 37, 38, 39, 40, 41, 42, 43, 44, 45, 46, 47, 48] (by decide +kernel) (by decide +kernel)
set_option maxRecDepth 20000 in
theorem gX8_knot_X2_hasParty : GoodIn wsX8_knot (wsV RX8 127 RX2 yX2_hasParty wsX2_hasParty) := goodIn_app (goodIn_of _ (by decide +kernel)) ggX8_knot_X2_hasParty
set_option maxRecDepth 20000 in
theorem ggX8_knot_X2_knotOf : GoodIn wsX8_knot wsX2_knotOf := goodIn_r _ [14, 7, 15, 16, 9, 17, 36, 37, 38, 39, 40, 41, 42, 43, 44, 45, 46, 47, 48] (by decide +kernel) (by decide +kernel)
set_option maxRecDepth 20000 in
theorem gX8_knot_X2_knotOf : GoodIn wsX8_knot (wsV RX8 287 RX2 yX2_knotOf wsX2_knotOf) := goodIn_app (goodIn_of _ (by decide +kernel)) ggX8_knot_X2_knotOf
set_option maxRecDepth 20000 in
theorem ggX8_knot_X8_refuse : GoodIn wsX8_knot wsX8_refuse := goodIn_r _ [21, 22, 23, 8, 9, 10, 24, 25, 26, 27, 28, 29, 30, 31, 32, 33, 34, 35] (by decide +kernel) (by decide +kernel)
set_option maxRecDepth 20000 in
theorem gX8_knot_X8_refuse : GoodIn wsX8_knot (wsV RX8 83 RX8 yX8_refuse wsX8_refuse) := goodIn_app (goodIn_of _ (by decide +kernel)) ggX8_knot_X8_refuse
theorem dX8_knot_0 : decode cX8_knot 0 = .ok (.aload_n 0, 1) := by decide +kernel
theorem dX8_knot_1 : decode cX8_knot 1 = .ok (.getfield 12, 3) := by decide +kernel
theorem dX8_knot_4 : decode cX8_knot 4 = .ok (.iload_n 1, 1) := by decide +kernel
theorem dX8_knot_5 : decode cX8_knot 5 = .ok (.invokevirtual 127, 3) := by decide +kernel
theorem dX8_knot_8 : decode cX8_knot 8 = .ok (.ifCond .eq 14, 3) := by decide +kernel
theorem dX8_knot_11 : decode cX8_knot 11 = .ok (.aload_n 0, 1) := by decide +kernel
theorem dX8_knot_12 : decode cX8_knot 12 = .ok (.getfield 12, 3) := by decide +kernel
theorem dX8_knot_15 : decode cX8_knot 15 = .ok (.iload_n 1, 1) := by decide +kernel
theorem dX8_knot_16 : decode cX8_knot 16 = .ok (.invokevirtual 287, 3) := by decide +kernel
theorem dX8_knot_19 : decode cX8_knot 19 = .ok (.goto 10, 3) := by decide +kernel
theorem dX8_knot_22 : decode cX8_knot 22 = .ok (.aload_n 0, 1) := by decide +kernel
theorem dX8_knot_23 : decode cX8_knot 23 = .ok (.sipush (-1002), 3) := by decide +kernel
theorem dX8_knot_26 : decode cX8_knot 26 = .ok (.invokevirtual 83, 3) := by decide +kernel
theorem dX8_knot_29 : decode cX8_knot 29 = .ok (.ireturn, 1) := by decide +kernel
set_option maxRecDepth 20000 in
theorem ggX8_torn_X2_knotOf : GoodIn wsX8_torn wsX2_knotOf := goodIn_r _ [8, 9, 10, 11, 12, 13, 26, 27, 28, 29, 30, 31, 32, 33, 34, 35, 36, 37, 38] (by decide +kernel) (by decide +kernel)
set_option maxRecDepth 20000 in
theorem gX8_torn_X2_knotOf : GoodIn wsX8_torn (wsV RX8 287 RX2 yX2_knotOf wsX2_knotOf) := goodIn_app (goodIn_of _ (by decide +kernel)) ggX8_torn_X2_knotOf
theorem dX8_torn_0 : decode cX8_torn 0 = .ok (.iconst 0, 1) := by decide +kernel
theorem dX8_torn_1 : decode cX8_torn 1 = .ok (.istore_n 1, 1) := by decide +kernel
theorem dX8_torn_2 : decode cX8_torn 2 = .ok (.iload_n 1, 1) := by decide +kernel
theorem dX8_torn_3 : decode cX8_torn 3 = .ok (.aload_n 0, 1) := by decide +kernel
theorem dX8_torn_4 : decode cX8_torn 4 = .ok (.getfield 12, 3) := by decide +kernel
theorem dX8_torn_7 : decode cX8_torn 7 = .ok (.getfield 232, 3) := by decide +kernel
theorem dX8_torn_10 : decode cX8_torn 10 = .ok (.if_icmp .ge 32, 3) := by decide +kernel
theorem dX8_torn_13 : decode cX8_torn 13 = .ok (.aload_n 0, 1) := by decide +kernel
theorem dX8_torn_14 : decode cX8_torn 14 = .ok (.getfield 12, 3) := by decide +kernel
theorem dX8_torn_17 : decode cX8_torn 17 = .ok (.getfield 208, 3) := by decide +kernel
theorem dX8_torn_20 : decode cX8_torn 20 = .ok (.iload_n 1, 1) := by decide +kernel
theorem dX8_torn_21 : decode cX8_torn 21 = .ok (.iaload, 1) := by decide +kernel
theorem dX8_torn_22 : decode cX8_torn 22 = .ok (.aload_n 0, 1) := by decide +kernel
theorem dX8_torn_23 : decode cX8_torn 23 = .ok (.getfield 12, 3) := by decide +kernel
theorem dX8_torn_26 : decode cX8_torn 26 = .ok (.iload_n 1, 1) := by decide +kernel
theorem dX8_torn_27 : decode cX8_torn 27 = .ok (.invokevirtual 287, 3) := by decide +kernel
theorem dX8_torn_30 : decode cX8_torn 30 = .ok (.iand, 1) := by decide +kernel
theorem dX8_torn_31 : decode cX8_torn 31 = .ok (.ifCond .eq 5, 3) := by decide +kernel
theorem dX8_torn_34 : decode cX8_torn 34 = .ok (.iconst 1, 1) := by decide +kernel
theorem dX8_torn_35 : decode cX8_torn 35 = .ok (.ireturn, 1) := by decide +kernel
theorem dX8_torn_36 : decode cX8_torn 36 = .ok (.iinc 1 1, 3) := by decide +kernel
theorem dX8_torn_39 : decode cX8_torn 39 = .ok (.goto (-37), 3) := by decide +kernel
theorem dX8_torn_42 : decode cX8_torn 42 = .ok (.iconst 0, 1) := by decide +kernel
theorem dX8_torn_43 : decode cX8_torn 43 = .ok (.ireturn, 1) := by decide +kernel
set_option maxRecDepth 20000 in
theorem ggX8_fit_X8_waiterTrouble : GoodIn wsX8_fit wsX8_waiterTrouble := goodIn_r _ [7, 1, 8, 9, 10, 11, 12, 13, 14, 6, 15, 16, 17, 18, 19, 20, 21, 22, 52, 53, 54, 55, 56, 57, 58, 59, 60, 61, 62, 63, 64, 65, 66, 67, 68, 69, 70, 71, 72, 73, 74, 75, 76] (by decide +kernel) (by decide +kernel)
set_option maxRecDepth 20000 in
theorem gX8_fit_X8_waiterTrouble : GoodIn wsX8_fit (wsV RX8 229 RX8 yX8_waiterTrouble wsX8_waiterTrouble) := goodIn_app (goodIn_of _ (by decide +kernel)) ggX8_fit_X8_waiterTrouble
set_option maxRecDepth 20000 in
theorem ggX8_fit_X8_refuse : GoodIn wsX8_fit wsX8_refuse := goodIn_r _ [26, 27, 28, 14, 6, 15, 52, 53, 54, 55, 56, 57, 58, 59, 60, 61, 62, 63] (by decide +kernel) (by decide +kernel)
set_option maxRecDepth 20000 in
theorem gX8_fit_X8_refuse : GoodIn wsX8_fit (wsV RX8 83 RX8 yX8_refuse wsX8_refuse) := goodIn_app (goodIn_of _ (by decide +kernel)) ggX8_fit_X8_refuse
set_option maxRecDepth 20000 in
theorem ggX8_fit_X2_agrees : GoodIn wsX8_fit wsX2_agrees := goodIn_r _ [32, 13, 33, 34, 21, 6, 22, 64, 65, 66, 67, 68, 69, 70, 71, 72, 73, 74, 75, 76] (by decide +kernel) (by decide +kernel)
set_option maxRecDepth 20000 in
theorem gX8_fit_X2_agrees : GoodIn wsX8_fit (wsV RX8 278 RX2 yX2_agrees wsX2_agrees) := goodIn_app (goodIn_of _ (by decide +kernel)) ggX8_fit_X2_agrees
set_option maxRecDepth 20000 in
theorem ggX8_fit_X2_headsIf : GoodIn wsX8_fit wsX2_headsIf := goodIn_r _ [38, 39, 40, 41, 64, 65, 66, 67, 68, 69, 70, 71, 72, 73, 74, 75, 76] (by decide +kernel) (by decide +kernel)
set_option maxRecDepth 20000 in
theorem gX8_fit_X2_headsIf : GoodIn wsX8_fit (wsV RX8 290 RX2 yX2_headsIf wsX2_headsIf) := goodIn_app (goodIn_of _ (by decide +kernel)) ggX8_fit_X2_headsIf
set_option maxRecDepth 20000 in
theorem ggX8_fit_X2_lets : GoodIn wsX8_fit wsX2_lets := goodIn_r _ [45, 40, 14, 6, 15, 46, 47, 11, 48, 49, 50, 51, 64, 65, 66, 67, 68, 69, 70, 71, 72, 73, 74, 75, 76] (by decide +kernel) (by decide +kernel)
set_option maxRecDepth 20000 in
theorem gX8_fit_X2_lets : GoodIn wsX8_fit (wsV RX8 217 RX2 yX2_lets wsX2_lets) := goodIn_app (goodIn_of _ (by decide +kernel)) ggX8_fit_X2_lets
theorem dX8_fit_0 : decode cX8_fit 0 = .ok (.aload_n 0, 1) := by decide +kernel
theorem dX8_fit_1 : decode cX8_fit 1 = .ok (.iload_n 1, 1) := by decide +kernel
theorem dX8_fit_2 : decode cX8_fit 2 = .ok (.invokevirtual 229, 3) := by decide +kernel
theorem dX8_fit_5 : decode cX8_fit 5 = .ok (.istore_n 2, 1) := by decide +kernel
theorem dX8_fit_6 : decode cX8_fit 6 = .ok (.iload_n 2, 1) := by decide +kernel
theorem dX8_fit_7 : decode cX8_fit 7 = .ok (.ifCond .eq 9, 3) := by decide +kernel
theorem dX8_fit_10 : decode cX8_fit 10 = .ok (.aload_n 0, 1) := by decide +kernel
theorem dX8_fit_11 : decode cX8_fit 11 = .ok (.iload_n 2, 1) := by decide +kernel
theorem dX8_fit_12 : decode cX8_fit 12 = .ok (.invokevirtual 83, 3) := by decide +kernel
theorem dX8_fit_15 : decode cX8_fit 15 = .ok (.ireturn, 1) := by decide +kernel
theorem dX8_fit_16 : decode cX8_fit 16 = .ok (.aload_n 0, 1) := by decide +kernel
theorem dX8_fit_17 : decode cX8_fit 17 = .ok (.getfield 12, 3) := by decide +kernel
theorem dX8_fit_20 : decode cX8_fit 20 = .ok (.iconst 1, 1) := by decide +kernel
theorem dX8_fit_21 : decode cX8_fit 21 = .ok (.iload_n 1, 1) := by decide +kernel
theorem dX8_fit_22 : decode cX8_fit 22 = .ok (.ishl, 1) := by decide +kernel
theorem dX8_fit_23 : decode cX8_fit 23 = .ok (.aload_n 0, 1) := by decide +kernel
theorem dX8_fit_24 : decode cX8_fit 24 = .ok (.getfield 12, 3) := by decide +kernel
theorem dX8_fit_27 : decode cX8_fit 27 = .ok (.getfield 250, 3) := by decide +kernel
theorem dX8_fit_30 : decode cX8_fit 30 = .ok (.invokevirtual 278, 3) := by decide +kernel
theorem dX8_fit_33 : decode cX8_fit 33 = .ok (.ifCond .ne 5, 3) := by decide +kernel
theorem dX8_fit_36 : decode cX8_fit 36 = .ok (.iconst (-1), 1) := by decide +kernel
theorem dX8_fit_37 : decode cX8_fit 37 = .ok (.ireturn, 1) := by decide +kernel
theorem dX8_fit_38 : decode cX8_fit 38 = .ok (.iconst 1, 1) := by decide +kernel
theorem dX8_fit_39 : decode cX8_fit 39 = .ok (.istore_n 3, 1) := by decide +kernel
theorem dX8_fit_40 : decode cX8_fit 40 = .ok (.iload_n 3, 1) := by decide +kernel
theorem dX8_fit_41 : decode cX8_fit 41 = .ok (.bipush 40, 2) := by decide +kernel
theorem dX8_fit_43 : decode cX8_fit 43 = .ok (.if_icmp .gt 30, 3) := by decide +kernel
theorem dX8_fit_46 : decode cX8_fit 46 = .ok (.aload_n 0, 1) := by decide +kernel
theorem dX8_fit_47 : decode cX8_fit 47 = .ok (.getfield 12, 3) := by decide +kernel
theorem dX8_fit_50 : decode cX8_fit 50 = .ok (.aload_n 0, 1) := by decide +kernel
theorem dX8_fit_51 : decode cX8_fit 51 = .ok (.getfield 12, 3) := by decide +kernel
theorem dX8_fit_54 : decode cX8_fit 54 = .ok (.iload_n 1, 1) := by decide +kernel
theorem dX8_fit_55 : decode cX8_fit 55 = .ok (.iload_n 3, 1) := by decide +kernel
theorem dX8_fit_56 : decode cX8_fit 56 = .ok (.invokevirtual 290, 3) := by decide +kernel
theorem dX8_fit_59 : decode cX8_fit 59 = .ok (.invokevirtual 217, 3) := by decide +kernel
theorem dX8_fit_62 : decode cX8_fit 62 = .ok (.ifCond .eq 5, 3) := by decide +kernel
theorem dX8_fit_65 : decode cX8_fit 65 = .ok (.iload_n 3, 1) := by decide +kernel
theorem dX8_fit_66 : decode cX8_fit 66 = .ok (.ireturn, 1) := by decide +kernel
theorem dX8_fit_67 : decode cX8_fit 67 = .ok (.iinc 3 1, 3) := by decide +kernel
theorem dX8_fit_70 : decode cX8_fit 70 = .ok (.goto (-30), 3) := by decide +kernel
theorem dX8_fit_73 : decode cX8_fit 73 = .ok (.iconst (-1), 1) := by decide +kernel
theorem dX8_fit_74 : decode cX8_fit 74 = .ok (.ireturn, 1) := by decide +kernel
set_option maxRecDepth 20000 in
theorem ggX8_fare_X2_hasGroup : GoodIn wsX8_fare wsX2_hasGroup := goodIn_r _ [7, 8, 9, 10, 6, 11, 12, 13, 14, 15, 81, 82, 83, 84, 85, 86, 87, 88, 89, 90, 91, 92, 93] (by decide +kernel) (by decide +kernel)
set_option maxRecDepth 20000 in
theorem gX8_fare_X2_hasGroup : GoodIn wsX8_fare (wsV RX8 211 RX2 yX2_hasGroup wsX2_hasGroup) := goodIn_app (goodIn_of _ (by decide +kernel)) ggX8_fare_X2_hasGroup
set_option maxRecDepth 20000 in
theorem ggX8_fare_X8_refuse : GoodIn wsX8_fare wsX8_refuse := goodIn_r _ [19, 20, 21, 13, 14, 15, 69, 70, 71, 72, 73, 74, 75, 76, 77, 78, 79, 80] (by decide +kernel) (by decide +kernel)
set_option maxRecDepth 20000 in
theorem gX8_fare_X8_refuse : GoodIn wsX8_fare (wsV RX8 83 RX8 yX8_refuse wsX8_refuse) := goodIn_app (goodIn_of _ (by decide +kernel)) ggX8_fare_X8_refuse
set_option maxRecDepth 20000 in
theorem ggX8_fare_X2_hireNow : GoodIn wsX8_fare wsX2_hireNow := goodIn_r _ [25, 26, 27, 28, 29, 6, 30, 31, 32, 33, 34, 35, 12, 36, 37, 38, 14, 39, 40, 41, 42, 43, 44, 45, 46, 47, 48, 49, 50, 51, 52, 53, 54, 55, 56, 57, 58, 59, 60, 61, 62, 13, 15, 63, 64, 65, 66, 67, 68, 81, 82, 83, 84, 85, 86, 87, 88, 89, 90, 91, 92, 93] (by decide +kernel) (by decide +kernel)
set_option maxRecDepth 20000 in
theorem gX8_fare_X2_hireNow : GoodIn wsX8_fare (wsV RX8 220 RX2 yX2_hireNow wsX2_hireNow) := goodIn_app (goodIn_of _ (by decide +kernel)) ggX8_fare_X2_hireNow
theorem dX8_fare_0 : decode cX8_fare 0 = .ok (.aload_n 0, 1) := by decide +kernel
theorem dX8_fare_1 : decode cX8_fare 1 = .ok (.getfield 12, 3) := by decide +kernel
theorem dX8_fare_4 : decode cX8_fare 4 = .ok (.iload_n 1, 1) := by decide +kernel
theorem dX8_fare_5 : decode cX8_fare 5 = .ok (.invokevirtual 211, 3) := by decide +kernel
theorem dX8_fare_8 : decode cX8_fare 8 = .ok (.ifCond .ne 11, 3) := by decide +kernel
theorem dX8_fare_11 : decode cX8_fare 11 = .ok (.aload_n 0, 1) := by decide +kernel
theorem dX8_fare_12 : decode cX8_fare 12 = .ok (.sipush (-1002), 3) := by decide +kernel
theorem dX8_fare_15 : decode cX8_fare 15 = .ok (.invokevirtual 83, 3) := by decide +kernel
theorem dX8_fare_18 : decode cX8_fare 18 = .ok (.ireturn, 1) := by decide +kernel
theorem dX8_fare_19 : decode cX8_fare 19 = .ok (.aload_n 0, 1) := by decide +kernel
theorem dX8_fare_20 : decode cX8_fare 20 = .ok (.getfield 12, 3) := by decide +kernel
theorem dX8_fare_23 : decode cX8_fare 23 = .ok (.iload_n 1, 1) := by decide +kernel
theorem dX8_fare_24 : decode cX8_fare 24 = .ok (.invokevirtual 220, 3) := by decide +kernel
theorem dX8_fare_27 : decode cX8_fare 27 = .ok (.istore_n 2, 1) := by decide +kernel
theorem dX8_fare_28 : decode cX8_fare 28 = .ok (.iload_n 2, 1) := by decide +kernel
theorem dX8_fare_29 : decode cX8_fare 29 = .ok (.iconst (-1), 1) := by decide +kernel
theorem dX8_fare_30 : decode cX8_fare 30 = .ok (.if_icmp .ne 7, 3) := by decide +kernel
theorem dX8_fare_33 : decode cX8_fare 33 = .ok (.iconst (-1), 1) := by decide +kernel
theorem dX8_fare_34 : decode cX8_fare 34 = .ok (.goto 14, 3) := by decide +kernel
theorem dX8_fare_37 : decode cX8_fare 37 = .ok (.iload_n 2, 1) := by decide +kernel
theorem dX8_fare_38 : decode cX8_fare 38 = .ok (.aload_n 0, 1) := by decide +kernel
theorem dX8_fare_39 : decode cX8_fare 39 = .ok (.getfield 12, 3) := by decide +kernel
theorem dX8_fare_42 : decode cX8_fare 42 = .ok (.getfield 179, 3) := by decide +kernel
theorem dX8_fare_45 : decode cX8_fare 45 = .ok (.iconst 4, 1) := by decide +kernel
theorem dX8_fare_46 : decode cX8_fare 46 = .ok (.iaload, 1) := by decide +kernel
theorem dX8_fare_47 : decode cX8_fare 47 = .ok (.imul, 1) := by decide +kernel
theorem dX8_fare_48 : decode cX8_fare 48 = .ok (.ireturn, 1) := by decide +kernel
set_option maxRecDepth 20000 in
theorem ggX8_waiting_X2_here : GoodIn wsX8_waiting wsX2_here := goodIn_r _ [6, 7, 8, 9, 10, 5, 11, 12, 44, 45, 46, 47, 48, 49, 50, 51, 52, 53, 54, 55, 56] (by decide +kernel) (by decide +kernel)
set_option maxRecDepth 20000 in
theorem gX8_waiting_X2_here : GoodIn wsX8_waiting (wsV RX8 226 RX2 yX2_here wsX2_here) := goodIn_app (goodIn_of _ (by decide +kernel)) ggX8_waiting_X2_here
set_option maxRecDepth 20000 in
theorem ggX8_waiting_X2_headsTogether : GoodIn wsX8_waiting wsX2_headsTogether := goodIn_r _ [16, 12, 17, 18, 19, 20, 21, 22, 5, 23, 24, 25, 26, 27, 28, 29, 30, 31, 44, 45, 46, 47, 48, 49, 50, 51, 52, 53, 54, 55, 56] (by decide +kernel) (by decide +kernel)
set_option maxRecDepth 20000 in
theorem gX8_waiting_X2_headsTogether : GoodIn wsX8_waiting (wsV RX8 214 RX2 yX2_headsTogether wsX2_headsTogether) := goodIn_app (goodIn_of _ (by decide +kernel)) ggX8_waiting_X2_headsTogether
theorem dX8_waiting_0 : decode cX8_waiting 0 = .ok (.aload_n 0, 1) := by decide +kernel
theorem dX8_waiting_1 : decode cX8_waiting 1 = .ok (.getfield 12, 3) := by decide +kernel
theorem dX8_waiting_4 : decode cX8_waiting 4 = .ok (.aload_n 0, 1) := by decide +kernel
theorem dX8_waiting_5 : decode cX8_waiting 5 = .ok (.getfield 12, 3) := by decide +kernel
theorem dX8_waiting_8 : decode cX8_waiting 8 = .ok (.invokevirtual 226, 3) := by decide +kernel
theorem dX8_waiting_11 : decode cX8_waiting 11 = .ok (.invokevirtual 214, 3) := by decide +kernel
theorem dX8_waiting_14 : decode cX8_waiting 14 = .ok (.ireturn, 1) := by decide +kernel
set_option maxRecDepth 20000 in
theorem ggX8_alone_X2_hireNow : GoodIn wsX8_alone wsX2_hireNow := goodIn_r _ [7, 8, 9, 10, 11, 6, 12, 13, 14, 15, 16, 17, 18, 19, 20, 21, 22, 23, 24, 25, 26, 27, 28, 29, 30, 31, 32, 33, 34, 35, 36, 37, 38, 39, 40, 41, 42, 43, 44, 45, 46, 47, 48, 49, 50, 51, 52, 53, 54, 67, 68, 69, 70, 71, 72, 73, 74, 75, 76, 77, 78, 79] (by decide +kernel) (by decide +kernel)
set_option maxRecDepth 20000 in
theorem gX8_alone_X2_hireNow : GoodIn wsX8_alone (wsV RX8 220 RX2 yX2_hireNow wsX2_hireNow) := goodIn_app (goodIn_of _ (by decide +kernel)) ggX8_alone_X2_hireNow
theorem dX8_alone_0 : decode cX8_alone 0 = .ok (.iconst 0, 1) := by decide +kernel
theorem dX8_alone_1 : decode cX8_alone 1 = .ok (.istore_n 1, 1) := by decide +kernel
theorem dX8_alone_2 : decode cX8_alone 2 = .ok (.iconst 0, 1) := by decide +kernel
theorem dX8_alone_3 : decode cX8_alone 3 = .ok (.istore_n 2, 1) := by decide +kernel
theorem dX8_alone_4 : decode cX8_alone 4 = .ok (.iload_n 2, 1) := by decide +kernel
theorem dX8_alone_5 : decode cX8_alone 5 = .ok (.aload_n 0, 1) := by decide +kernel
theorem dX8_alone_6 : decode cX8_alone 6 = .ok (.getfield 12, 3) := by decide +kernel
theorem dX8_alone_9 : decode cX8_alone 9 = .ok (.getfield 232, 3) := by decide +kernel
theorem dX8_alone_12 : decode cX8_alone 12 = .ok (.if_icmp .ge 28, 3) := by decide +kernel
theorem dX8_alone_15 : decode cX8_alone 15 = .ok (.aload_n 0, 1) := by decide +kernel
theorem dX8_alone_16 : decode cX8_alone 16 = .ok (.getfield 12, 3) := by decide +kernel
theorem dX8_alone_19 : decode cX8_alone 19 = .ok (.iconst 1, 1) := by decide +kernel
theorem dX8_alone_20 : decode cX8_alone 20 = .ok (.iload_n 2, 1) := by decide +kernel
theorem dX8_alone_21 : decode cX8_alone 21 = .ok (.ishl, 1) := by decide +kernel
theorem dX8_alone_22 : decode cX8_alone 22 = .ok (.invokevirtual 220, 3) := by decide +kernel
theorem dX8_alone_25 : decode cX8_alone 25 = .ok (.ifCond .ne 9, 3) := by decide +kernel
theorem dX8_alone_28 : decode cX8_alone 28 = .ok (.iload_n 1, 1) := by decide +kernel
theorem dX8_alone_29 : decode cX8_alone 29 = .ok (.iconst 1, 1) := by decide +kernel
theorem dX8_alone_30 : decode cX8_alone 30 = .ok (.iload_n 2, 1) := by decide +kernel
theorem dX8_alone_31 : decode cX8_alone 31 = .ok (.ishl, 1) := by decide +kernel
theorem dX8_alone_32 : decode cX8_alone 32 = .ok (.ior, 1) := by decide +kernel
theorem dX8_alone_33 : decode cX8_alone 33 = .ok (.istore_n 1, 1) := by decide +kernel
theorem dX8_alone_34 : decode cX8_alone 34 = .ok (.iinc 2 1, 3) := by decide +kernel
theorem dX8_alone_37 : decode cX8_alone 37 = .ok (.goto (-33), 3) := by decide +kernel
theorem dX8_alone_40 : decode cX8_alone 40 = .ok (.iload_n 1, 1) := by decide +kernel
theorem dX8_alone_41 : decode cX8_alone 41 = .ok (.ireturn, 1) := by decide +kernel
set_option maxRecDepth 20000 in
theorem ggX8_together_X2_hasTwo : GoodIn wsX8_together wsX2_hasTwo := goodIn_r _ [6, 7, 8, 9, 5, 10, 11, 12, 13, 14, 85, 86, 87, 88, 89, 90, 91, 92, 93, 94, 95, 96, 97] (by decide +kernel) (by decide +kernel)
set_option maxRecDepth 20000 in
theorem gX8_together_X2_hasTwo : GoodIn wsX8_together (wsV RX8 162 RX2 yX2_hasTwo wsX2_hasTwo) := goodIn_app (goodIn_of _ (by decide +kernel)) ggX8_together_X2_hasTwo
set_option maxRecDepth 20000 in
theorem ggX8_together_X8_refuse : GoodIn wsX8_together wsX8_refuse := goodIn_r _ [18, 19, 20, 12, 13, 14, 73, 74, 75, 76, 77, 78, 79, 80, 81, 82, 83, 84] (by decide +kernel) (by decide +kernel)
set_option maxRecDepth 20000 in
theorem gX8_together_X8_refuse : GoodIn wsX8_together (wsV RX8 83 RX8 yX8_refuse wsX8_refuse) := goodIn_app (goodIn_of _ (by decide +kernel)) ggX8_together_X8_refuse
set_option maxRecDepth 20000 in
theorem ggX8_together_X2_everybody : GoodIn wsX8_together wsX2_everybody := goodIn_r _ [24, 11, 85, 86, 87, 88, 89, 90, 91, 92, 93, 94, 95, 96, 97] (by decide +kernel) (by decide +kernel)
set_option maxRecDepth 20000 in
theorem gX8_together_X2_everybody : GoodIn wsX8_together (wsV RX8 223 RX2 yX2_everybody wsX2_everybody) := goodIn_app (goodIn_of _ (by decide +kernel)) ggX8_together_X2_everybody
set_option maxRecDepth 20000 in
theorem ggX8_together_X8_has : GoodIn wsX8_together wsX8_has := goodIn_r _ [27] (by decide +kernel) (by decide +kernel)
set_option maxRecDepth 20000 in
theorem gX8_together_X8_has : GoodIn wsX8_together (va_wsS RX8 284 yX8_has wsX8_has) := goodIn_app (goodIn_of _ (by decide +kernel)) ggX8_together_X8_has
set_option maxRecDepth 20000 in
theorem ggX8_together_X2_hireNow : GoodIn wsX8_together wsX2_hireNow := goodIn_r _ [31, 32, 33, 34, 35, 5, 36, 37, 38, 39, 40, 41, 11, 42, 43, 26, 13, 27, 44, 45, 46, 47, 48, 49, 50, 51, 52, 53, 54, 55, 56, 57, 58, 59, 60, 61, 62, 63, 64, 65, 66, 12, 14, 67, 68, 69, 70, 71, 72, 85, 86, 87, 88, 89, 90, 91, 92, 93, 94, 95, 96, 97] (by decide +kernel) (by decide +kernel)
set_option maxRecDepth 20000 in
theorem gX8_together_X2_hireNow : GoodIn wsX8_together (wsV RX8 220 RX2 yX2_hireNow wsX2_hireNow) := goodIn_app (goodIn_of _ (by decide +kernel)) ggX8_together_X2_hireNow
theorem dX8_together_0 : decode cX8_together 0 = .ok (.aload_n 0, 1) := by decide +kernel
theorem dX8_together_1 : decode cX8_together 1 = .ok (.getfield 12, 3) := by decide +kernel
theorem dX8_together_4 : decode cX8_together 4 = .ok (.iload_n 1, 1) := by decide +kernel
theorem dX8_together_5 : decode cX8_together 5 = .ok (.iload_n 2, 1) := by decide +kernel
theorem dX8_together_6 : decode cX8_together 6 = .ok (.invokevirtual 162, 3) := by decide +kernel
theorem dX8_together_9 : decode cX8_together 9 = .ok (.ifCond .ne 11, 3) := by decide +kernel
theorem dX8_together_12 : decode cX8_together 12 = .ok (.aload_n 0, 1) := by decide +kernel
theorem dX8_together_13 : decode cX8_together 13 = .ok (.sipush (-1002), 3) := by decide +kernel
theorem dX8_together_16 : decode cX8_together 16 = .ok (.invokevirtual 83, 3) := by decide +kernel
theorem dX8_together_19 : decode cX8_together 19 = .ok (.ireturn, 1) := by decide +kernel
theorem dX8_together_20 : decode cX8_together 20 = .ok (.iconst 0, 1) := by decide +kernel
theorem dX8_together_21 : decode cX8_together 21 = .ok (.istore_n 3, 1) := by decide +kernel
theorem dX8_together_22 : decode cX8_together 22 = .ok (.iconst 1, 1) := by decide +kernel
theorem dX8_together_23 : decode cX8_together 23 = .ok (.istore 4, 2) := by decide +kernel
theorem dX8_together_25 : decode cX8_together 25 = .ok (.iload 4, 2) := by decide +kernel
theorem dX8_together_27 : decode cX8_together 27 = .ok (.aload_n 0, 1) := by decide +kernel
theorem dX8_together_28 : decode cX8_together 28 = .ok (.getfield 12, 3) := by decide +kernel
theorem dX8_together_31 : decode cX8_together 31 = .ok (.invokevirtual 223, 3) := by decide +kernel
theorem dX8_together_34 : decode cX8_together 34 = .ok (.if_icmp .gt 43, 3) := by decide +kernel
theorem dX8_together_37 : decode cX8_together 37 = .ok (.iload 4, 2) := by decide +kernel
theorem dX8_together_39 : decode cX8_together 39 = .ok (.iload_n 1, 1) := by decide +kernel
theorem dX8_together_40 : decode cX8_together 40 = .ok (.invokestatic 284, 3) := by decide +kernel
theorem dX8_together_43 : decode cX8_together 43 = .ok (.ifCond .eq 28, 3) := by decide +kernel
theorem dX8_together_46 : decode cX8_together 46 = .ok (.iload 4, 2) := by decide +kernel
theorem dX8_together_48 : decode cX8_together 48 = .ok (.iload_n 2, 1) := by decide +kernel
theorem dX8_together_49 : decode cX8_together 49 = .ok (.invokestatic 284, 3) := by decide +kernel
theorem dX8_together_52 : decode cX8_together 52 = .ok (.ifCond .eq 19, 3) := by decide +kernel
theorem dX8_together_55 : decode cX8_together 55 = .ok (.aload_n 0, 1) := by decide +kernel
theorem dX8_together_56 : decode cX8_together 56 = .ok (.getfield 12, 3) := by decide +kernel
theorem dX8_together_59 : decode cX8_together 59 = .ok (.iload 4, 2) := by decide +kernel
theorem dX8_together_61 : decode cX8_together 61 = .ok (.invokevirtual 220, 3) := by decide +kernel
theorem dX8_together_64 : decode cX8_together 64 = .ok (.iconst (-1), 1) := by decide +kernel
theorem dX8_together_65 : decode cX8_together 65 = .ok (.if_icmp .eq 6, 3) := by decide +kernel
theorem dX8_together_68 : decode cX8_together 68 = .ok (.iinc 3 1, 3) := by decide +kernel
theorem dX8_together_71 : decode cX8_together 71 = .ok (.iinc 4 1, 3) := by decide +kernel
theorem dX8_together_74 : decode cX8_together 74 = .ok (.goto (-49), 3) := by decide +kernel
theorem dX8_together_77 : decode cX8_together 77 = .ok (.iload_n 3, 1) := by decide +kernel
theorem dX8_together_78 : decode cX8_together 78 = .ok (.ireturn, 1) := by decide +kernel
set_option maxRecDepth 20000 in
theorem ggX8_spare_X2_hasGroup : GoodIn wsX8_spare wsX2_hasGroup := goodIn_r _ [7, 8, 9, 10, 6, 11, 12, 13, 14, 15, 82, 83, 84, 85, 86, 87, 88, 89, 90, 91, 92, 93, 94] (by decide +kernel) (by decide +kernel)
set_option maxRecDepth 20000 in
theorem gX8_spare_X2_hasGroup : GoodIn wsX8_spare (wsV RX8 211 RX2 yX2_hasGroup wsX2_hasGroup) := goodIn_app (goodIn_of _ (by decide +kernel)) ggX8_spare_X2_hasGroup
set_option maxRecDepth 20000 in
theorem ggX8_spare_X8_refuse : GoodIn wsX8_spare wsX8_refuse := goodIn_r _ [19, 20, 21, 13, 14, 15, 70, 71, 72, 73, 74, 75, 76, 77, 78, 79, 80, 81] (by decide +kernel) (by decide +kernel)
set_option maxRecDepth 20000 in
theorem gX8_spare_X8_refuse : GoodIn wsX8_spare (wsV RX8 83 RX8 yX8_refuse wsX8_refuse) := goodIn_app (goodIn_of _ (by decide +kernel)) ggX8_spare_X8_refuse
set_option maxRecDepth 20000 in
theorem ggX8_spare_X2_hireNow : GoodIn wsX8_spare wsX2_hireNow := goodIn_r _ [25, 26, 27, 28, 29, 6, 30, 31, 32, 33, 34, 35, 12, 36, 37, 38, 14, 39, 40, 41, 42, 43, 44, 45, 46, 47, 48, 49, 50, 51, 52, 53, 54, 55, 56, 57, 58, 59, 60, 61, 62, 13, 15, 63, 64, 65, 66, 67, 68, 82, 83, 84, 85, 86, 87, 88, 89, 90, 91, 92, 93, 94] (by decide +kernel) (by decide +kernel)
set_option maxRecDepth 20000 in
theorem gX8_spare_X2_hireNow : GoodIn wsX8_spare (wsV RX8 220 RX2 yX2_hireNow wsX2_hireNow) := goodIn_app (goodIn_of _ (by decide +kernel)) ggX8_spare_X2_hireNow
set_option maxRecDepth 20000 in
theorem ggX8_spare_X2_headsTogether : GoodIn wsX8_spare wsX2_headsTogether := goodIn_r _ [43, 12, 38, 14, 39, 44, 45, 46, 6, 47, 48, 49, 50, 51, 52, 53, 31, 54, 82, 83, 84, 85, 86, 87, 88, 89, 90, 91, 92, 93, 94] (by decide +kernel) (by decide +kernel)
set_option maxRecDepth 20000 in
theorem gX8_spare_X2_headsTogether : GoodIn wsX8_spare (wsV RX8 214 RX2 yX2_headsTogether wsX2_headsTogether) := goodIn_app (goodIn_of _ (by decide +kernel)) ggX8_spare_X2_headsTogether
theorem dX8_spare_0 : decode cX8_spare 0 = .ok (.aload_n 0, 1) := by decide +kernel
theorem dX8_spare_1 : decode cX8_spare 1 = .ok (.getfield 12, 3) := by decide +kernel
theorem dX8_spare_4 : decode cX8_spare 4 = .ok (.iload_n 1, 1) := by decide +kernel
theorem dX8_spare_5 : decode cX8_spare 5 = .ok (.invokevirtual 211, 3) := by decide +kernel
theorem dX8_spare_8 : decode cX8_spare 8 = .ok (.ifCond .ne 11, 3) := by decide +kernel
theorem dX8_spare_11 : decode cX8_spare 11 = .ok (.aload_n 0, 1) := by decide +kernel
theorem dX8_spare_12 : decode cX8_spare 12 = .ok (.sipush (-1002), 3) := by decide +kernel
theorem dX8_spare_15 : decode cX8_spare 15 = .ok (.invokevirtual 83, 3) := by decide +kernel
theorem dX8_spare_18 : decode cX8_spare 18 = .ok (.ireturn, 1) := by decide +kernel
theorem dX8_spare_19 : decode cX8_spare 19 = .ok (.aload_n 0, 1) := by decide +kernel
theorem dX8_spare_20 : decode cX8_spare 20 = .ok (.getfield 12, 3) := by decide +kernel
theorem dX8_spare_23 : decode cX8_spare 23 = .ok (.iload_n 1, 1) := by decide +kernel
theorem dX8_spare_24 : decode cX8_spare 24 = .ok (.invokevirtual 220, 3) := by decide +kernel
theorem dX8_spare_27 : decode cX8_spare 27 = .ok (.istore_n 2, 1) := by decide +kernel
theorem dX8_spare_28 : decode cX8_spare 28 = .ok (.iload_n 2, 1) := by decide +kernel
theorem dX8_spare_29 : decode cX8_spare 29 = .ok (.iconst (-1), 1) := by decide +kernel
theorem dX8_spare_30 : decode cX8_spare 30 = .ok (.if_icmp .ne 7, 3) := by decide +kernel
theorem dX8_spare_33 : decode cX8_spare 33 = .ok (.iconst (-1), 1) := by decide +kernel
theorem dX8_spare_34 : decode cX8_spare 34 = .ok (.goto 23, 3) := by decide +kernel
theorem dX8_spare_37 : decode cX8_spare 37 = .ok (.aload_n 0, 1) := by decide +kernel
theorem dX8_spare_38 : decode cX8_spare 38 = .ok (.getfield 12, 3) := by decide +kernel
theorem dX8_spare_41 : decode cX8_spare 41 = .ok (.getfield 179, 3) := by decide +kernel
theorem dX8_spare_44 : decode cX8_spare 44 = .ok (.iconst 0, 1) := by decide +kernel
theorem dX8_spare_45 : decode cX8_spare 45 = .ok (.iaload, 1) := by decide +kernel
theorem dX8_spare_46 : decode cX8_spare 46 = .ok (.aload_n 0, 1) := by decide +kernel
theorem dX8_spare_47 : decode cX8_spare 47 = .ok (.getfield 12, 3) := by decide +kernel
theorem dX8_spare_50 : decode cX8_spare 50 = .ok (.iload_n 1, 1) := by decide +kernel
theorem dX8_spare_51 : decode cX8_spare 51 = .ok (.invokevirtual 214, 3) := by decide +kernel
theorem dX8_spare_54 : decode cX8_spare 54 = .ok (.isub, 1) := by decide +kernel
theorem dX8_spare_55 : decode cX8_spare 55 = .ok (.iload_n 2, 1) := by decide +kernel
theorem dX8_spare_56 : decode cX8_spare 56 = .ok (.isub, 1) := by decide +kernel
theorem dX8_spare_57 : decode cX8_spare 57 = .ok (.ireturn, 1) := by decide +kernel
set_option maxRecDepth 20000 in
theorem ggX8_purses_X2_hasGroup : GoodIn wsX8_purses wsX2_hasGroup := goodIn_r _ [8, 9, 10, 11, 7, 12, 13, 14, 15, 16, 38, 39, 40, 41, 42, 43, 44, 45, 46, 47, 48, 49, 50] (by decide +kernel) (by decide +kernel)
set_option maxRecDepth 20000 in
theorem gX8_purses_X2_hasGroup : GoodIn wsX8_purses (wsV RX8 211 RX2 yX2_hasGroup wsX2_hasGroup) := goodIn_app (goodIn_of _ (by decide +kernel)) ggX8_purses_X2_hasGroup
set_option maxRecDepth 20000 in
theorem ggX8_purses_X8_refuse : GoodIn wsX8_purses wsX8_refuse := goodIn_r _ [20, 21, 22, 14, 15, 16, 26, 27, 28, 29, 30, 31, 32, 33, 34, 35, 36, 37] (by decide +kernel) (by decide +kernel)
set_option maxRecDepth 20000 in
theorem gX8_purses_X8_refuse : GoodIn wsX8_purses (wsV RX8 83 RX8 yX8_refuse wsX8_refuse) := goodIn_app (goodIn_of _ (by decide +kernel)) ggX8_purses_X8_refuse
set_option maxRecDepth 20000 in
theorem ggX8_purses_X8_has : GoodIn wsX8_purses wsX8_has := goodIn_r _ [25] (by decide +kernel) (by decide +kernel)
set_option maxRecDepth 20000 in
theorem gX8_purses_X8_has : GoodIn wsX8_purses (va_wsS RX8 284 yX8_has wsX8_has) := goodIn_app (goodIn_of _ (by decide +kernel)) ggX8_purses_X8_has
theorem dX8_purses_0 : decode cX8_purses 0 = .ok (.aload_n 0, 1) := by decide +kernel
theorem dX8_purses_1 : decode cX8_purses 1 = .ok (.getfield 12, 3) := by decide +kernel
theorem dX8_purses_4 : decode cX8_purses 4 = .ok (.iload_n 1, 1) := by decide +kernel
theorem dX8_purses_5 : decode cX8_purses 5 = .ok (.invokevirtual 211, 3) := by decide +kernel
theorem dX8_purses_8 : decode cX8_purses 8 = .ok (.ifCond .ne 11, 3) := by decide +kernel
theorem dX8_purses_11 : decode cX8_purses 11 = .ok (.aload_n 0, 1) := by decide +kernel
theorem dX8_purses_12 : decode cX8_purses 12 = .ok (.sipush (-1002), 3) := by decide +kernel
theorem dX8_purses_15 : decode cX8_purses 15 = .ok (.invokevirtual 83, 3) := by decide +kernel
theorem dX8_purses_18 : decode cX8_purses 18 = .ok (.ireturn, 1) := by decide +kernel
theorem dX8_purses_19 : decode cX8_purses 19 = .ok (.iconst 0, 1) := by decide +kernel
theorem dX8_purses_20 : decode cX8_purses 20 = .ok (.istore_n 2, 1) := by decide +kernel
theorem dX8_purses_21 : decode cX8_purses 21 = .ok (.iconst 0, 1) := by decide +kernel
theorem dX8_purses_22 : decode cX8_purses 22 = .ok (.istore_n 3, 1) := by decide +kernel
theorem dX8_purses_23 : decode cX8_purses 23 = .ok (.iload_n 3, 1) := by decide +kernel
theorem dX8_purses_24 : decode cX8_purses 24 = .ok (.aload_n 0, 1) := by decide +kernel
theorem dX8_purses_25 : decode cX8_purses 25 = .ok (.getfield 12, 3) := by decide +kernel
theorem dX8_purses_28 : decode cX8_purses 28 = .ok (.getfield 232, 3) := by decide +kernel
theorem dX8_purses_31 : decode cX8_purses 31 = .ok (.if_icmp .ge 29, 3) := by decide +kernel
theorem dX8_purses_34 : decode cX8_purses 34 = .ok (.iload_n 1, 1) := by decide +kernel
theorem dX8_purses_35 : decode cX8_purses 35 = .ok (.iload_n 3, 1) := by decide +kernel
theorem dX8_purses_36 : decode cX8_purses 36 = .ok (.invokestatic 284, 3) := by decide +kernel
theorem dX8_purses_39 : decode cX8_purses 39 = .ok (.ifCond .eq 15, 3) := by decide +kernel
theorem dX8_purses_42 : decode cX8_purses 42 = .ok (.iload_n 2, 1) := by decide +kernel
theorem dX8_purses_43 : decode cX8_purses 43 = .ok (.aload_n 0, 1) := by decide +kernel
theorem dX8_purses_44 : decode cX8_purses 44 = .ok (.getfield 12, 3) := by decide +kernel
theorem dX8_purses_47 : decode cX8_purses 47 = .ok (.getfield 146, 3) := by decide +kernel
theorem dX8_purses_50 : decode cX8_purses 50 = .ok (.iload_n 3, 1) := by decide +kernel
theorem dX8_purses_51 : decode cX8_purses 51 = .ok (.iaload, 1) := by decide +kernel
theorem dX8_purses_52 : decode cX8_purses 52 = .ok (.iadd, 1) := by decide +kernel
theorem dX8_purses_53 : decode cX8_purses 53 = .ok (.istore_n 2, 1) := by decide +kernel
theorem dX8_purses_54 : decode cX8_purses 54 = .ok (.iinc 3 1, 3) := by decide +kernel
theorem dX8_purses_57 : decode cX8_purses 57 = .ok (.goto (-34), 3) := by decide +kernel
theorem dX8_purses_60 : decode cX8_purses 60 = .ok (.iload_n 2, 1) := by decide +kernel
theorem dX8_purses_61 : decode cX8_purses 61 = .ok (.ireturn, 1) := by decide +kernel
set_option maxRecDepth 20000 in
theorem ggX8_ofKind_X8_isKind : GoodIn wsX8_ofKind wsX8_isKind := goodIn_r _ [7, 8, 9, 6, 10] (by decide +kernel) (by decide +kernel)
set_option maxRecDepth 20000 in
theorem gX8_ofKind_X8_isKind : GoodIn wsX8_ofKind (va_wsS RX8 133 yX8_isKind wsX8_isKind) := goodIn_app (goodIn_of _ (by decide +kernel)) ggX8_ofKind_X8_isKind
set_option maxRecDepth 20000 in
theorem ggX8_ofKind_X8_refuse : GoodIn wsX8_ofKind wsX8_refuse := goodIn_r _ [14, 15, 8, 9, 6, 10, 16, 17, 18, 19, 20, 21, 22, 23, 24, 25, 26, 27] (by decide +kernel) (by decide +kernel)
set_option maxRecDepth 20000 in
theorem gX8_ofKind_X8_refuse : GoodIn wsX8_ofKind (wsV RX8 83 RX8 yX8_refuse wsX8_refuse) := goodIn_app (goodIn_of _ (by decide +kernel)) ggX8_ofKind_X8_refuse
theorem dX8_ofKind_0 : decode cX8_ofKind 0 = .ok (.iload_n 1, 1) := by decide +kernel
theorem dX8_ofKind_1 : decode cX8_ofKind 1 = .ok (.invokestatic 133, 3) := by decide +kernel
theorem dX8_ofKind_4 : decode cX8_ofKind 4 = .ok (.ifCond .ne 11, 3) := by decide +kernel
theorem dX8_ofKind_7 : decode cX8_ofKind 7 = .ok (.aload_n 0, 1) := by decide +kernel
theorem dX8_ofKind_8 : decode cX8_ofKind 8 = .ok (.sipush (-1002), 3) := by decide +kernel
theorem dX8_ofKind_11 : decode cX8_ofKind 11 = .ok (.invokevirtual 83, 3) := by decide +kernel
theorem dX8_ofKind_14 : decode cX8_ofKind 14 = .ok (.ireturn, 1) := by decide +kernel
theorem dX8_ofKind_15 : decode cX8_ofKind 15 = .ok (.iconst 0, 1) := by decide +kernel
theorem dX8_ofKind_16 : decode cX8_ofKind 16 = .ok (.istore_n 2, 1) := by decide +kernel
theorem dX8_ofKind_17 : decode cX8_ofKind 17 = .ok (.iconst 0, 1) := by decide +kernel
theorem dX8_ofKind_18 : decode cX8_ofKind 18 = .ok (.istore_n 3, 1) := by decide +kernel
theorem dX8_ofKind_19 : decode cX8_ofKind 19 = .ok (.iload_n 3, 1) := by decide +kernel
theorem dX8_ofKind_20 : decode cX8_ofKind 20 = .ok (.aload_n 0, 1) := by decide +kernel
theorem dX8_ofKind_21 : decode cX8_ofKind 21 = .ok (.getfield 12, 3) := by decide +kernel
theorem dX8_ofKind_24 : decode cX8_ofKind 24 = .ok (.getfield 232, 3) := by decide +kernel
theorem dX8_ofKind_27 : decode cX8_ofKind 27 = .ok (.if_icmp .ge 25, 3) := by decide +kernel
theorem dX8_ofKind_30 : decode cX8_ofKind 30 = .ok (.aload_n 0, 1) := by decide +kernel
theorem dX8_ofKind_31 : decode cX8_ofKind 31 = .ok (.getfield 12, 3) := by decide +kernel
theorem dX8_ofKind_34 : decode cX8_ofKind 34 = .ok (.getfield 140, 3) := by decide +kernel
theorem dX8_ofKind_37 : decode cX8_ofKind 37 = .ok (.iload_n 3, 1) := by decide +kernel
theorem dX8_ofKind_38 : decode cX8_ofKind 38 = .ok (.iaload, 1) := by decide +kernel
theorem dX8_ofKind_39 : decode cX8_ofKind 39 = .ok (.iload_n 1, 1) := by decide +kernel
theorem dX8_ofKind_40 : decode cX8_ofKind 40 = .ok (.if_icmp .ne 6, 3) := by decide +kernel
theorem dX8_ofKind_43 : decode cX8_ofKind 43 = .ok (.iinc 2 1, 3) := by decide +kernel
theorem dX8_ofKind_46 : decode cX8_ofKind 46 = .ok (.iinc 3 1, 3) := by decide +kernel
theorem dX8_ofKind_49 : decode cX8_ofKind 49 = .ok (.goto (-30), 3) := by decide +kernel
theorem dX8_ofKind_52 : decode cX8_ofKind 52 = .ok (.iload_n 2, 1) := by decide +kernel
theorem dX8_ofKind_53 : decode cX8_ofKind 53 = .ok (.ireturn, 1) := by decide +kernel
set_option maxRecDepth 20000 in
theorem ggX8_crossed_X8_toldTrouble : GoodIn wsX8_crossed wsX8_toldTrouble := goodIn_r _ [9, 3, 10, 11, 8, 12, 13, 14, 15, 16, 17, 18, 19, 20, 21, 22, 23, 24, 25, 26, 27, 28, 29, 30, 31, 32, 33, 34, 35, 119, 120, 121, 122, 123, 124, 125, 126, 127, 128, 129, 130, 134, 135, 136] (by decide +kernel) (by decide +kernel)
set_option maxRecDepth 20000 in
theorem gX8_crossed_X8_toldTrouble : GoodIn wsX8_crossed (wsV RX8 293 RX8 yX8_toldTrouble wsX8_toldTrouble) := goodIn_app (goodIn_of _ (by decide +kernel)) ggX8_crossed_X8_toldTrouble
set_option maxRecDepth 20000 in
theorem ggX8_crossed_X8_refuse : GoodIn wsX8_crossed wsX8_refuse := goodIn_r _ [39, 40, 10, 11, 8, 12, 119, 120, 121, 122, 123, 124, 125, 126, 127, 128, 129, 130] (by decide +kernel) (by decide +kernel)
set_option maxRecDepth 20000 in
theorem gX8_crossed_X8_refuse : GoodIn wsX8_crossed (wsV RX8 83 RX8 yX8_refuse wsX8_refuse) := goodIn_app (goodIn_of _ (by decide +kernel)) ggX8_crossed_X8_refuse
set_option maxRecDepth 20000 in
theorem ggX8_crossed_X0_waysToCross : GoodIn wsX8_crossed wsX0_waysToCross := goodIn_r _ [45, 46, 47, 48, 49, 50, 51, 52, 53, 54, 55, 56, 57, 58, 59, 60, 61, 62, 63, 64, 65, 23, 66, 67, 68, 31, 32, 33, 34, 35, 27, 28, 29, 25, 11, 8, 12, 69, 70, 71, 44, 72, 73, 74, 75, 76, 77, 78, 79, 80, 81, 82, 83, 84, 85, 86, 87, 88, 89, 90, 91, 92, 93, 94, 95, 96, 97, 98, 99, 100, 101, 102, 103, 104, 105, 106, 107, 108, 109, 110, 111, 112, 113, 114, 115, 116, 117, 118, 131, 132, 133, 137, 138, 139, 140, 141, 142, 143, 144, 145, 146, 147, 148, 149, 134, 135, 136] (by decide +kernel) (by decide +kernel)
set_option maxRecDepth 20000 in
theorem gX8_crossed_X0_waysToCross : GoodIn wsX8_crossed (wsV RX8 296 RX0 yX0_waysToCross wsX0_waysToCross) := goodIn_app (goodIn_of _ (by decide +kernel)) ggX8_crossed_X0_waysToCross
theorem dX8_crossed_0 : decode cX8_crossed 0 = .ok (.aload_n 0, 1) := by decide +kernel
theorem dX8_crossed_1 : decode cX8_crossed 1 = .ok (.iload_n 1, 1) := by decide +kernel
theorem dX8_crossed_2 : decode cX8_crossed 2 = .ok (.iload_n 2, 1) := by decide +kernel
theorem dX8_crossed_3 : decode cX8_crossed 3 = .ok (.bipush 8, 2) := by decide +kernel
theorem dX8_crossed_5 : decode cX8_crossed 5 = .ok (.iload_n 3, 1) := by decide +kernel
theorem dX8_crossed_6 : decode cX8_crossed 6 = .ok (.invokevirtual 293, 3) := by decide +kernel
theorem dX8_crossed_9 : decode cX8_crossed 9 = .ok (.istore 4, 2) := by decide +kernel
theorem dX8_crossed_11 : decode cX8_crossed 11 = .ok (.iload 4, 2) := by decide +kernel
theorem dX8_crossed_13 : decode cX8_crossed 13 = .ok (.ifCond .eq 10, 3) := by decide +kernel
theorem dX8_crossed_16 : decode cX8_crossed 16 = .ok (.aload_n 0, 1) := by decide +kernel
theorem dX8_crossed_17 : decode cX8_crossed 17 = .ok (.iload 4, 2) := by decide +kernel
theorem dX8_crossed_19 : decode cX8_crossed 19 = .ok (.invokevirtual 83, 3) := by decide +kernel
theorem dX8_crossed_22 : decode cX8_crossed 22 = .ok (.ireturn, 1) := by decide +kernel
theorem dX8_crossed_23 : decode cX8_crossed 23 = .ok (.aload_n 0, 1) := by decide +kernel
theorem dX8_crossed_24 : decode cX8_crossed 24 = .ok (.getfield 63, 3) := by decide +kernel
theorem dX8_crossed_27 : decode cX8_crossed 27 = .ok (.aload_n 0, 1) := by decide +kernel
theorem dX8_crossed_28 : decode cX8_crossed 28 = .ok (.getfield 12, 3) := by decide +kernel
theorem dX8_crossed_31 : decode cX8_crossed 31 = .ok (.aload_n 0, 1) := by decide +kernel
theorem dX8_crossed_32 : decode cX8_crossed 32 = .ok (.getfield 31, 3) := by decide +kernel
theorem dX8_crossed_35 : decode cX8_crossed 35 = .ok (.iload_n 1, 1) := by decide +kernel
theorem dX8_crossed_36 : decode cX8_crossed 36 = .ok (.aaload, 1) := by decide +kernel
theorem dX8_crossed_37 : decode cX8_crossed 37 = .ok (.iload_n 2, 1) := by decide +kernel
theorem dX8_crossed_38 : decode cX8_crossed 38 = .ok (.invokevirtual 296, 3) := by decide +kernel
theorem dX8_crossed_41 : decode cX8_crossed 41 = .ok (.istore 5, 2) := by decide +kernel
theorem dX8_crossed_43 : decode cX8_crossed 43 = .ok (.iload_n 3, 1) := by decide +kernel
theorem dX8_crossed_44 : decode cX8_crossed 44 = .ok (.ifCond .ne 8, 3) := by decide +kernel
theorem dX8_crossed_47 : decode cX8_crossed 47 = .ok (.iload 5, 2) := by decide +kernel
theorem dX8_crossed_49 : decode cX8_crossed 49 = .ok (.goto 10, 3) := by decide +kernel
theorem dX8_crossed_52 : decode cX8_crossed 52 = .ok (.aload_n 0, 1) := by decide +kernel
theorem dX8_crossed_53 : decode cX8_crossed 53 = .ok (.getfield 63, 3) := by decide +kernel
theorem dX8_crossed_56 : decode cX8_crossed 56 = .ok (.getfield 300, 3) := by decide +kernel
theorem dX8_crossed_59 : decode cX8_crossed 59 = .ok (.ireturn, 1) := by decide +kernel
set_option maxRecDepth 20000 in
theorem ggX8_judge_X8_toldTrouble : GoodIn wsX8_judge wsX8_toldTrouble := goodIn_r _ [9, 3, 10, 11, 8, 12, 13, 14, 15, 16, 17, 18, 19, 20, 21, 22, 23, 24, 25, 26, 27, 28, 29, 30, 31, 32, 33, 34, 35, 104, 105, 106, 107, 108, 109, 110, 111, 112, 113, 114, 115, 119, 120, 121] (by decide +kernel) (by decide +kernel)
set_option maxRecDepth 20000 in
theorem gX8_judge_X8_toldTrouble : GoodIn wsX8_judge (wsV RX8 293 RX8 yX8_toldTrouble wsX8_toldTrouble) := goodIn_app (goodIn_of _ (by decide +kernel)) ggX8_judge_X8_toldTrouble
set_option maxRecDepth 20000 in
theorem ggX8_judge_X8_refuse : GoodIn wsX8_judge wsX8_refuse := goodIn_r _ [39, 40, 10, 11, 8, 12, 104, 105, 106, 107, 108, 109, 110, 111, 112, 113, 114, 115] (by decide +kernel) (by decide +kernel)
set_option maxRecDepth 20000 in
theorem gX8_judge_X8_refuse : GoodIn wsX8_judge (wsV RX8 83 RX8 yX8_refuse wsX8_refuse) := goodIn_app (goodIn_of _ (by decide +kernel)) ggX8_judge_X8_refuse
set_option maxRecDepth 20000 in
theorem ggX8_judge_X3_follow : GoodIn wsX8_judge wsX3_follow := goodIn_r _ [45, 46, 47, 48, 49, 50, 51, 52, 23, 53, 54, 55, 31, 32, 33, 34, 35, 27, 28, 29, 25, 11, 8, 12, 56, 57, 58, 59, 60, 61, 62, 63, 64, 65, 66, 67, 68, 69, 70, 71, 72, 73, 74, 75, 76, 77, 78, 79, 80, 81, 82, 83, 84, 85, 86, 87, 88, 89, 90, 91, 92, 93, 94, 95, 96, 97, 98, 99, 100, 101, 102, 103, 116, 117, 118, 122, 123, 124, 125, 126, 127, 128, 129, 130, 131, 132, 133, 134, 119, 120, 121] (by decide +kernel) (by decide +kernel)
set_option maxRecDepth 20000 in
theorem gX8_judge_X3_follow : GoodIn wsX8_judge (wsV RX8 303 RX3 yX3_follow wsX3_follow) := goodIn_app (goodIn_of _ (by decide +kernel)) ggX8_judge_X3_follow
theorem dX8_judge_0 : decode cX8_judge 0 = .ok (.aload_n 0, 1) := by decide +kernel
theorem dX8_judge_1 : decode cX8_judge 1 = .ok (.iload_n 1, 1) := by decide +kernel
theorem dX8_judge_2 : decode cX8_judge 2 = .ok (.iload_n 2, 1) := by decide +kernel
theorem dX8_judge_3 : decode cX8_judge 3 = .ok (.bipush 40, 2) := by decide +kernel
theorem dX8_judge_5 : decode cX8_judge 5 = .ok (.iconst 0, 1) := by decide +kernel
theorem dX8_judge_6 : decode cX8_judge 6 = .ok (.invokevirtual 293, 3) := by decide +kernel
theorem dX8_judge_9 : decode cX8_judge 9 = .ok (.istore_n 3, 1) := by decide +kernel
theorem dX8_judge_10 : decode cX8_judge 10 = .ok (.iload_n 3, 1) := by decide +kernel
theorem dX8_judge_11 : decode cX8_judge 11 = .ok (.ifCond .eq 9, 3) := by decide +kernel
theorem dX8_judge_14 : decode cX8_judge 14 = .ok (.aload_n 0, 1) := by decide +kernel
theorem dX8_judge_15 : decode cX8_judge 15 = .ok (.iload_n 3, 1) := by decide +kernel
theorem dX8_judge_16 : decode cX8_judge 16 = .ok (.invokevirtual 83, 3) := by decide +kernel
theorem dX8_judge_19 : decode cX8_judge 19 = .ok (.ireturn, 1) := by decide +kernel
theorem dX8_judge_20 : decode cX8_judge 20 = .ok (.aload_n 0, 1) := by decide +kernel
theorem dX8_judge_21 : decode cX8_judge 21 = .ok (.getfield 70, 3) := by decide +kernel
theorem dX8_judge_24 : decode cX8_judge 24 = .ok (.aload_n 0, 1) := by decide +kernel
theorem dX8_judge_25 : decode cX8_judge 25 = .ok (.getfield 12, 3) := by decide +kernel
theorem dX8_judge_28 : decode cX8_judge 28 = .ok (.aload_n 0, 1) := by decide +kernel
theorem dX8_judge_29 : decode cX8_judge 29 = .ok (.getfield 31, 3) := by decide +kernel
theorem dX8_judge_32 : decode cX8_judge 32 = .ok (.iload_n 1, 1) := by decide +kernel
theorem dX8_judge_33 : decode cX8_judge 33 = .ok (.aaload, 1) := by decide +kernel
theorem dX8_judge_34 : decode cX8_judge 34 = .ok (.iload_n 2, 1) := by decide +kernel
theorem dX8_judge_35 : decode cX8_judge 35 = .ok (.invokevirtual 303, 3) := by decide +kernel
theorem dX8_judge_38 : decode cX8_judge 38 = .ok (.aload_n 0, 1) := by decide +kernel
theorem dX8_judge_39 : decode cX8_judge 39 = .ok (.getfield 70, 3) := by decide +kernel
theorem dX8_judge_42 : decode cX8_judge 42 = .ok (.getfield 307, 3) := by decide +kernel
theorem dX8_judge_45 : decode cX8_judge 45 = .ok (.ireturn, 1) := by decide +kernel
set_option maxRecDepth 20000 in
theorem ggX8_behind_X8_toldTrouble : GoodIn wsX8_behind wsX8_toldTrouble := goodIn_r _ [11, 3, 12, 13, 10, 14, 15, 16, 17, 18, 19, 20, 21, 22, 23, 24, 25, 26, 27, 28, 29, 30, 31, 32, 33, 34, 35, 36, 37, 106, 107, 108, 109, 110, 111, 112, 113, 114, 115, 116, 117, 121, 122, 123] (by decide +kernel) (by decide +kernel)
set_option maxRecDepth 20000 in
theorem gX8_behind_X8_toldTrouble : GoodIn wsX8_behind (wsV RX8 293 RX8 yX8_toldTrouble wsX8_toldTrouble) := goodIn_app (goodIn_of _ (by decide +kernel)) ggX8_behind_X8_toldTrouble
set_option maxRecDepth 20000 in
theorem ggX8_behind_X8_refuse : GoodIn wsX8_behind wsX8_refuse := goodIn_r _ [41, 42, 12, 13, 10, 14, 106, 107, 108, 109, 110, 111, 112, 113, 114, 115, 116, 117] (by decide +kernel) (by decide +kernel)
set_option maxRecDepth 20000 in
theorem gX8_behind_X8_refuse : GoodIn wsX8_behind (wsV RX8 83 RX8 yX8_refuse wsX8_refuse) := goodIn_app (goodIn_of _ (by decide +kernel)) ggX8_behind_X8_refuse
set_option maxRecDepth 20000 in
theorem ggX8_behind_X3_follow : GoodIn wsX8_behind wsX3_follow := goodIn_r _ [47, 48, 49, 50, 51, 52, 53, 54, 25, 55, 56, 57, 33, 34, 35, 36, 37, 29, 30, 31, 27, 13, 10, 14, 58, 59, 60, 61, 62, 63, 64, 65, 66, 67, 68, 69, 70, 71, 72, 73, 74, 75, 76, 77, 78, 79, 80, 81, 82, 83, 84, 85, 86, 87, 88, 89, 90, 91, 92, 93, 94, 95, 96, 97, 98, 99, 100, 101, 102, 103, 104, 105, 118, 119, 120, 124, 125, 126, 127, 128, 129, 130, 131, 132, 133, 134, 135, 136, 121, 122, 123] (by decide +kernel) (by decide +kernel)
set_option maxRecDepth 20000 in
theorem gX8_behind_X3_follow : GoodIn wsX8_behind (wsV RX8 303 RX3 yX3_follow wsX3_follow) := goodIn_app (goodIn_of _ (by decide +kernel)) ggX8_behind_X3_follow
theorem dX8_behind_0 : decode cX8_behind 0 = .ok (.aload_n 0, 1) := by decide +kernel
theorem dX8_behind_1 : decode cX8_behind 1 = .ok (.iload_n 1, 1) := by decide +kernel
theorem dX8_behind_2 : decode cX8_behind 2 = .ok (.iload_n 2, 1) := by decide +kernel
theorem dX8_behind_3 : decode cX8_behind 3 = .ok (.bipush 40, 2) := by decide +kernel
theorem dX8_behind_5 : decode cX8_behind 5 = .ok (.iload_n 3, 1) := by decide +kernel
theorem dX8_behind_6 : decode cX8_behind 6 = .ok (.invokevirtual 293, 3) := by decide +kernel
theorem dX8_behind_9 : decode cX8_behind 9 = .ok (.istore 4, 2) := by decide +kernel
theorem dX8_behind_11 : decode cX8_behind 11 = .ok (.iload 4, 2) := by decide +kernel
theorem dX8_behind_13 : decode cX8_behind 13 = .ok (.ifCond .eq 10, 3) := by decide +kernel
theorem dX8_behind_16 : decode cX8_behind 16 = .ok (.aload_n 0, 1) := by decide +kernel
theorem dX8_behind_17 : decode cX8_behind 17 = .ok (.iload 4, 2) := by decide +kernel
theorem dX8_behind_19 : decode cX8_behind 19 = .ok (.invokevirtual 83, 3) := by decide +kernel
theorem dX8_behind_22 : decode cX8_behind 22 = .ok (.ireturn, 1) := by decide +kernel
theorem dX8_behind_23 : decode cX8_behind 23 = .ok (.aload_n 0, 1) := by decide +kernel
theorem dX8_behind_24 : decode cX8_behind 24 = .ok (.getfield 70, 3) := by decide +kernel
theorem dX8_behind_27 : decode cX8_behind 27 = .ok (.aload_n 0, 1) := by decide +kernel
theorem dX8_behind_28 : decode cX8_behind 28 = .ok (.getfield 12, 3) := by decide +kernel
theorem dX8_behind_31 : decode cX8_behind 31 = .ok (.aload_n 0, 1) := by decide +kernel
theorem dX8_behind_32 : decode cX8_behind 32 = .ok (.getfield 31, 3) := by decide +kernel
theorem dX8_behind_35 : decode cX8_behind 35 = .ok (.iload_n 1, 1) := by decide +kernel
theorem dX8_behind_36 : decode cX8_behind 36 = .ok (.aaload, 1) := by decide +kernel
theorem dX8_behind_37 : decode cX8_behind 37 = .ok (.iload_n 2, 1) := by decide +kernel
theorem dX8_behind_38 : decode cX8_behind 38 = .ok (.invokevirtual 303, 3) := by decide +kernel
theorem dX8_behind_41 : decode cX8_behind 41 = .ok (.aload_n 0, 1) := by decide +kernel
theorem dX8_behind_42 : decode cX8_behind 42 = .ok (.getfield 70, 3) := by decide +kernel
theorem dX8_behind_45 : decode cX8_behind 45 = .ok (.getfield 307, 3) := by decide +kernel
theorem dX8_behind_48 : decode cX8_behind 48 = .ok (.iconst (-1), 1) := by decide +kernel
theorem dX8_behind_49 : decode cX8_behind 49 = .ok (.if_icmp .eq 11, 3) := by decide +kernel
theorem dX8_behind_52 : decode cX8_behind 52 = .ok (.aload_n 0, 1) := by decide +kernel
theorem dX8_behind_53 : decode cX8_behind 53 = .ok (.sipush (-1005), 3) := by decide +kernel
theorem dX8_behind_56 : decode cX8_behind 56 = .ok (.invokevirtual 83, 3) := by decide +kernel
theorem dX8_behind_59 : decode cX8_behind 59 = .ok (.ireturn, 1) := by decide +kernel
theorem dX8_behind_60 : decode cX8_behind 60 = .ok (.iload_n 3, 1) := by decide +kernel
theorem dX8_behind_61 : decode cX8_behind 61 = .ok (.ifCond .ne 13, 3) := by decide +kernel
theorem dX8_behind_64 : decode cX8_behind 64 = .ok (.aload_n 0, 1) := by decide +kernel
theorem dX8_behind_65 : decode cX8_behind 65 = .ok (.getfield 70, 3) := by decide +kernel
theorem dX8_behind_68 : decode cX8_behind 68 = .ok (.getfield 310, 3) := by decide +kernel
theorem dX8_behind_71 : decode cX8_behind 71 = .ok (.goto 10, 3) := by decide +kernel
theorem dX8_behind_74 : decode cX8_behind 74 = .ok (.aload_n 0, 1) := by decide +kernel
theorem dX8_behind_75 : decode cX8_behind 75 = .ok (.getfield 70, 3) := by decide +kernel
theorem dX8_behind_78 : decode cX8_behind 78 = .ok (.getfield 311, 3) := by decide +kernel
theorem dX8_behind_81 : decode cX8_behind 81 = .ok (.ireturn, 1) := by decide +kernel
set_option maxRecDepth 20000 in
theorem ggX8_cross_X2_hasGroup : GoodIn wsX8_cross wsX2_hasGroup := goodIn_r _ [6, 7, 8, 9, 5, 10, 11, 12, 13, 14, 87, 88, 89, 90, 91, 92, 93, 94, 95, 96, 97, 98, 99] (by decide +kernel) (by decide +kernel)
set_option maxRecDepth 20000 in
theorem gX8_cross_X2_hasGroup : GoodIn wsX8_cross (wsV RX8 211 RX2 yX2_hasGroup wsX2_hasGroup) := goodIn_app (goodIn_of _ (by decide +kernel)) ggX8_cross_X2_hasGroup
set_option maxRecDepth 20000 in
theorem ggX8_cross_X8_refuse : GoodIn wsX8_cross wsX8_refuse := goodIn_r _ [18, 19, 20, 12, 13, 14, 75, 76, 77, 78, 79, 80, 81, 82, 83, 84, 85, 86] (by decide +kernel) (by decide +kernel)
set_option maxRecDepth 20000 in
theorem gX8_cross_X8_refuse : GoodIn wsX8_cross (wsV RX8 83 RX8 yX8_refuse wsX8_refuse) := goodIn_app (goodIn_of _ (by decide +kernel)) ggX8_cross_X8_refuse
set_option maxRecDepth 20000 in
theorem ggX8_cross_X2_hireNow : GoodIn wsX8_cross wsX2_hireNow := goodIn_r _ [24, 25, 26, 27, 28, 5, 29, 30, 31, 32, 33, 34, 11, 35, 36, 37, 13, 38, 39, 40, 41, 42, 43, 44, 45, 46, 47, 48, 49, 50, 51, 52, 53, 54, 55, 56, 57, 58, 59, 60, 61, 12, 14, 62, 63, 64, 65, 66, 67, 87, 88, 89, 90, 91, 92, 93, 94, 95, 96, 97, 98, 99] (by decide +kernel) (by decide +kernel)
set_option maxRecDepth 20000 in
theorem gX8_cross_X2_hireNow : GoodIn wsX8_cross (wsV RX8 220 RX2 yX2_hireNow wsX2_hireNow) := goodIn_app (goodIn_of _ (by decide +kernel)) ggX8_cross_X2_hireNow
set_option maxRecDepth 20000 in
theorem ggX8_cross_X2_rowOver : GoodIn wsX8_cross wsX2_rowOver := goodIn_r _ [71, 25, 72, 73, 30, 74, 87, 88, 89, 90, 91, 92, 93, 94, 95, 96, 97, 98, 99] (by decide +kernel) (by decide +kernel)
set_option maxRecDepth 20000 in
theorem gX8_cross_X2_rowOver : GoodIn wsX8_cross (wsV RX8 314 RX2 yX2_rowOver wsX2_rowOver) := goodIn_app (goodIn_of _ (by decide +kernel)) ggX8_cross_X2_rowOver
theorem dX8_cross_0 : decode cX8_cross 0 = .ok (.aload_n 0, 1) := by decide +kernel
theorem dX8_cross_1 : decode cX8_cross 1 = .ok (.getfield 12, 3) := by decide +kernel
theorem dX8_cross_4 : decode cX8_cross 4 = .ok (.iload_n 1, 1) := by decide +kernel
theorem dX8_cross_5 : decode cX8_cross 5 = .ok (.invokevirtual 211, 3) := by decide +kernel
theorem dX8_cross_8 : decode cX8_cross 8 = .ok (.ifCond .ne 11, 3) := by decide +kernel
theorem dX8_cross_11 : decode cX8_cross 11 = .ok (.aload_n 0, 1) := by decide +kernel
theorem dX8_cross_12 : decode cX8_cross 12 = .ok (.sipush (-1002), 3) := by decide +kernel
theorem dX8_cross_15 : decode cX8_cross 15 = .ok (.invokevirtual 83, 3) := by decide +kernel
theorem dX8_cross_18 : decode cX8_cross 18 = .ok (.ireturn, 1) := by decide +kernel
theorem dX8_cross_19 : decode cX8_cross 19 = .ok (.aload_n 0, 1) := by decide +kernel
theorem dX8_cross_20 : decode cX8_cross 20 = .ok (.getfield 12, 3) := by decide +kernel
theorem dX8_cross_23 : decode cX8_cross 23 = .ok (.iload_n 1, 1) := by decide +kernel
theorem dX8_cross_24 : decode cX8_cross 24 = .ok (.invokevirtual 220, 3) := by decide +kernel
theorem dX8_cross_27 : decode cX8_cross 27 = .ok (.istore_n 2, 1) := by decide +kernel
theorem dX8_cross_28 : decode cX8_cross 28 = .ok (.iload_n 2, 1) := by decide +kernel
theorem dX8_cross_29 : decode cX8_cross 29 = .ok (.iconst (-1), 1) := by decide +kernel
theorem dX8_cross_30 : decode cX8_cross 30 = .ok (.if_icmp .ne 11, 3) := by decide +kernel
theorem dX8_cross_33 : decode cX8_cross 33 = .ok (.aload_n 0, 1) := by decide +kernel
theorem dX8_cross_34 : decode cX8_cross 34 = .ok (.sipush (-1005), 3) := by decide +kernel
theorem dX8_cross_37 : decode cX8_cross 37 = .ok (.invokevirtual 83, 3) := by decide +kernel
theorem dX8_cross_40 : decode cX8_cross 40 = .ok (.ireturn, 1) := by decide +kernel
theorem dX8_cross_41 : decode cX8_cross 41 = .ok (.aload_n 0, 1) := by decide +kernel
theorem dX8_cross_42 : decode cX8_cross 42 = .ok (.getfield 12, 3) := by decide +kernel
theorem dX8_cross_45 : decode cX8_cross 45 = .ok (.iload_n 1, 1) := by decide +kernel
theorem dX8_cross_46 : decode cX8_cross 46 = .ok (.iload_n 2, 1) := by decide +kernel
theorem dX8_cross_47 : decode cX8_cross 47 = .ok (.invokevirtual 314, 3) := by decide +kernel
theorem dX8_cross_50 : decode cX8_cross 50 = .ok (.iload_n 2, 1) := by decide +kernel
theorem dX8_cross_51 : decode cX8_cross 51 = .ok (.ireturn, 1) := by decide +kernel
set_option maxRecDepth 20000 in
theorem ggX8_comesBack_X2_hasParty : GoodIn wsX8_comesBack wsX2_hasParty := goodIn_r _ [7, 8, 9, 10, 11, 42, 43, 44, 45, 46, 47, 48, 49, 50, 51, 52, 53, 54] (by decide +kernel) (by decide +kernel)
set_option maxRecDepth 20000 in
theorem gX8_comesBack_X2_hasParty : GoodIn wsX8_comesBack (wsV RX8 127 RX2 yX2_hasParty wsX2_hasParty) := goodIn_app (goodIn_of _ (by decide +kernel)) ggX8_comesBack_X2_hasParty
set_option maxRecDepth 20000 in
theorem ggX8_comesBack_X8_refuse : GoodIn wsX8_comesBack wsX8_refuse := goodIn_r _ [15, 16, 17, 9, 10, 11, 30, 31, 32, 33, 34, 35, 36, 37, 38, 39, 40, 41] (by decide +kernel) (by decide +kernel)
set_option maxRecDepth 20000 in
theorem gX8_comesBack_X8_refuse : GoodIn wsX8_comesBack (wsV RX8 83 RX8 yX8_refuse wsX8_refuse) := goodIn_app (goodIn_of _ (by decide +kernel)) ggX8_comesBack_X8_refuse
set_option maxRecDepth 20000 in
theorem ggX8_comesBack_X2_isOver : GoodIn wsX8_comesBack wsX2_isOver := goodIn_r _ [21, 22, 23, 10, 24, 42, 43, 44, 45, 46, 47, 48, 49, 50, 51, 52, 53, 54] (by decide +kernel) (by decide +kernel)
set_option maxRecDepth 20000 in
theorem gX8_comesBack_X2_isOver : GoodIn wsX8_comesBack (wsV RX8 202 RX2 yX2_isOver wsX2_isOver) := goodIn_app (goodIn_of _ (by decide +kernel)) ggX8_comesBack_X2_isOver
set_option maxRecDepth 20000 in
theorem ggX8_comesBack_X2_rowBack : GoodIn wsX8_comesBack wsX2_rowBack := goodIn_r _ [28, 22, 29, 42, 43, 44, 45, 46, 47, 48, 49, 50, 51, 52, 53, 54] (by decide +kernel) (by decide +kernel)
set_option maxRecDepth 20000 in
theorem gX8_comesBack_X2_rowBack : GoodIn wsX8_comesBack (wsV RX8 317 RX2 yX2_rowBack wsX2_rowBack) := goodIn_app (goodIn_of _ (by decide +kernel)) ggX8_comesBack_X2_rowBack
theorem dX8_comesBack_0 : decode cX8_comesBack 0 = .ok (.aload_n 0, 1) := by decide +kernel
theorem dX8_comesBack_1 : decode cX8_comesBack 1 = .ok (.getfield 12, 3) := by decide +kernel
theorem dX8_comesBack_4 : decode cX8_comesBack 4 = .ok (.iload_n 1, 1) := by decide +kernel
theorem dX8_comesBack_5 : decode cX8_comesBack 5 = .ok (.invokevirtual 127, 3) := by decide +kernel
theorem dX8_comesBack_8 : decode cX8_comesBack 8 = .ok (.ifCond .ne 11, 3) := by decide +kernel
theorem dX8_comesBack_11 : decode cX8_comesBack 11 = .ok (.aload_n 0, 1) := by decide +kernel
theorem dX8_comesBack_12 : decode cX8_comesBack 12 = .ok (.sipush (-1002), 3) := by decide +kernel
theorem dX8_comesBack_15 : decode cX8_comesBack 15 = .ok (.invokevirtual 83, 3) := by decide +kernel
theorem dX8_comesBack_18 : decode cX8_comesBack 18 = .ok (.ireturn, 1) := by decide +kernel
theorem dX8_comesBack_19 : decode cX8_comesBack 19 = .ok (.aload_n 0, 1) := by decide +kernel
theorem dX8_comesBack_20 : decode cX8_comesBack 20 = .ok (.getfield 12, 3) := by decide +kernel
theorem dX8_comesBack_23 : decode cX8_comesBack 23 = .ok (.iload_n 1, 1) := by decide +kernel
theorem dX8_comesBack_24 : decode cX8_comesBack 24 = .ok (.invokevirtual 202, 3) := by decide +kernel
theorem dX8_comesBack_27 : decode cX8_comesBack 27 = .ok (.ifCond .ne 11, 3) := by decide +kernel
theorem dX8_comesBack_30 : decode cX8_comesBack 30 = .ok (.aload_n 0, 1) := by decide +kernel
theorem dX8_comesBack_31 : decode cX8_comesBack 31 = .ok (.sipush (-1005), 3) := by decide +kernel
theorem dX8_comesBack_34 : decode cX8_comesBack 34 = .ok (.invokevirtual 83, 3) := by decide +kernel
theorem dX8_comesBack_37 : decode cX8_comesBack 37 = .ok (.ireturn, 1) := by decide +kernel
theorem dX8_comesBack_38 : decode cX8_comesBack 38 = .ok (.aload_n 0, 1) := by decide +kernel
theorem dX8_comesBack_39 : decode cX8_comesBack 39 = .ok (.getfield 12, 3) := by decide +kernel
theorem dX8_comesBack_42 : decode cX8_comesBack 42 = .ok (.iload_n 1, 1) := by decide +kernel
theorem dX8_comesBack_43 : decode cX8_comesBack 43 = .ok (.invokevirtual 317, 3) := by decide +kernel
theorem dX8_comesBack_46 : decode cX8_comesBack 46 = .ok (.aload_n 0, 1) := by decide +kernel
theorem dX8_comesBack_47 : decode cX8_comesBack 47 = .ok (.getfield 12, 3) := by decide +kernel
theorem dX8_comesBack_50 : decode cX8_comesBack 50 = .ok (.getfield 320, 3) := by decide +kernel
theorem dX8_comesBack_53 : decode cX8_comesBack 53 = .ok (.ireturn, 1) := by decide +kernel
set_option maxRecDepth 20000 in
theorem ggX8_days_X8_within : GoodIn wsX8_days wsX8_within := goodIn_r _ [6] (by decide +kernel) (by decide +kernel)
set_option maxRecDepth 20000 in
theorem gX8_days_X8_within : GoodIn wsX8_days (va_wsS RX8 79 yX8_within wsX8_within) := goodIn_app (goodIn_of _ (by decide +kernel)) ggX8_days_X8_within
set_option maxRecDepth 20000 in
theorem ggX8_days_X8_refuse : GoodIn wsX8_days wsX8_refuse := goodIn_r _ [10, 11, 3, 4, 5, 6, 86, 87, 88, 89, 90, 91, 92, 93, 94, 95, 96, 97] (by decide +kernel) (by decide +kernel)
set_option maxRecDepth 20000 in
theorem gX8_days_X8_refuse : GoodIn wsX8_days (wsV RX8 83 RX8 yX8_refuse wsX8_refuse) := goodIn_app (goodIn_of _ (by decide +kernel)) ggX8_days_X8_refuse
set_option maxRecDepth 20000 in
theorem ggX8_days_X2_passDay : GoodIn wsX8_days wsX2_passDay := goodIn_r _ [16, 17, 18, 19, 20, 21, 15, 22, 23, 24, 5, 25, 26, 27, 28, 29, 30, 31, 32, 33, 34, 35, 36, 37, 38, 39, 40, 41, 42, 43, 44, 45, 46, 47, 48, 49, 50, 51, 52, 53, 54, 55, 56, 57, 58, 59, 60, 61, 62, 63, 64, 65, 66, 67, 68, 69, 4, 6, 70, 71, 72, 73, 74, 75, 76, 77, 78, 79, 80, 81, 82, 83, 84, 85, 98, 99, 100, 101, 102, 103, 104, 105, 106, 107, 108, 109, 110] (by decide +kernel) (by decide +kernel)
set_option maxRecDepth 20000 in
theorem gX8_days_X2_passDay : GoodIn wsX8_days (wsV RX8 323 RX2 yX2_passDay wsX2_passDay) := goodIn_app (goodIn_of _ (by decide +kernel)) ggX8_days_X2_passDay
theorem dX8_days_0 : decode cX8_days 0 = .ok (.iload_n 1, 1) := by decide +kernel
theorem dX8_days_1 : decode cX8_days 1 = .ok (.iconst 1, 1) := by decide +kernel
theorem dX8_days_2 : decode cX8_days 2 = .ok (.bipush 60, 2) := by decide +kernel
theorem dX8_days_4 : decode cX8_days 4 = .ok (.invokestatic 79, 3) := by decide +kernel
theorem dX8_days_7 : decode cX8_days 7 = .ok (.ifCond .ne 11, 3) := by decide +kernel
theorem dX8_days_10 : decode cX8_days 10 = .ok (.aload_n 0, 1) := by decide +kernel
theorem dX8_days_11 : decode cX8_days 11 = .ok (.sipush (-1002), 3) := by decide +kernel
theorem dX8_days_14 : decode cX8_days 14 = .ok (.invokevirtual 83, 3) := by decide +kernel
theorem dX8_days_17 : decode cX8_days 17 = .ok (.ireturn, 1) := by decide +kernel
theorem dX8_days_18 : decode cX8_days 18 = .ok (.aload_n 0, 1) := by decide +kernel
theorem dX8_days_19 : decode cX8_days 19 = .ok (.getfield 12, 3) := by decide +kernel
theorem dX8_days_22 : decode cX8_days 22 = .ok (.getfield 232, 3) := by decide +kernel
theorem dX8_days_25 : decode cX8_days 25 = .ok (.ifCond .ne 11, 3) := by decide +kernel
theorem dX8_days_28 : decode cX8_days 28 = .ok (.aload_n 0, 1) := by decide +kernel
theorem dX8_days_29 : decode cX8_days 29 = .ok (.sipush (-1005), 3) := by decide +kernel
theorem dX8_days_32 : decode cX8_days 32 = .ok (.invokevirtual 83, 3) := by decide +kernel
theorem dX8_days_35 : decode cX8_days 35 = .ok (.ireturn, 1) := by decide +kernel
theorem dX8_days_36 : decode cX8_days 36 = .ok (.iconst 0, 1) := by decide +kernel
theorem dX8_days_37 : decode cX8_days 37 = .ok (.istore_n 2, 1) := by decide +kernel
theorem dX8_days_38 : decode cX8_days 38 = .ok (.iconst 0, 1) := by decide +kernel
theorem dX8_days_39 : decode cX8_days 39 = .ok (.istore_n 3, 1) := by decide +kernel
theorem dX8_days_40 : decode cX8_days 40 = .ok (.iload_n 3, 1) := by decide +kernel
theorem dX8_days_41 : decode cX8_days 41 = .ok (.iload_n 1, 1) := by decide +kernel
theorem dX8_days_42 : decode cX8_days 42 = .ok (.if_icmp .ge 22, 3) := by decide +kernel
theorem dX8_days_45 : decode cX8_days 45 = .ok (.aload_n 0, 1) := by decide +kernel
theorem dX8_days_46 : decode cX8_days 46 = .ok (.getfield 12, 3) := by decide +kernel
theorem dX8_days_49 : decode cX8_days 49 = .ok (.invokevirtual 323, 3) := by decide +kernel
theorem dX8_days_52 : decode cX8_days 52 = .ok (.ifCond .eq 6, 3) := by decide +kernel
theorem dX8_days_55 : decode cX8_days 55 = .ok (.iinc 2 1, 3) := by decide +kernel
theorem dX8_days_58 : decode cX8_days 58 = .ok (.iinc 3 1, 3) := by decide +kernel
theorem dX8_days_61 : decode cX8_days 61 = .ok (.goto (-21), 3) := by decide +kernel
theorem dX8_days_64 : decode cX8_days 64 = .ok (.iload_n 2, 1) := by decide +kernel
theorem dX8_days_65 : decode cX8_days 65 = .ok (.ireturn, 1) := by decide +kernel
theorem dX8_seed_0 : decode cX8_seed 0 = .ok (.aload_n 0, 1) := by decide +kernel
theorem dX8_seed_1 : decode cX8_seed 1 = .ok (.getfield 12, 3) := by decide +kernel
theorem dX8_seed_4 : decode cX8_seed 4 = .ok (.getfield 326, 3) := by decide +kernel
theorem dX8_seed_7 : decode cX8_seed 7 = .ok (.istore_n 2, 1) := by decide +kernel
theorem dX8_seed_8 : decode cX8_seed 8 = .ok (.aload_n 0, 1) := by decide +kernel
theorem dX8_seed_9 : decode cX8_seed 9 = .ok (.getfield 12, 3) := by decide +kernel
theorem dX8_seed_12 : decode cX8_seed 12 = .ok (.iload_n 1, 1) := by decide +kernel
theorem dX8_seed_13 : decode cX8_seed 13 = .ok (.putfield 326, 3) := by decide +kernel
theorem dX8_seed_16 : decode cX8_seed 16 = .ok (.iload_n 2, 1) := by decide +kernel
theorem dX8_seed_17 : decode cX8_seed 17 = .ok (.ireturn, 1) := by decide +kernel
set_option maxRecDepth 20000 in
theorem ggX8_image_X2_become : GoodIn wsX8_image wsX2_become := goodIn_r _ [8, 9, 10, 11, 12, 13, 14, 15, 16, 17, 18, 19, 20, 21, 22, 23, 24, 25, 38, 39, 40, 41, 42, 43, 44, 45, 46, 47, 48, 49, 50] (by decide +kernel) (by decide +kernel)
set_option maxRecDepth 20000 in
theorem gX8_image_X2_become : GoodIn wsX8_image (wsV RX8 188 RX2 yX2_become wsX2_become) := goodIn_app (goodIn_of _ (by decide +kernel)) ggX8_image_X2_become
theorem dX8_image_0 : decode cX8_image 0 = .ok (.aload_n 0, 1) := by decide +kernel
theorem dX8_image_1 : decode cX8_image 1 = .ok (.getfield 16, 3) := by decide +kernel
theorem dX8_image_4 : decode cX8_image 4 = .ok (.aload_n 0, 1) := by decide +kernel
theorem dX8_image_5 : decode cX8_image 5 = .ok (.getfield 12, 3) := by decide +kernel
theorem dX8_image_8 : decode cX8_image 8 = .ok (.invokevirtual 188, 3) := by decide +kernel
theorem dX8_image_11 : decode cX8_image 11 = .ok (.aload_n 0, 1) := by decide +kernel
theorem dX8_image_12 : decode cX8_image 12 = .ok (.iconst 1, 1) := by decide +kernel
theorem dX8_image_13 : decode cX8_image 13 = .ok (.putfield 329, 3) := by decide +kernel
theorem dX8_image_16 : decode cX8_image 16 = .ok (.iconst 1, 1) := by decide +kernel
theorem dX8_image_17 : decode cX8_image 17 = .ok (.ireturn, 1) := by decide +kernel
set_option maxRecDepth 20000 in
theorem ggX8_back_X8_refuse : GoodIn wsX8_back wsX8_refuse := goodIn_r _ [9, 10, 11, 12, 8, 13, 54, 55, 56, 57, 58, 59, 60, 61, 62, 63, 64, 65] (by decide +kernel) (by decide +kernel)
set_option maxRecDepth 20000 in
theorem gX8_back_X8_refuse : GoodIn wsX8_back (wsV RX8 83 RX8 yX8_refuse wsX8_refuse) := goodIn_app (goodIn_of _ (by decide +kernel)) ggX8_back_X8_refuse
set_option maxRecDepth 20000 in
theorem ggX8_back_X2_become : GoodIn wsX8_back wsX2_become := goodIn_r _ [18, 19, 20, 21, 22, 23, 24, 25, 26, 27, 28, 29, 30, 31, 32, 33, 34, 35, 66, 67, 68, 69, 70, 71, 72, 73, 74, 75, 76, 77, 78] (by decide +kernel) (by decide +kernel)
set_option maxRecDepth 20000 in
theorem gX8_back_X2_become : GoodIn wsX8_back (wsV RX8 188 RX2 yX2_become wsX2_become) := goodIn_app (goodIn_of _ (by decide +kernel)) ggX8_back_X2_become
set_option maxRecDepth 20000 in
theorem ggX8_back_X6_hasParty : GoodIn wsX8_back wsX6_hasParty := goodIn_r _ [40, 41, 79, 80, 81] (by decide +kernel) (by decide +kernel)
set_option maxRecDepth 20000 in
theorem gX8_back_X6_hasParty : GoodIn wsX8_back (wsV RX8 102 RX6 yX6_hasParty wsX6_hasParty) := goodIn_app (goodIn_of _ (by decide +kernel)) ggX8_back_X6_hasParty
set_option maxRecDepth 20000 in
theorem ggX8_back_X6_partyNumber : GoodIn wsX8_back wsX6_partyNumber := goodIn_r _ [45, 41, 79, 80, 81] (by decide +kernel) (by decide +kernel)
set_option maxRecDepth 20000 in
theorem gX8_back_X6_partyNumber : GoodIn wsX8_back (wsV RX8 136 RX6 yX6_partyNumber wsX6_partyNumber) := goodIn_app (goodIn_of _ (by decide +kernel)) ggX8_back_X6_partyNumber
set_option maxRecDepth 20000 in
theorem ggX8_back_X2_hasParty : GoodIn wsX8_back wsX2_hasParty := goodIn_r _ [49, 30, 12, 8, 13, 66, 67, 68, 69, 70, 71, 72, 73, 74, 75, 76, 77, 78] (by decide +kernel) (by decide +kernel)
set_option maxRecDepth 20000 in
theorem gX8_back_X2_hasParty : GoodIn wsX8_back (wsV RX8 127 RX2 yX2_hasParty wsX2_hasParty) := goodIn_app (goodIn_of _ (by decide +kernel)) ggX8_back_X2_hasParty
set_option maxRecDepth 20000 in
theorem ggX8_back_X6_takeParty : GoodIn wsX8_back wsX6_takeParty := goodIn_r _ [53, 41, 79, 80, 81] (by decide +kernel) (by decide +kernel)
set_option maxRecDepth 20000 in
theorem gX8_back_X6_takeParty : GoodIn wsX8_back (wsV RX8 129 RX6 yX6_takeParty wsX6_takeParty) := goodIn_app (goodIn_of _ (by decide +kernel)) ggX8_back_X6_takeParty
theorem dX8_back_0 : decode cX8_back 0 = .ok (.aload_n 0, 1) := by decide +kernel
theorem dX8_back_1 : decode cX8_back 1 = .ok (.getfield 329, 3) := by decide +kernel
theorem dX8_back_4 : decode cX8_back 4 = .ok (.ifCond .ne 11, 3) := by decide +kernel
theorem dX8_back_7 : decode cX8_back 7 = .ok (.aload_n 0, 1) := by decide +kernel
theorem dX8_back_8 : decode cX8_back 8 = .ok (.sipush (-1005), 3) := by decide +kernel
theorem dX8_back_11 : decode cX8_back 11 = .ok (.invokevirtual 83, 3) := by decide +kernel
theorem dX8_back_14 : decode cX8_back 14 = .ok (.ireturn, 1) := by decide +kernel
theorem dX8_back_15 : decode cX8_back 15 = .ok (.aload_n 0, 1) := by decide +kernel
theorem dX8_back_16 : decode cX8_back 16 = .ok (.getfield 12, 3) := by decide +kernel
theorem dX8_back_19 : decode cX8_back 19 = .ok (.aload_n 0, 1) := by decide +kernel
theorem dX8_back_20 : decode cX8_back 20 = .ok (.getfield 16, 3) := by decide +kernel
theorem dX8_back_23 : decode cX8_back 23 = .ok (.invokevirtual 188, 3) := by decide +kernel
theorem dX8_back_26 : decode cX8_back 26 = .ok (.iconst 0, 1) := by decide +kernel
theorem dX8_back_27 : decode cX8_back 27 = .ok (.istore_n 1, 1) := by decide +kernel
theorem dX8_back_28 : decode cX8_back 28 = .ok (.iload_n 1, 1) := by decide +kernel
theorem dX8_back_29 : decode cX8_back 29 = .ok (.bipush 8, 2) := by decide +kernel
theorem dX8_back_31 : decode cX8_back 31 = .ok (.if_icmp .ge 50, 3) := by decide +kernel
theorem dX8_back_34 : decode cX8_back 34 = .ok (.aload_n 0, 1) := by decide +kernel
theorem dX8_back_35 : decode cX8_back 35 = .ok (.getfield 31, 3) := by decide +kernel
theorem dX8_back_38 : decode cX8_back 38 = .ok (.iload_n 1, 1) := by decide +kernel
theorem dX8_back_39 : decode cX8_back 39 = .ok (.aaload, 1) := by decide +kernel
theorem dX8_back_40 : decode cX8_back 40 = .ok (.invokevirtual 102, 3) := by decide +kernel
theorem dX8_back_43 : decode cX8_back 43 = .ok (.ifCond .eq 32, 3) := by decide +kernel
theorem dX8_back_46 : decode cX8_back 46 = .ok (.aload_n 0, 1) := by decide +kernel
theorem dX8_back_47 : decode cX8_back 47 = .ok (.getfield 12, 3) := by decide +kernel
theorem dX8_back_50 : decode cX8_back 50 = .ok (.aload_n 0, 1) := by decide +kernel
theorem dX8_back_51 : decode cX8_back 51 = .ok (.getfield 31, 3) := by decide +kernel
theorem dX8_back_54 : decode cX8_back 54 = .ok (.iload_n 1, 1) := by decide +kernel
theorem dX8_back_55 : decode cX8_back 55 = .ok (.aaload, 1) := by decide +kernel
theorem dX8_back_56 : decode cX8_back 56 = .ok (.invokevirtual 136, 3) := by decide +kernel
theorem dX8_back_59 : decode cX8_back 59 = .ok (.invokevirtual 127, 3) := by decide +kernel
theorem dX8_back_62 : decode cX8_back 62 = .ok (.ifCond .ne 13, 3) := by decide +kernel
theorem dX8_back_65 : decode cX8_back 65 = .ok (.aload_n 0, 1) := by decide +kernel
theorem dX8_back_66 : decode cX8_back 66 = .ok (.getfield 31, 3) := by decide +kernel
theorem dX8_back_69 : decode cX8_back 69 = .ok (.iload_n 1, 1) := by decide +kernel
theorem dX8_back_70 : decode cX8_back 70 = .ok (.aaload, 1) := by decide +kernel
theorem dX8_back_71 : decode cX8_back 71 = .ok (.iconst (-1), 1) := by decide +kernel
theorem dX8_back_72 : decode cX8_back 72 = .ok (.invokevirtual 129, 3) := by decide +kernel
theorem dX8_back_75 : decode cX8_back 75 = .ok (.iinc 1 1, 3) := by decide +kernel
theorem dX8_back_78 : decode cX8_back 78 = .ok (.goto (-50), 3) := by decide +kernel
theorem dX8_back_81 : decode cX8_back 81 = .ok (.iconst 1, 1) := by decide +kernel
theorem dX8_back_82 : decode cX8_back 82 = .ok (.ireturn, 1) := by decide +kernel
set_option maxRecDepth 20000 in
theorem ggX8_status_X8_within : GoodIn wsX8_status wsX8_within := goodIn_r _ [15] (by decide +kernel) (by decide +kernel)
set_option maxRecDepth 20000 in
theorem gX8_status_X8_within : GoodIn wsX8_status (va_wsS RX8 79 yX8_within wsX8_within) := goodIn_app (goodIn_of _ (by decide +kernel)) ggX8_status_X8_within
set_option maxRecDepth 20000 in
theorem ggX8_status_X8_shelvesInUse : GoodIn wsX8_status wsX8_shelvesInUse := goodIn_r _ [19, 20, 21, 22, 23, 24, 25, 26, 27, 28, 29, 30, 31, 32, 33, 53, 54, 55] (by decide +kernel) (by decide +kernel)
set_option maxRecDepth 20000 in
theorem gX8_status_X8_shelvesInUse : GoodIn wsX8_status (wsV RX8 338 RX8 yX8_shelvesInUse wsX8_shelvesInUse) := goodIn_app (goodIn_of _ (by decide +kernel)) ggX8_status_X8_shelvesInUse
theorem dX8_status_0 : decode cX8_status 0 = .ok (.iload_n 1, 1) := by decide +kernel
theorem dX8_status_1 : decode cX8_status 1 = .ok (.iconst 1, 1) := by decide +kernel
theorem dX8_status_2 : decode cX8_status 2 = .ok (.iconst 5, 1) := by decide +kernel
theorem dX8_status_3 : decode cX8_status 3 = .ok (.invokestatic 79, 3) := by decide +kernel
theorem dX8_status_6 : decode cX8_status 6 = .ok (.ifCond .eq 15, 3) := by decide +kernel
theorem dX8_status_9 : decode cX8_status 9 = .ok (.aload_n 0, 1) := by decide +kernel
theorem dX8_status_10 : decode cX8_status 10 = .ok (.getfield 12, 3) := by decide +kernel
theorem dX8_status_13 : decode cX8_status 13 = .ok (.getfield 179, 3) := by decide +kernel
theorem dX8_status_16 : decode cX8_status 16 = .ok (.iload_n 1, 1) := by decide +kernel
theorem dX8_status_17 : decode cX8_status 17 = .ok (.iconst 1, 1) := by decide +kernel
theorem dX8_status_18 : decode cX8_status 18 = .ok (.isub, 1) := by decide +kernel
theorem dX8_status_19 : decode cX8_status 19 = .ok (.iaload, 1) := by decide +kernel
theorem dX8_status_20 : decode cX8_status 20 = .ok (.ireturn, 1) := by decide +kernel
theorem dX8_status_21 : decode cX8_status 21 = .ok (.iload_n 1, 1) := by decide +kernel
theorem dX8_status_22 : decode cX8_status 22 = .ok (.bipush 12, 2) := by decide +kernel
theorem dX8_status_24 : decode cX8_status 24 = .ok (.bipush 16, 2) := by decide +kernel
theorem dX8_status_26 : decode cX8_status 26 = .ok (.invokestatic 79, 3) := by decide +kernel
theorem dX8_status_29 : decode cX8_status 29 = .ok (.ifCond .eq 13, 3) := by decide +kernel
theorem dX8_status_32 : decode cX8_status 32 = .ok (.aload_n 0, 1) := by decide +kernel
theorem dX8_status_33 : decode cX8_status 33 = .ok (.getfield 35, 3) := by decide +kernel
theorem dX8_status_36 : decode cX8_status 36 = .ok (.iload_n 1, 1) := by decide +kernel
theorem dX8_status_37 : decode cX8_status 37 = .ok (.bipush 12, 2) := by decide +kernel
theorem dX8_status_39 : decode cX8_status 39 = .ok (.isub, 1) := by decide +kernel
theorem dX8_status_40 : decode cX8_status 40 = .ok (.iaload, 1) := by decide +kernel
theorem dX8_status_41 : decode cX8_status 41 = .ok (.ireturn, 1) := by decide +kernel
theorem dX8_status_42 : decode cX8_status 42 = .ok (.iload_n 1, 1) := by decide +kernel
theorem dX8_status_43 : decode cX8_status 43 = .ok (.tableswitch 146 0 17 #[85, 146, 146, 146, 146, 146, 93, 101, 109, 117, 125, 133, 146, 146, 146, 146, 146, 141], 85) := by decide +kernel
theorem dX8_status_128 : decode cX8_status 128 = .ok (.aload_n 0, 1) := by decide +kernel
theorem dX8_status_129 : decode cX8_status 129 = .ok (.getfield 12, 3) := by decide +kernel
theorem dX8_status_132 : decode cX8_status 132 = .ok (.getfield 232, 3) := by decide +kernel
theorem dX8_status_135 : decode cX8_status 135 = .ok (.ireturn, 1) := by decide +kernel
theorem dX8_status_136 : decode cX8_status 136 = .ok (.aload_n 0, 1) := by decide +kernel
theorem dX8_status_137 : decode cX8_status 137 = .ok (.getfield 12, 3) := by decide +kernel
theorem dX8_status_140 : decode cX8_status 140 = .ok (.getfield 320, 3) := by decide +kernel
theorem dX8_status_143 : decode cX8_status 143 = .ok (.ireturn, 1) := by decide +kernel
theorem dX8_status_144 : decode cX8_status 144 = .ok (.aload_n 0, 1) := by decide +kernel
theorem dX8_status_145 : decode cX8_status 145 = .ok (.getfield 12, 3) := by decide +kernel
theorem dX8_status_148 : decode cX8_status 148 = .ok (.getfield 333, 3) := by decide +kernel
theorem dX8_status_151 : decode cX8_status 151 = .ok (.ireturn, 1) := by decide +kernel
theorem dX8_status_152 : decode cX8_status 152 = .ok (.aload_n 0, 1) := by decide +kernel
theorem dX8_status_153 : decode cX8_status 153 = .ok (.getfield 12, 3) := by decide +kernel
theorem dX8_status_156 : decode cX8_status 156 = .ok (.getfield 336, 3) := by decide +kernel
theorem dX8_status_159 : decode cX8_status 159 = .ok (.ireturn, 1) := by decide +kernel
theorem dX8_status_160 : decode cX8_status 160 = .ok (.aload_n 0, 1) := by decide +kernel
theorem dX8_status_161 : decode cX8_status 161 = .ok (.getfield 12, 3) := by decide +kernel
theorem dX8_status_164 : decode cX8_status 164 = .ok (.getfield 250, 3) := by decide +kernel
theorem dX8_status_167 : decode cX8_status 167 = .ok (.ireturn, 1) := by decide +kernel
theorem dX8_status_168 : decode cX8_status 168 = .ok (.aload_n 0, 1) := by decide +kernel
theorem dX8_status_169 : decode cX8_status 169 = .ok (.getfield 25, 3) := by decide +kernel
theorem dX8_status_172 : decode cX8_status 172 = .ok (.getfield 185, 3) := by decide +kernel
theorem dX8_status_175 : decode cX8_status 175 = .ok (.ireturn, 1) := by decide +kernel
theorem dX8_status_176 : decode cX8_status 176 = .ok (.aload_n 0, 1) := by decide +kernel
theorem dX8_status_177 : decode cX8_status 177 = .ok (.getfield 12, 3) := by decide +kernel
theorem dX8_status_180 : decode cX8_status 180 = .ok (.getfield 326, 3) := by decide +kernel
theorem dX8_status_183 : decode cX8_status 183 = .ok (.ireturn, 1) := by decide +kernel
theorem dX8_status_184 : decode cX8_status 184 = .ok (.aload_n 0, 1) := by decide +kernel
theorem dX8_status_185 : decode cX8_status 185 = .ok (.invokevirtual 338, 3) := by decide +kernel
theorem dX8_status_188 : decode cX8_status 188 = .ok (.ireturn, 1) := by decide +kernel
theorem dX8_status_189 : decode cX8_status 189 = .ok (.iconst (-1), 1) := by decide +kernel
theorem dX8_status_190 : decode cX8_status 190 = .ok (.ireturn, 1) := by decide +kernel
set_option maxRecDepth 20000 in
theorem ggX8_refuse_X8_within : GoodIn wsX8_refuse wsX8_within := goodIn_r _ [5] (by decide +kernel) (by decide +kernel)
set_option maxRecDepth 20000 in
theorem gX8_refuse_X8_within : GoodIn wsX8_refuse (va_wsS RX8 79 yX8_within wsX8_within) := goodIn_app (goodIn_of _ (by decide +kernel)) ggX8_refuse_X8_within
theorem dX8_refuse_0 : decode cX8_refuse 0 = .ok (.sipush (-1002), 3) := by decide +kernel
theorem dX8_refuse_3 : decode cX8_refuse 3 = .ok (.iload_n 1, 1) := by decide +kernel
theorem dX8_refuse_4 : decode cX8_refuse 4 = .ok (.isub, 1) := by decide +kernel
theorem dX8_refuse_5 : decode cX8_refuse 5 = .ok (.istore_n 2, 1) := by decide +kernel
theorem dX8_refuse_6 : decode cX8_refuse 6 = .ok (.iload_n 2, 1) := by decide +kernel
theorem dX8_refuse_7 : decode cX8_refuse 7 = .ok (.iconst 0, 1) := by decide +kernel
theorem dX8_refuse_8 : decode cX8_refuse 8 = .ok (.aload_n 0, 1) := by decide +kernel
theorem dX8_refuse_9 : decode cX8_refuse 9 = .ok (.getfield 35, 3) := by decide +kernel
theorem dX8_refuse_12 : decode cX8_refuse 12 = .ok (.arraylength, 1) := by decide +kernel
theorem dX8_refuse_13 : decode cX8_refuse 13 = .ok (.iconst 1, 1) := by decide +kernel
theorem dX8_refuse_14 : decode cX8_refuse 14 = .ok (.isub, 1) := by decide +kernel
theorem dX8_refuse_15 : decode cX8_refuse 15 = .ok (.invokestatic 79, 3) := by decide +kernel
theorem dX8_refuse_18 : decode cX8_refuse 18 = .ok (.ifCond .eq 13, 3) := by decide +kernel
theorem dX8_refuse_21 : decode cX8_refuse 21 = .ok (.aload_n 0, 1) := by decide +kernel
theorem dX8_refuse_22 : decode cX8_refuse 22 = .ok (.getfield 35, 3) := by decide +kernel
theorem dX8_refuse_25 : decode cX8_refuse 25 = .ok (.iload_n 2, 1) := by decide +kernel
theorem dX8_refuse_26 : decode cX8_refuse 26 = .ok (.dup2, 1) := by decide +kernel
theorem dX8_refuse_27 : decode cX8_refuse 27 = .ok (.iaload, 1) := by decide +kernel
theorem dX8_refuse_28 : decode cX8_refuse 28 = .ok (.iconst 1, 1) := by decide +kernel
theorem dX8_refuse_29 : decode cX8_refuse 29 = .ok (.iadd, 1) := by decide +kernel
theorem dX8_refuse_30 : decode cX8_refuse 30 = .ok (.iastore, 1) := by decide +kernel
theorem dX8_refuse_31 : decode cX8_refuse 31 = .ok (.iload_n 1, 1) := by decide +kernel
theorem dX8_refuse_32 : decode cX8_refuse 32 = .ok (.ireturn, 1) := by decide +kernel
set_option maxRecDepth 20000 in
theorem ggX8_rowTrouble_X8_isShelf : GoodIn wsX8_rowTrouble wsX8_isShelf := goodIn_r _ [5, 6, 7, 4, 8] (by decide +kernel) (by decide +kernel)
set_option maxRecDepth 20000 in
theorem gX8_rowTrouble_X8_isShelf : GoodIn wsX8_rowTrouble (va_wsS RX8 75 yX8_isShelf wsX8_isShelf) := goodIn_app (goodIn_of _ (by decide +kernel)) ggX8_rowTrouble_X8_isShelf
set_option maxRecDepth 20000 in
theorem ggX8_rowTrouble_X6_hasParty : GoodIn wsX8_rowTrouble wsX6_hasParty := goodIn_r _ [13, 14, 31, 32, 33] (by decide +kernel) (by decide +kernel)
set_option maxRecDepth 20000 in
theorem gX8_rowTrouble_X6_hasParty : GoodIn wsX8_rowTrouble (wsV RX8 102 RX6 yX6_hasParty wsX6_hasParty) := goodIn_app (goodIn_of _ (by decide +kernel)) ggX8_rowTrouble_X6_hasParty
set_option maxRecDepth 20000 in
theorem ggX8_rowTrouble_X6_hasRow : GoodIn wsX8_rowTrouble wsX6_hasRow := goodIn_r _ [18, 14, 7, 4, 8, 31, 32, 33] (by decide +kernel) (by decide +kernel)
set_option maxRecDepth 20000 in
theorem gX8_rowTrouble_X6_hasRow : GoodIn wsX8_rowTrouble (wsV RX8 106 RX6 yX6_hasRow wsX6_hasRow) := goodIn_app (goodIn_of _ (by decide +kernel)) ggX8_rowTrouble_X6_hasRow
theorem dX8_rowTrouble_0 : decode cX8_rowTrouble 0 = .ok (.iload_n 1, 1) := by decide +kernel
theorem dX8_rowTrouble_1 : decode cX8_rowTrouble 1 = .ok (.invokestatic 75, 3) := by decide +kernel
theorem dX8_rowTrouble_4 : decode cX8_rowTrouble 4 = .ok (.ifCond .ne 7, 3) := by decide +kernel
theorem dX8_rowTrouble_7 : decode cX8_rowTrouble 7 = .ok (.sipush (-1002), 3) := by decide +kernel
theorem dX8_rowTrouble_10 : decode cX8_rowTrouble 10 = .ok (.ireturn, 1) := by decide +kernel
theorem dX8_rowTrouble_11 : decode cX8_rowTrouble 11 = .ok (.aload_n 0, 1) := by decide +kernel
theorem dX8_rowTrouble_12 : decode cX8_rowTrouble 12 = .ok (.getfield 31, 3) := by decide +kernel
theorem dX8_rowTrouble_15 : decode cX8_rowTrouble 15 = .ok (.iload_n 1, 1) := by decide +kernel
theorem dX8_rowTrouble_16 : decode cX8_rowTrouble 16 = .ok (.aaload, 1) := by decide +kernel
theorem dX8_rowTrouble_17 : decode cX8_rowTrouble 17 = .ok (.invokevirtual 102, 3) := by decide +kernel
theorem dX8_rowTrouble_20 : decode cX8_rowTrouble 20 = .ok (.ifCond .eq 7, 3) := by decide +kernel
theorem dX8_rowTrouble_23 : decode cX8_rowTrouble 23 = .ok (.sipush (-1003), 3) := by decide +kernel
theorem dX8_rowTrouble_26 : decode cX8_rowTrouble 26 = .ok (.ireturn, 1) := by decide +kernel
theorem dX8_rowTrouble_27 : decode cX8_rowTrouble 27 = .ok (.aload_n 0, 1) := by decide +kernel
theorem dX8_rowTrouble_28 : decode cX8_rowTrouble 28 = .ok (.getfield 31, 3) := by decide +kernel
theorem dX8_rowTrouble_31 : decode cX8_rowTrouble 31 = .ok (.iload_n 1, 1) := by decide +kernel
theorem dX8_rowTrouble_32 : decode cX8_rowTrouble 32 = .ok (.aaload, 1) := by decide +kernel
theorem dX8_rowTrouble_33 : decode cX8_rowTrouble 33 = .ok (.invokevirtual 106, 3) := by decide +kernel
theorem dX8_rowTrouble_36 : decode cX8_rowTrouble 36 = .ok (.ifCond .eq 7, 3) := by decide +kernel
theorem dX8_rowTrouble_39 : decode cX8_rowTrouble 39 = .ok (.iconst 0, 1) := by decide +kernel
theorem dX8_rowTrouble_40 : decode cX8_rowTrouble 40 = .ok (.goto 6, 3) := by decide +kernel
theorem dX8_rowTrouble_43 : decode cX8_rowTrouble 43 = .ok (.sipush (-1004), 3) := by decide +kernel
theorem dX8_rowTrouble_46 : decode cX8_rowTrouble 46 = .ok (.ireturn, 1) := by decide +kernel
set_option maxRecDepth 20000 in
theorem ggX8_toldTrouble_X8_within : GoodIn wsX8_toldTrouble wsX8_within := goodIn_r _ [5] (by decide +kernel) (by decide +kernel)
set_option maxRecDepth 20000 in
theorem gX8_toldTrouble_X8_within : GoodIn wsX8_toldTrouble (va_wsS RX8 79 yX8_within wsX8_within) := goodIn_app (goodIn_of _ (by decide +kernel)) ggX8_toldTrouble_X8_within
set_option maxRecDepth 20000 in
theorem ggX8_toldTrouble_X8_rowTrouble : GoodIn wsX8_toldTrouble wsX8_rowTrouble := goodIn_r _ [9, 1, 10, 11, 4, 12, 2, 3, 5, 13, 14, 15, 16, 17, 18, 19, 20, 21, 22, 29, 30, 31, 32, 33, 34, 35, 36, 37, 38, 39, 40, 41, 42, 43] (by decide +kernel) (by decide +kernel)
set_option maxRecDepth 20000 in
theorem gX8_toldTrouble_X8_rowTrouble : GoodIn wsX8_toldTrouble (wsV RX8 91 RX8 yX8_rowTrouble wsX8_rowTrouble) := goodIn_app (goodIn_of _ (by decide +kernel)) ggX8_toldTrouble_X8_rowTrouble
set_option maxRecDepth 20000 in
theorem ggX8_toldTrouble_X6_hasPlaces : GoodIn wsX8_toldTrouble wsX6_hasPlaces := goodIn_r _ [26, 27, 28, 20, 21, 16, 22, 18, 3, 4, 5, 41, 42, 43] (by decide +kernel) (by decide +kernel)
set_option maxRecDepth 20000 in
theorem gX8_toldTrouble_X6_hasPlaces : GoodIn wsX8_toldTrouble (wsV RX8 94 RX6 yX6_hasPlaces wsX6_hasPlaces) := goodIn_app (goodIn_of _ (by decide +kernel)) ggX8_toldTrouble_X6_hasPlaces
theorem dX8_toldTrouble_0 : decode cX8_toldTrouble 0 = .ok (.iload_n 2, 1) := by decide +kernel
theorem dX8_toldTrouble_1 : decode cX8_toldTrouble 1 = .ok (.iconst 0, 1) := by decide +kernel
theorem dX8_toldTrouble_2 : decode cX8_toldTrouble 2 = .ok (.iload_n 3, 1) := by decide +kernel
theorem dX8_toldTrouble_3 : decode cX8_toldTrouble 3 = .ok (.invokestatic 79, 3) := by decide +kernel
theorem dX8_toldTrouble_6 : decode cX8_toldTrouble 6 = .ok (.ifCond .eq 13, 3) := by decide +kernel
theorem dX8_toldTrouble_9 : decode cX8_toldTrouble 9 = .ok (.iload 4, 2) := by decide +kernel
theorem dX8_toldTrouble_11 : decode cX8_toldTrouble 11 = .ok (.iconst 0, 1) := by decide +kernel
theorem dX8_toldTrouble_12 : decode cX8_toldTrouble 12 = .ok (.iconst 1, 1) := by decide +kernel
theorem dX8_toldTrouble_13 : decode cX8_toldTrouble 13 = .ok (.invokestatic 79, 3) := by decide +kernel
theorem dX8_toldTrouble_16 : decode cX8_toldTrouble 16 = .ok (.ifCond .ne 7, 3) := by decide +kernel
theorem dX8_toldTrouble_19 : decode cX8_toldTrouble 19 = .ok (.sipush (-1002), 3) := by decide +kernel
theorem dX8_toldTrouble_22 : decode cX8_toldTrouble 22 = .ok (.ireturn, 1) := by decide +kernel
theorem dX8_toldTrouble_23 : decode cX8_toldTrouble 23 = .ok (.aload_n 0, 1) := by decide +kernel
theorem dX8_toldTrouble_24 : decode cX8_toldTrouble 24 = .ok (.iload_n 1, 1) := by decide +kernel
theorem dX8_toldTrouble_25 : decode cX8_toldTrouble 25 = .ok (.invokevirtual 91, 3) := by decide +kernel
theorem dX8_toldTrouble_28 : decode cX8_toldTrouble 28 = .ok (.istore 5, 2) := by decide +kernel
theorem dX8_toldTrouble_30 : decode cX8_toldTrouble 30 = .ok (.iload 5, 2) := by decide +kernel
theorem dX8_toldTrouble_32 : decode cX8_toldTrouble 32 = .ok (.ifCond .ne 23, 3) := by decide +kernel
theorem dX8_toldTrouble_35 : decode cX8_toldTrouble 35 = .ok (.aload_n 0, 1) := by decide +kernel
theorem dX8_toldTrouble_36 : decode cX8_toldTrouble 36 = .ok (.getfield 31, 3) := by decide +kernel
theorem dX8_toldTrouble_39 : decode cX8_toldTrouble 39 = .ok (.iload_n 1, 1) := by decide +kernel
theorem dX8_toldTrouble_40 : decode cX8_toldTrouble 40 = .ok (.aaload, 1) := by decide +kernel
theorem dX8_toldTrouble_41 : decode cX8_toldTrouble 41 = .ok (.iconst 0, 1) := by decide +kernel
theorem dX8_toldTrouble_42 : decode cX8_toldTrouble 42 = .ok (.iload_n 2, 1) := by decide +kernel
theorem dX8_toldTrouble_43 : decode cX8_toldTrouble 43 = .ok (.invokevirtual 94, 3) := by decide +kernel
theorem dX8_toldTrouble_46 : decode cX8_toldTrouble 46 = .ok (.ifCond .ne 9, 3) := by decide +kernel
theorem dX8_toldTrouble_49 : decode cX8_toldTrouble 49 = .ok (.sipush (-1002), 3) := by decide +kernel
theorem dX8_toldTrouble_52 : decode cX8_toldTrouble 52 = .ok (.goto 5, 3) := by decide +kernel
theorem dX8_toldTrouble_55 : decode cX8_toldTrouble 55 = .ok (.iload 5, 2) := by decide +kernel
theorem dX8_toldTrouble_57 : decode cX8_toldTrouble 57 = .ok (.ireturn, 1) := by decide +kernel
set_option maxRecDepth 20000 in
theorem ggX8_waiterTrouble_X2_hasParty : GoodIn wsX8_waiterTrouble wsX2_hasParty := goodIn_r _ [6, 7, 8, 9, 10, 30, 31, 32, 33, 34, 35, 36, 37, 38, 39, 40, 41, 42] (by decide +kernel) (by decide +kernel)
set_option maxRecDepth 20000 in
theorem gX8_waiterTrouble_X2_hasParty : GoodIn wsX8_waiterTrouble (wsV RX8 127 RX2 yX2_hasParty wsX2_hasParty) := goodIn_app (goodIn_of _ (by decide +kernel)) ggX8_waiterTrouble_X2_hasParty
set_option maxRecDepth 20000 in
theorem ggX8_waiterTrouble_X2_isOver : GoodIn wsX8_waiterTrouble wsX2_isOver := goodIn_r _ [14, 15, 16, 9, 17, 30, 31, 32, 33, 34, 35, 36, 37, 38, 39, 40, 41, 42] (by decide +kernel) (by decide +kernel)
set_option maxRecDepth 20000 in
theorem gX8_waiterTrouble_X2_isOver : GoodIn wsX8_waiterTrouble (wsV RX8 202 RX2 yX2_isOver wsX2_isOver) := goodIn_app (goodIn_of _ (by decide +kernel)) ggX8_waiterTrouble_X2_isOver
theorem dX8_waiterTrouble_0 : decode cX8_waiterTrouble 0 = .ok (.aload_n 0, 1) := by decide +kernel
theorem dX8_waiterTrouble_1 : decode cX8_waiterTrouble 1 = .ok (.getfield 12, 3) := by decide +kernel
theorem dX8_waiterTrouble_4 : decode cX8_waiterTrouble 4 = .ok (.iload_n 1, 1) := by decide +kernel
theorem dX8_waiterTrouble_5 : decode cX8_waiterTrouble 5 = .ok (.invokevirtual 127, 3) := by decide +kernel
theorem dX8_waiterTrouble_8 : decode cX8_waiterTrouble 8 = .ok (.ifCond .ne 7, 3) := by decide +kernel
theorem dX8_waiterTrouble_11 : decode cX8_waiterTrouble 11 = .ok (.sipush (-1002), 3) := by decide +kernel
theorem dX8_waiterTrouble_14 : decode cX8_waiterTrouble 14 = .ok (.ireturn, 1) := by decide +kernel
theorem dX8_waiterTrouble_15 : decode cX8_waiterTrouble 15 = .ok (.aload_n 0, 1) := by decide +kernel
theorem dX8_waiterTrouble_16 : decode cX8_waiterTrouble 16 = .ok (.getfield 12, 3) := by decide +kernel
theorem dX8_waiterTrouble_19 : decode cX8_waiterTrouble 19 = .ok (.iload_n 1, 1) := by decide +kernel
theorem dX8_waiterTrouble_20 : decode cX8_waiterTrouble 20 = .ok (.invokevirtual 202, 3) := by decide +kernel
theorem dX8_waiterTrouble_23 : decode cX8_waiterTrouble 23 = .ok (.ifCond .eq 9, 3) := by decide +kernel
theorem dX8_waiterTrouble_26 : decode cX8_waiterTrouble 26 = .ok (.sipush (-1005), 3) := by decide +kernel
theorem dX8_waiterTrouble_29 : decode cX8_waiterTrouble 29 = .ok (.goto 4, 3) := by decide +kernel
theorem dX8_waiterTrouble_32 : decode cX8_waiterTrouble 32 = .ok (.iconst 0, 1) := by decide +kernel
theorem dX8_waiterTrouble_33 : decode cX8_waiterTrouble 33 = .ok (.ireturn, 1) := by decide +kernel
set_option maxRecDepth 20000 in
theorem ggX8_planIf_X2_become : GoodIn wsX8_planIf wsX2_become := goodIn_r _ [9, 10, 11, 12, 13, 14, 15, 16, 17, 18, 19, 20, 21, 22, 23, 24, 25, 26, 112, 113, 114, 115, 116, 117, 118, 119, 120, 121, 122, 123, 124] (by decide +kernel) (by decide +kernel)
set_option maxRecDepth 20000 in
theorem gX8_planIf_X2_become : GoodIn wsX8_planIf (wsV RX8 188 RX2 yX2_become wsX2_become) := goodIn_app (goodIn_of _ (by decide +kernel)) ggX8_planIf_X2_become
set_option maxRecDepth 20000 in
theorem ggX8_planIf_X8_within : GoodIn wsX8_planIf wsX8_within := goodIn_r _ [30] (by decide +kernel) (by decide +kernel)
set_option maxRecDepth 20000 in
theorem gX8_planIf_X8_within : GoodIn wsX8_planIf (va_wsS RX8 79 yX8_within wsX8_within) := goodIn_app (goodIn_of _ (by decide +kernel)) ggX8_planIf_X8_within
set_option maxRecDepth 20000 in
theorem ggX8_planIf_X5_reckon : GoodIn wsX8_planIf wsX5_reckon := goodIn_r _ [35, 36, 37, 38, 39, 40, 41, 42, 43, 8, 44, 22, 45, 46, 47, 48, 21, 49, 50, 51, 52, 20, 53, 54, 55, 56, 19, 18, 57, 29, 58, 59, 60, 61, 62, 63, 64, 65, 66, 16, 67, 68, 69, 70, 15, 10, 71, 72, 73, 74, 75, 76, 77, 78, 28, 30, 79, 80, 81, 82, 83, 84, 85, 86, 87, 34, 88, 89, 90, 91, 92, 93, 94, 95, 96, 97, 98, 99, 125, 126, 127, 112, 113, 114, 115, 116, 117, 118, 119, 120, 121, 122, 123, 124] (by decide +kernel) (by decide +kernel)
set_option maxRecDepth 20000 in
theorem gX8_planIf_X5_reckon : GoodIn wsX8_planIf (wsV RX8 235 RX5 yX5_reckon wsX5_reckon) := goodIn_app (goodIn_of _ (by decide +kernel)) ggX8_planIf_X5_reckon
theorem dX8_planIf_0 : decode cX8_planIf 0 = .ok (.aload_n 0, 1) := by decide +kernel
theorem dX8_planIf_1 : decode cX8_planIf 1 = .ok (.getfield 19, 3) := by decide +kernel
theorem dX8_planIf_4 : decode cX8_planIf 4 = .ok (.aload_n 0, 1) := by decide +kernel
theorem dX8_planIf_5 : decode cX8_planIf 5 = .ok (.getfield 12, 3) := by decide +kernel
theorem dX8_planIf_8 : decode cX8_planIf 8 = .ok (.invokevirtual 188, 3) := by decide +kernel
theorem dX8_planIf_11 : decode cX8_planIf 11 = .ok (.iload_n 1, 1) := by decide +kernel
theorem dX8_planIf_12 : decode cX8_planIf 12 = .ok (.iconst 0, 1) := by decide +kernel
theorem dX8_planIf_13 : decode cX8_planIf 13 = .ok (.iconst 4, 1) := by decide +kernel
theorem dX8_planIf_14 : decode cX8_planIf 14 = .ok (.invokestatic 79, 3) := by decide +kernel
theorem dX8_planIf_17 : decode cX8_planIf 17 = .ok (.ifCond .eq 13, 3) := by decide +kernel
theorem dX8_planIf_20 : decode cX8_planIf 20 = .ok (.aload_n 0, 1) := by decide +kernel
theorem dX8_planIf_21 : decode cX8_planIf 21 = .ok (.getfield 19, 3) := by decide +kernel
theorem dX8_planIf_24 : decode cX8_planIf 24 = .ok (.getfield 179, 3) := by decide +kernel
theorem dX8_planIf_27 : decode cX8_planIf 27 = .ok (.iload_n 1, 1) := by decide +kernel
theorem dX8_planIf_28 : decode cX8_planIf 28 = .ok (.iload_n 2, 1) := by decide +kernel
theorem dX8_planIf_29 : decode cX8_planIf 29 = .ok (.iastore, 1) := by decide +kernel
theorem dX8_planIf_30 : decode cX8_planIf 30 = .ok (.aload_n 0, 1) := by decide +kernel
theorem dX8_planIf_31 : decode cX8_planIf 31 = .ok (.getfield 42, 3) := by decide +kernel
theorem dX8_planIf_34 : decode cX8_planIf 34 = .ok (.aload_n 0, 1) := by decide +kernel
theorem dX8_planIf_35 : decode cX8_planIf 35 = .ok (.getfield 19, 3) := by decide +kernel
theorem dX8_planIf_38 : decode cX8_planIf 38 = .ok (.invokevirtual 235, 3) := by decide +kernel
theorem dX8_planIf_41 : decode cX8_planIf 41 = .ok (.return_, 1) := by decide +kernel
set_option maxRecDepth 20000 in
theorem ggX8_priceUntied_X2_become : GoodIn wsX8_priceUntied wsX2_become := goodIn_r _ [8, 9, 10, 11, 12, 13, 14, 15, 16, 17, 18, 19, 20, 21, 22, 23, 24, 25, 129, 130, 131, 132, 133, 134, 135, 136, 137, 138, 139, 140, 141] (by decide +kernel) (by decide +kernel)
set_option maxRecDepth 20000 in
theorem gX8_priceUntied_X2_become : GoodIn wsX8_priceUntied (wsV RX8 188 RX2 yX2_become wsX2_become) := goodIn_app (goodIn_of _ (by decide +kernel)) ggX8_priceUntied_X2_become
set_option maxRecDepth 20000 in
theorem ggX8_priceUntied_X2_relate : GoodIn wsX8_priceUntied wsX2_relate := goodIn_r _ [29, 17, 18, 30, 31, 32, 7, 33, 34, 35, 36, 37, 20, 38, 39, 40, 41, 42, 43, 129, 130, 131, 132, 133, 134, 135, 136, 137, 138, 139, 140, 141] (by decide +kernel) (by decide +kernel)
set_option maxRecDepth 20000 in
theorem gX8_priceUntied_X2_relate : GoodIn wsX8_priceUntied (wsV RX8 169 RX2 yX2_relate wsX2_relate) := goodIn_app (goodIn_of _ (by decide +kernel)) ggX8_priceUntied_X2_relate
set_option maxRecDepth 20000 in
theorem ggX8_priceUntied_X5_reckon : GoodIn wsX8_priceUntied wsX5_reckon := goodIn_r _ [48, 49, 50, 51, 52, 53, 54, 55, 56, 7, 57, 21, 58, 59, 60, 61, 20, 62, 63, 64, 65, 19, 66, 67, 68, 69, 18, 17, 70, 39, 71, 72, 73, 74, 75, 76, 77, 78, 79, 15, 80, 81, 82, 83, 14, 9, 84, 85, 86, 87, 88, 89, 90, 91, 38, 40, 92, 93, 94, 95, 96, 97, 98, 99, 100, 47, 101, 102, 103, 104, 105, 106, 107, 108, 109, 110, 111, 112, 142, 143, 144, 129, 130, 131, 132, 133, 134, 135, 136, 137, 138, 139, 140, 141] (by decide +kernel) (by decide +kernel)
set_option maxRecDepth 20000 in
theorem gX8_priceUntied_X5_reckon : GoodIn wsX8_priceUntied (wsV RX8 235 RX5 yX5_reckon wsX5_reckon) := goodIn_app (goodIn_of _ (by decide +kernel)) ggX8_priceUntied_X5_reckon
set_option maxRecDepth 20000 in
theorem ggX8_priceUntied_X5_price : GoodIn wsX8_priceUntied wsX5_price := goodIn_r _ [116, 50, 49, 142, 143, 144] (by decide +kernel) (by decide +kernel)
set_option maxRecDepth 20000 in
theorem gX8_priceUntied_X5_price : GoodIn wsX8_priceUntied (wsV RX8 257 RX5 yX5_price wsX5_price) := goodIn_app (goodIn_of _ (by decide +kernel)) ggX8_priceUntied_X5_price
theorem dX8_priceUntied_0 : decode cX8_priceUntied 0 = .ok (.aload_n 0, 1) := by decide +kernel
theorem dX8_priceUntied_1 : decode cX8_priceUntied 1 = .ok (.getfield 19, 3) := by decide +kernel
theorem dX8_priceUntied_4 : decode cX8_priceUntied 4 = .ok (.aload_n 0, 1) := by decide +kernel
theorem dX8_priceUntied_5 : decode cX8_priceUntied 5 = .ok (.getfield 12, 3) := by decide +kernel
theorem dX8_priceUntied_8 : decode cX8_priceUntied 8 = .ok (.invokevirtual 188, 3) := by decide +kernel
theorem dX8_priceUntied_11 : decode cX8_priceUntied 11 = .ok (.aload_n 0, 1) := by decide +kernel
theorem dX8_priceUntied_12 : decode cX8_priceUntied 12 = .ok (.getfield 19, 3) := by decide +kernel
theorem dX8_priceUntied_15 : decode cX8_priceUntied 15 = .ok (.iload_n 1, 1) := by decide +kernel
theorem dX8_priceUntied_16 : decode cX8_priceUntied 16 = .ok (.iload_n 2, 1) := by decide +kernel
theorem dX8_priceUntied_17 : decode cX8_priceUntied 17 = .ok (.iconst 0, 1) := by decide +kernel
theorem dX8_priceUntied_18 : decode cX8_priceUntied 18 = .ok (.invokevirtual 169, 3) := by decide +kernel
theorem dX8_priceUntied_21 : decode cX8_priceUntied 21 = .ok (.aload_n 0, 1) := by decide +kernel
theorem dX8_priceUntied_22 : decode cX8_priceUntied 22 = .ok (.getfield 42, 3) := by decide +kernel
theorem dX8_priceUntied_25 : decode cX8_priceUntied 25 = .ok (.aload_n 0, 1) := by decide +kernel
theorem dX8_priceUntied_26 : decode cX8_priceUntied 26 = .ok (.getfield 19, 3) := by decide +kernel
theorem dX8_priceUntied_29 : decode cX8_priceUntied 29 = .ok (.invokevirtual 235, 3) := by decide +kernel
theorem dX8_priceUntied_32 : decode cX8_priceUntied 32 = .ok (.aload_n 0, 1) := by decide +kernel
theorem dX8_priceUntied_33 : decode cX8_priceUntied 33 = .ok (.getfield 42, 3) := by decide +kernel
theorem dX8_priceUntied_36 : decode cX8_priceUntied 36 = .ok (.invokevirtual 257, 3) := by decide +kernel
theorem dX8_priceUntied_39 : decode cX8_priceUntied 39 = .ok (.ireturn, 1) := by decide +kernel
theorem dX8_shelvesInUse_0 : decode cX8_shelvesInUse 0 = .ok (.iconst 0, 1) := by decide +kernel
theorem dX8_shelvesInUse_1 : decode cX8_shelvesInUse 1 = .ok (.istore_n 1, 1) := by decide +kernel
theorem dX8_shelvesInUse_2 : decode cX8_shelvesInUse 2 = .ok (.iconst 0, 1) := by decide +kernel
theorem dX8_shelvesInUse_3 : decode cX8_shelvesInUse 3 = .ok (.istore_n 2, 1) := by decide +kernel
theorem dX8_shelvesInUse_4 : decode cX8_shelvesInUse 4 = .ok (.iload_n 2, 1) := by decide +kernel
theorem dX8_shelvesInUse_5 : decode cX8_shelvesInUse 5 = .ok (.bipush 8, 2) := by decide +kernel
theorem dX8_shelvesInUse_7 : decode cX8_shelvesInUse 7 = .ok (.if_icmp .ge 25, 3) := by decide +kernel
theorem dX8_shelvesInUse_10 : decode cX8_shelvesInUse 10 = .ok (.aload_n 0, 1) := by decide +kernel
theorem dX8_shelvesInUse_11 : decode cX8_shelvesInUse 11 = .ok (.getfield 31, 3) := by decide +kernel
theorem dX8_shelvesInUse_14 : decode cX8_shelvesInUse 14 = .ok (.iload_n 2, 1) := by decide +kernel
theorem dX8_shelvesInUse_15 : decode cX8_shelvesInUse 15 = .ok (.aaload, 1) := by decide +kernel
theorem dX8_shelvesInUse_16 : decode cX8_shelvesInUse 16 = .ok (.getfield 109, 3) := by decide +kernel
theorem dX8_shelvesInUse_19 : decode cX8_shelvesInUse 19 = .ok (.iconst (-1), 1) := by decide +kernel
theorem dX8_shelvesInUse_20 : decode cX8_shelvesInUse 20 = .ok (.if_icmp .eq 6, 3) := by decide +kernel
theorem dX8_shelvesInUse_23 : decode cX8_shelvesInUse 23 = .ok (.iinc 1 1, 3) := by decide +kernel
theorem dX8_shelvesInUse_26 : decode cX8_shelvesInUse 26 = .ok (.iinc 2 1, 3) := by decide +kernel
theorem dX8_shelvesInUse_29 : decode cX8_shelvesInUse 29 = .ok (.goto (-25), 3) := by decide +kernel
theorem dX8_shelvesInUse_32 : decode cX8_shelvesInUse 32 = .ok (.iload_n 1, 1) := by decide +kernel
theorem dX8_shelvesInUse_33 : decode cX8_shelvesInUse 33 = .ok (.ireturn, 1) := by decide +kernel
theorem dX8_within_0 : decode cX8_within 0 = .ok (.iload_n 0, 1) := by decide +kernel
theorem dX8_within_1 : decode cX8_within 1 = .ok (.iload_n 1, 1) := by decide +kernel
theorem dX8_within_2 : decode cX8_within 2 = .ok (.if_icmp .lt 12, 3) := by decide +kernel
theorem dX8_within_5 : decode cX8_within 5 = .ok (.iload_n 0, 1) := by decide +kernel
theorem dX8_within_6 : decode cX8_within 6 = .ok (.iload_n 2, 1) := by decide +kernel
theorem dX8_within_7 : decode cX8_within 7 = .ok (.if_icmp .gt 7, 3) := by decide +kernel
theorem dX8_within_10 : decode cX8_within 10 = .ok (.iconst 1, 1) := by decide +kernel
theorem dX8_within_11 : decode cX8_within 11 = .ok (.goto 4, 3) := by decide +kernel
theorem dX8_within_14 : decode cX8_within 14 = .ok (.iconst 0, 1) := by decide +kernel
theorem dX8_within_15 : decode cX8_within 15 = .ok (.ireturn, 1) := by decide +kernel
set_option maxRecDepth 20000 in
theorem ggX8_isShelf_X8_within : GoodIn wsX8_isShelf wsX8_within := goodIn_r _ [4] (by decide +kernel) (by decide +kernel)
set_option maxRecDepth 20000 in
theorem gX8_isShelf_X8_within : GoodIn wsX8_isShelf (va_wsS RX8 79 yX8_within wsX8_within) := goodIn_app (goodIn_of _ (by decide +kernel)) ggX8_isShelf_X8_within
theorem dX8_isShelf_0 : decode cX8_isShelf 0 = .ok (.iload_n 0, 1) := by decide +kernel
theorem dX8_isShelf_1 : decode cX8_isShelf 1 = .ok (.iconst 0, 1) := by decide +kernel
theorem dX8_isShelf_2 : decode cX8_isShelf 2 = .ok (.bipush 7, 2) := by decide +kernel
theorem dX8_isShelf_4 : decode cX8_isShelf 4 = .ok (.invokestatic 79, 3) := by decide +kernel
theorem dX8_isShelf_7 : decode cX8_isShelf 7 = .ok (.ireturn, 1) := by decide +kernel
set_option maxRecDepth 20000 in
theorem ggX8_isKind_X8_within : GoodIn wsX8_isKind wsX8_within := goodIn_r _ [4] (by decide +kernel) (by decide +kernel)
set_option maxRecDepth 20000 in
theorem gX8_isKind_X8_within : GoodIn wsX8_isKind (va_wsS RX8 79 yX8_within wsX8_within) := goodIn_app (goodIn_of _ (by decide +kernel)) ggX8_isKind_X8_within
theorem dX8_isKind_0 : decode cX8_isKind 0 = .ok (.iload_n 0, 1) := by decide +kernel
theorem dX8_isKind_1 : decode cX8_isKind 1 = .ok (.iconst 0, 1) := by decide +kernel
theorem dX8_isKind_2 : decode cX8_isKind 2 = .ok (.iconst 5, 1) := by decide +kernel
theorem dX8_isKind_3 : decode cX8_isKind 3 = .ok (.invokestatic 79, 3) := by decide +kernel
theorem dX8_isKind_6 : decode cX8_isKind 6 = .ok (.ireturn, 1) := by decide +kernel
theorem dX8_has_0 : decode cX8_has 0 = .ok (.iload_n 0, 1) := by decide +kernel
theorem dX8_has_1 : decode cX8_has 1 = .ok (.iload_n 1, 1) := by decide +kernel
theorem dX8_has_2 : decode cX8_has 2 = .ok (.ishr, 1) := by decide +kernel
theorem dX8_has_3 : decode cX8_has 3 = .ok (.iconst 1, 1) := by decide +kernel
theorem dX8_has_4 : decode cX8_has 4 = .ok (.iand, 1) := by decide +kernel
theorem dX8_has_5 : decode cX8_has 5 = .ok (.iconst 1, 1) := by decide +kernel
theorem dX8_has_6 : decode cX8_has 6 = .ok (.if_icmp .ne 7, 3) := by decide +kernel
theorem dX8_has_9 : decode cX8_has 9 = .ok (.iconst 1, 1) := by decide +kernel
theorem dX8_has_10 : decode cX8_has 10 = .ok (.goto 4, 3) := by decide +kernel
theorem dX8_has_13 : decode cX8_has 13 = .ok (.iconst 0, 1) := by decide +kernel
theorem dX8_has_14 : decode cX8_has 14 = .ok (.ireturn, 1) := by decide +kernel
set_option maxRecDepth 20000 in
theorem ggX8_isOfKind_X8_isKind : GoodIn wsX8_isOfKind wsX8_isKind := goodIn_r _ [5, 6, 7, 4, 8] (by decide +kernel) (by decide +kernel)
set_option maxRecDepth 20000 in
theorem gX8_isOfKind_X8_isKind : GoodIn wsX8_isOfKind (va_wsS RX8 133 yX8_isKind wsX8_isKind) := goodIn_app (goodIn_of _ (by decide +kernel)) ggX8_isOfKind_X8_isKind
theorem dX8_isOfKind_0 : decode cX8_isOfKind 0 = .ok (.iload_n 0, 1) := by decide +kernel
theorem dX8_isOfKind_1 : decode cX8_isOfKind 1 = .ok (.istore_n 2, 1) := by decide +kernel
theorem dX8_isOfKind_2 : decode cX8_isOfKind 2 = .ok (.iconst 0, 1) := by decide +kernel
theorem dX8_isOfKind_3 : decode cX8_isOfKind 3 = .ok (.istore_n 3, 1) := by decide +kernel
theorem dX8_isOfKind_4 : decode cX8_isOfKind 4 = .ok (.iload_n 3, 1) := by decide +kernel
theorem dX8_isOfKind_5 : decode cX8_isOfKind 5 = .ok (.bipush 6, 2) := by decide +kernel
theorem dX8_isOfKind_7 : decode cX8_isOfKind 7 = .ok (.if_icmp .ge 29, 3) := by decide +kernel
theorem dX8_isOfKind_10 : decode cX8_isOfKind 10 = .ok (.iload_n 2, 1) := by decide +kernel
theorem dX8_isOfKind_11 : decode cX8_isOfKind 11 = .ok (.invokestatic 133, 3) := by decide +kernel
theorem dX8_isOfKind_14 : decode cX8_isOfKind 14 = .ok (.ifCond .eq 22, 3) := by decide +kernel
theorem dX8_isOfKind_17 : decode cX8_isOfKind 17 = .ok (.iload_n 2, 1) := by decide +kernel
theorem dX8_isOfKind_18 : decode cX8_isOfKind 18 = .ok (.iload_n 1, 1) := by decide +kernel
theorem dX8_isOfKind_19 : decode cX8_isOfKind 19 = .ok (.if_icmp .ne 5, 3) := by decide +kernel
theorem dX8_isOfKind_22 : decode cX8_isOfKind 22 = .ok (.iconst 1, 1) := by decide +kernel
theorem dX8_isOfKind_23 : decode cX8_isOfKind 23 = .ok (.ireturn, 1) := by decide +kernel
theorem dX8_isOfKind_24 : decode cX8_isOfKind 24 = .ok (.getstatic 341, 3) := by decide +kernel
theorem dX8_isOfKind_27 : decode cX8_isOfKind 27 = .ok (.iload_n 2, 1) := by decide +kernel
theorem dX8_isOfKind_28 : decode cX8_isOfKind 28 = .ok (.iaload, 1) := by decide +kernel
theorem dX8_isOfKind_29 : decode cX8_isOfKind 29 = .ok (.istore_n 2, 1) := by decide +kernel
theorem dX8_isOfKind_30 : decode cX8_isOfKind 30 = .ok (.iinc 3 1, 3) := by decide +kernel
theorem dX8_isOfKind_33 : decode cX8_isOfKind 33 = .ok (.goto (-29), 3) := by decide +kernel
theorem dX8_isOfKind_36 : decode cX8_isOfKind 36 = .ok (.iconst 0, 1) := by decide +kernel
theorem dX8_isOfKind_37 : decode cX8_isOfKind 37 = .ok (.ireturn, 1) := by decide +kernel
