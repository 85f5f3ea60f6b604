theorem dX9_init_0 : decode cX9_init 0 = .ok (.aload_n 0, 1) := by decide +kernel
theorem dX9_init_1 : decode cX9_init 1 = .ok (.invokespecial 1, 3) := by decide +kernel
theorem dX9_init_4 : decode cX9_init 4 = .ok (.aload_n 0, 1) := by decide +kernel
theorem dX9_init_5 : decode cX9_init 5 = .ok (.bipush 8, 2) := by decide +kernel
theorem dX9_init_7 : decode cX9_init 7 = .ok (.newarray .int, 2) := by decide +kernel
theorem dX9_init_9 : decode cX9_init 9 = .ok (.putfield 7, 3) := by decide +kernel
theorem dX9_init_12 : decode cX9_init 12 = .ok (.aload_n 0, 1) := by decide +kernel
theorem dX9_init_13 : decode cX9_init 13 = .ok (.bipush 8, 2) := by decide +kernel
theorem dX9_init_15 : decode cX9_init 15 = .ok (.newarray .int, 2) := by decide +kernel
theorem dX9_init_17 : decode cX9_init 17 = .ok (.putfield 13, 3) := by decide +kernel
theorem dX9_init_20 : decode cX9_init 20 = .ok (.aload_n 0, 1) := by decide +kernel
theorem dX9_init_21 : decode cX9_init 21 = .ok (.bipush 8, 2) := by decide +kernel
theorem dX9_init_23 : decode cX9_init 23 = .ok (.newarray .int, 2) := by decide +kernel
theorem dX9_init_25 : decode cX9_init 25 = .ok (.putfield 16, 3) := by decide +kernel
theorem dX9_init_28 : decode cX9_init 28 = .ok (.aload_n 0, 1) := by decide +kernel
theorem dX9_init_29 : decode cX9_init 29 = .ok (.bipush 8, 2) := by decide +kernel
theorem dX9_init_31 : decode cX9_init 31 = .ok (.bipush 40, 2) := by decide +kernel
theorem dX9_init_33 : decode cX9_init 33 = .ok (.multianewarray 19 2, 4) := by decide +kernel
theorem dX9_init_37 : decode cX9_init 37 = .ok (.putfield 21, 3) := by decide +kernel
theorem dX9_init_40 : decode cX9_init 40 = .ok (.aload_n 0, 1) := by decide +kernel
theorem dX9_init_41 : decode cX9_init 41 = .ok (.bipush 40, 2) := by decide +kernel
theorem dX9_init_43 : decode cX9_init 43 = .ok (.newarray .long, 2) := by decide +kernel
theorem dX9_init_45 : decode cX9_init 45 = .ok (.putfield 24, 3) := by decide +kernel
theorem dX9_init_48 : decode cX9_init 48 = .ok (.aload_n 0, 1) := by decide +kernel
theorem dX9_init_49 : decode cX9_init 49 = .ok (.bipush 8, 2) := by decide +kernel
theorem dX9_init_51 : decode cX9_init 51 = .ok (.newarray .int, 2) := by decide +kernel
theorem dX9_init_53 : decode cX9_init 53 = .ok (.putfield 28, 3) := by decide +kernel
theorem dX9_init_56 : decode cX9_init 56 = .ok (.aload_n 0, 1) := by decide +kernel
theorem dX9_init_57 : decode cX9_init 57 = .ok (.sipush 250, 3) := by decide +kernel
theorem dX9_init_60 : decode cX9_init 60 = .ok (.newarray .int, 2) := by decide +kernel
theorem dX9_init_62 : decode cX9_init 62 = .ok (.putfield 31, 3) := by decide +kernel
theorem dX9_init_65 : decode cX9_init 65 = .ok (.aload_n 0, 1) := by decide +kernel
theorem dX9_init_66 : decode cX9_init 66 = .ok (.bipush 8, 2) := by decide +kernel
theorem dX9_init_68 : decode cX9_init 68 = .ok (.newarray .int, 2) := by decide +kernel
theorem dX9_init_70 : decode cX9_init 70 = .ok (.putfield 34, 3) := by decide +kernel
theorem dX9_init_73 : decode cX9_init 73 = .ok (.aload_n 0, 1) := by decide +kernel
theorem dX9_init_74 : decode cX9_init 74 = .ok (.bipush 13, 2) := by decide +kernel
theorem dX9_init_76 : decode cX9_init 76 = .ok (.putfield 37, 3) := by decide +kernel
theorem dX9_init_79 : decode cX9_init 79 = .ok (.aload_n 0, 1) := by decide +kernel
theorem dX9_init_80 : decode cX9_init 80 = .ok (.iconst 3, 1) := by decide +kernel
theorem dX9_init_81 : decode cX9_init 81 = .ok (.putfield 41, 3) := by decide +kernel
theorem dX9_init_84 : decode cX9_init 84 = .ok (.aload_n 0, 1) := by decide +kernel
theorem dX9_init_85 : decode cX9_init 85 = .ok (.iconst 3, 1) := by decide +kernel
theorem dX9_init_86 : decode cX9_init 86 = .ok (.putfield 44, 3) := by decide +kernel
theorem dX9_init_89 : decode cX9_init 89 = .ok (.aload_n 0, 1) := by decide +kernel
theorem dX9_init_90 : decode cX9_init 90 = .ok (.iconst 2, 1) := by decide +kernel
theorem dX9_init_91 : decode cX9_init 91 = .ok (.putfield 47, 3) := by decide +kernel
theorem dX9_init_94 : decode cX9_init 94 = .ok (.aload_n 0, 1) := by decide +kernel
theorem dX9_init_95 : decode cX9_init 95 = .ok (.bipush 8, 2) := by decide +kernel
theorem dX9_init_97 : decode cX9_init 97 = .ok (.newarray .int, 2) := by decide +kernel
theorem dX9_init_99 : decode cX9_init 99 = .ok (.putfield 50, 3) := by decide +kernel
theorem dX9_init_102 : decode cX9_init 102 = .ok (.aload_n 0, 1) := by decide +kernel
theorem dX9_init_103 : decode cX9_init 103 = .ok (.bipush 8, 2) := by decide +kernel
theorem dX9_init_105 : decode cX9_init 105 = .ok (.newarray .int, 2) := by decide +kernel
theorem dX9_init_107 : decode cX9_init 107 = .ok (.putfield 53, 3) := by decide +kernel
theorem dX9_init_110 : decode cX9_init 110 = .ok (.aload_n 0, 1) := by decide +kernel
theorem dX9_init_111 : decode cX9_init 111 = .ok (.bipush 8, 2) := by decide +kernel
theorem dX9_init_113 : decode cX9_init 113 = .ok (.newarray .int, 2) := by decide +kernel
theorem dX9_init_115 : decode cX9_init 115 = .ok (.putfield 56, 3) := by decide +kernel
theorem dX9_init_118 : decode cX9_init 118 = .ok (.aload_n 0, 1) := by decide +kernel
theorem dX9_init_119 : decode cX9_init 119 = .ok (.bipush 8, 2) := by decide +kernel
theorem dX9_init_121 : decode cX9_init 121 = .ok (.newarray .int, 2) := by decide +kernel
theorem dX9_init_123 : decode cX9_init 123 = .ok (.putfield 59, 3) := by decide +kernel
theorem dX9_init_126 : decode cX9_init 126 = .ok (.aload_n 0, 1) := by decide +kernel
theorem dX9_init_127 : decode cX9_init 127 = .ok (.bipush 8, 2) := by decide +kernel
theorem dX9_init_129 : decode cX9_init 129 = .ok (.newarray .int, 2) := by decide +kernel
theorem dX9_init_131 : decode cX9_init 131 = .ok (.putfield 62, 3) := by decide +kernel
theorem dX9_init_134 : decode cX9_init 134 = .ok (.aload_n 0, 1) := by decide +kernel
theorem dX9_init_135 : decode cX9_init 135 = .ok (.bipush 8, 2) := by decide +kernel
theorem dX9_init_137 : decode cX9_init 137 = .ok (.newarray .int, 2) := by decide +kernel
theorem dX9_init_139 : decode cX9_init 139 = .ok (.putfield 65, 3) := by decide +kernel
theorem dX9_init_142 : decode cX9_init 142 = .ok (.aload_n 0, 1) := by decide +kernel
theorem dX9_init_143 : decode cX9_init 143 = .ok (.iconst 1, 1) := by decide +kernel
theorem dX9_init_144 : decode cX9_init 144 = .ok (.putfield 68, 3) := by decide +kernel
theorem dX9_init_147 : decode cX9_init 147 = .ok (.aload_n 0, 1) := by decide +kernel
theorem dX9_init_148 : decode cX9_init 148 = .ok (.iconst 4, 1) := by decide +kernel
theorem dX9_init_149 : decode cX9_init 149 = .ok (.newarray .int, 2) := by decide +kernel
theorem dX9_init_151 : decode cX9_init 151 = .ok (.putfield 71, 3) := by decide +kernel
theorem dX9_init_154 : decode cX9_init 154 = .ok (.aload_n 0, 1) := by decide +kernel
theorem dX9_init_155 : decode cX9_init 155 = .ok (.sipush 401, 3) := by decide +kernel
theorem dX9_init_158 : decode cX9_init 158 = .ok (.newarray .int, 2) := by decide +kernel
theorem dX9_init_160 : decode cX9_init 160 = .ok (.putfield 74, 3) := by decide +kernel
theorem dX9_init_163 : decode cX9_init 163 = .ok (.aload_n 0, 1) := by decide +kernel
theorem dX9_init_164 : decode cX9_init 164 = .ok (.sipush 256, 3) := by decide +kernel
theorem dX9_init_167 : decode cX9_init 167 = .ok (.newarray .int, 2) := by decide +kernel
theorem dX9_init_169 : decode cX9_init 169 = .ok (.putfield 77, 3) := by decide +kernel
theorem dX9_init_172 : decode cX9_init 172 = .ok (.aload_n 0, 1) := by decide +kernel
theorem dX9_init_173 : decode cX9_init 173 = .ok (.sipush 256, 3) := by decide +kernel
theorem dX9_init_176 : decode cX9_init 176 = .ok (.newarray .int, 2) := by decide +kernel
theorem dX9_init_178 : decode cX9_init 178 = .ok (.putfield 80, 3) := by decide +kernel
theorem dX9_init_181 : decode cX9_init 181 = .ok (.aload_n 0, 1) := by decide +kernel
theorem dX9_init_182 : decode cX9_init 182 = .ok (.iconst 2, 1) := by decide +kernel
theorem dX9_init_183 : decode cX9_init 183 = .ok (.bipush 100, 2) := by decide +kernel
theorem dX9_init_185 : decode cX9_init 185 = .ok (.multianewarray 83 2, 4) := by decide +kernel
theorem dX9_init_189 : decode cX9_init 189 = .ok (.putfield 85, 3) := by decide +kernel
theorem dX9_init_192 : decode cX9_init 192 = .ok (.aload_n 0, 1) := by decide +kernel
theorem dX9_init_193 : decode cX9_init 193 = .ok (.bipush 9, 2) := by decide +kernel
theorem dX9_init_195 : decode cX9_init 195 = .ok (.sipush 256, 3) := by decide +kernel
theorem dX9_init_198 : decode cX9_init 198 = .ok (.multianewarray 88 2, 4) := by decide +kernel
theorem dX9_init_202 : decode cX9_init 202 = .ok (.putfield 90, 3) := by decide +kernel
theorem dX9_init_205 : decode cX9_init 205 = .ok (.return_, 1) := by decide +kernel
theorem dX9_refuse_0 : decode cX9_refuse 0 = .ok (.aload_n 0, 1) := by decide +kernel
theorem dX9_refuse_1 : decode cX9_refuse 1 = .ok (.getfield 34, 3) := by decide +kernel
theorem dX9_refuse_4 : decode cX9_refuse 4 = .ok (.iload_n 1, 1) := by decide +kernel
theorem dX9_refuse_5 : decode cX9_refuse 5 = .ok (.ineg, 1) := by decide +kernel
theorem dX9_refuse_6 : decode cX9_refuse 6 = .ok (.sipush 1000, 3) := by decide +kernel
theorem dX9_refuse_9 : decode cX9_refuse 9 = .ok (.isub, 1) := by decide +kernel
theorem dX9_refuse_10 : decode cX9_refuse 10 = .ok (.dup2, 1) := by decide +kernel
theorem dX9_refuse_11 : decode cX9_refuse 11 = .ok (.iaload, 1) := by decide +kernel
theorem dX9_refuse_12 : decode cX9_refuse 12 = .ok (.iconst 1, 1) := by decide +kernel
theorem dX9_refuse_13 : decode cX9_refuse 13 = .ok (.iadd, 1) := by decide +kernel
theorem dX9_refuse_14 : decode cX9_refuse 14 = .ok (.iastore, 1) := by decide +kernel
theorem dX9_refuse_15 : decode cX9_refuse 15 = .ok (.iload_n 1, 1) := by decide +kernel
theorem dX9_refuse_16 : decode cX9_refuse 16 = .ok (.ireturn, 1) := by decide +kernel
theorem dX9_in_0 : decode cX9_in 0 = .ok (.lload_n 0, 1) := by decide +kernel
theorem dX9_in_1 : decode cX9_in 1 = .ok (.lload_n 2, 1) := by decide +kernel
theorem dX9_in_2 : decode cX9_in 2 = .ok (.lcmp, 1) := by decide +kernel
theorem dX9_in_3 : decode cX9_in 3 = .ok (.ifCond .lt 14, 3) := by decide +kernel
theorem dX9_in_6 : decode cX9_in 6 = .ok (.lload_n 0, 1) := by decide +kernel
theorem dX9_in_7 : decode cX9_in 7 = .ok (.lload 4, 2) := by decide +kernel
theorem dX9_in_9 : decode cX9_in 9 = .ok (.lcmp, 1) := by decide +kernel
theorem dX9_in_10 : decode cX9_in 10 = .ok (.ifCond .gt 7, 3) := by decide +kernel
theorem dX9_in_13 : decode cX9_in 13 = .ok (.iconst 1, 1) := by decide +kernel
theorem dX9_in_14 : decode cX9_in 14 = .ok (.goto 4, 3) := by decide +kernel
theorem dX9_in_17 : decode cX9_in 17 = .ok (.iconst 0, 1) := by decide +kernel
theorem dX9_in_18 : decode cX9_in 18 = .ok (.ireturn, 1) := by decide +kernel
set_option maxRecDepth 20000 in
theorem ggX9_isParty_X9_in : GoodIn wsX9_isParty wsX9_in := goodIn_r _ [5] (by decide +kernel) (by decide +kernel)
set_option maxRecDepth 20000 in
theorem gX9_isParty_X9_in : GoodIn wsX9_isParty (va_wsS RX9 96 yX9_in wsX9_in) := goodIn_app (goodIn_of _ (by decide +kernel)) ggX9_isParty_X9_in
theorem dX9_isParty_0 : decode cX9_isParty 0 = .ok (.iload_n 1, 1) := by decide +kernel
theorem dX9_isParty_1 : decode cX9_isParty 1 = .ok (.i2l, 1) := by decide +kernel
theorem dX9_isParty_2 : decode cX9_isParty 2 = .ok (.lconst 0, 1) := by decide +kernel
theorem dX9_isParty_3 : decode cX9_isParty 3 = .ok (.aload_n 0, 1) := by decide +kernel
theorem dX9_isParty_4 : decode cX9_isParty 4 = .ok (.getfield 93, 3) := by decide +kernel
theorem dX9_isParty_7 : decode cX9_isParty 7 = .ok (.iconst 1, 1) := by decide +kernel
theorem dX9_isParty_8 : decode cX9_isParty 8 = .ok (.isub, 1) := by decide +kernel
theorem dX9_isParty_9 : decode cX9_isParty 9 = .ok (.i2l, 1) := by decide +kernel
theorem dX9_isParty_10 : decode cX9_isParty 10 = .ok (.invokestatic 96, 3) := by decide +kernel
theorem dX9_isParty_13 : decode cX9_isParty 13 = .ok (.ireturn, 1) := by decide +kernel
theorem dX9_isOver_0 : decode cX9_isOver 0 = .ok (.aload_n 0, 1) := by decide +kernel
theorem dX9_isOver_1 : decode cX9_isOver 1 = .ok (.getfield 100, 3) := by decide +kernel
theorem dX9_isOver_4 : decode cX9_isOver 4 = .ok (.iload_n 1, 1) := by decide +kernel
theorem dX9_isOver_5 : decode cX9_isOver 5 = .ok (.ishr, 1) := by decide +kernel
theorem dX9_isOver_6 : decode cX9_isOver 6 = .ok (.iconst 1, 1) := by decide +kernel
theorem dX9_isOver_7 : decode cX9_isOver 7 = .ok (.iand, 1) := by decide +kernel
theorem dX9_isOver_8 : decode cX9_isOver 8 = .ok (.iconst 1, 1) := by decide +kernel
theorem dX9_isOver_9 : decode cX9_isOver 9 = .ok (.if_icmp .ne 7, 3) := by decide +kernel
theorem dX9_isOver_12 : decode cX9_isOver 12 = .ok (.iconst 1, 1) := by decide +kernel
theorem dX9_isOver_13 : decode cX9_isOver 13 = .ok (.goto 4, 3) := by decide +kernel
theorem dX9_isOver_16 : decode cX9_isOver 16 = .ok (.iconst 0, 1) := by decide +kernel
theorem dX9_isOver_17 : decode cX9_isOver 17 = .ok (.ireturn, 1) := by decide +kernel
set_option maxRecDepth 20000 in
theorem ggX9_row_X9_in : GoodIn wsX9_row wsX9_in := goodIn_r _ [11] (by decide +kernel) (by decide +kernel)
set_option maxRecDepth 20000 in
theorem gX9_row_X9_in : GoodIn wsX9_row (va_wsS RX9 96 yX9_in wsX9_in) := goodIn_app (goodIn_of _ (by decide +kernel)) ggX9_row_X9_in
set_option maxRecDepth 20000 in
theorem ggX9_row_X9_refuse : GoodIn wsX9_row wsX9_refuse := goodIn_r _ [15, 16, 17, 18, 19, 20, 21, 22, 23, 24, 25, 26, 27, 28, 29, 30, 31, 32, 33, 34, 35, 36, 37, 38, 39, 40, 41, 42, 43, 44, 45, 46, 47, 48, 49, 50, 51, 52, 53, 54, 55, 56, 57, 58] (by decide +kernel) (by decide +kernel)
set_option maxRecDepth 20000 in
theorem gX9_row_X9_refuse : GoodIn wsX9_row (wsV RX9 109 RX9 yX9_refuse wsX9_refuse) := goodIn_app (goodIn_of _ (by decide +kernel)) ggX9_row_X9_refuse
theorem dX9_row_0 : decode cX9_row 0 = .ok (.iload_n 1, 1) := by decide +kernel
theorem dX9_row_1 : decode cX9_row 1 = .ok (.i2l, 1) := by decide +kernel
theorem dX9_row_2 : decode cX9_row 2 = .ok (.lconst 0, 1) := by decide +kernel
theorem dX9_row_3 : decode cX9_row 3 = .ok (.ldc2_w 103, 3) := by decide +kernel
theorem dX9_row_6 : decode cX9_row 6 = .ok (.invokestatic 96, 3) := by decide +kernel
theorem dX9_row_9 : decode cX9_row 9 = .ok (.ifCond .eq 27, 3) := by decide +kernel
theorem dX9_row_12 : decode cX9_row 12 = .ok (.iload_n 2, 1) := by decide +kernel
theorem dX9_row_13 : decode cX9_row 13 = .ok (.i2l, 1) := by decide +kernel
theorem dX9_row_14 : decode cX9_row 14 = .ok (.lconst 0, 1) := by decide +kernel
theorem dX9_row_15 : decode cX9_row 15 = .ok (.ldc2_w 105, 3) := by decide +kernel
theorem dX9_row_18 : decode cX9_row 18 = .ok (.invokestatic 96, 3) := by decide +kernel
theorem dX9_row_21 : decode cX9_row 21 = .ok (.ifCond .eq 15, 3) := by decide +kernel
theorem dX9_row_24 : decode cX9_row 24 = .ok (.iload_n 3, 1) := by decide +kernel
theorem dX9_row_25 : decode cX9_row 25 = .ok (.i2l, 1) := by decide +kernel
theorem dX9_row_26 : decode cX9_row 26 = .ok (.lconst 0, 1) := by decide +kernel
theorem dX9_row_27 : decode cX9_row 27 = .ok (.ldc2_w 107, 3) := by decide +kernel
theorem dX9_row_30 : decode cX9_row 30 = .ok (.invokestatic 96, 3) := by decide +kernel
theorem dX9_row_33 : decode cX9_row 33 = .ok (.ifCond .ne 11, 3) := by decide +kernel
theorem dX9_row_36 : decode cX9_row 36 = .ok (.aload_n 0, 1) := by decide +kernel
theorem dX9_row_37 : decode cX9_row 37 = .ok (.sipush (-1002), 3) := by decide +kernel
theorem dX9_row_40 : decode cX9_row 40 = .ok (.invokevirtual 109, 3) := by decide +kernel
theorem dX9_row_43 : decode cX9_row 43 = .ok (.ireturn, 1) := by decide +kernel
theorem dX9_row_44 : decode cX9_row 44 = .ok (.aload_n 0, 1) := by decide +kernel
theorem dX9_row_45 : decode cX9_row 45 = .ok (.getfield 7, 3) := by decide +kernel
theorem dX9_row_48 : decode cX9_row 48 = .ok (.iload_n 1, 1) := by decide +kernel
theorem dX9_row_49 : decode cX9_row 49 = .ok (.iconst 1, 1) := by decide +kernel
theorem dX9_row_50 : decode cX9_row 50 = .ok (.iastore, 1) := by decide +kernel
theorem dX9_row_51 : decode cX9_row 51 = .ok (.aload_n 0, 1) := by decide +kernel
theorem dX9_row_52 : decode cX9_row 52 = .ok (.getfield 13, 3) := by decide +kernel
theorem dX9_row_55 : decode cX9_row 55 = .ok (.iload_n 1, 1) := by decide +kernel
theorem dX9_row_56 : decode cX9_row 56 = .ok (.iload_n 2, 1) := by decide +kernel
theorem dX9_row_57 : decode cX9_row 57 = .ok (.iastore, 1) := by decide +kernel
theorem dX9_row_58 : decode cX9_row 58 = .ok (.aload_n 0, 1) := by decide +kernel
theorem dX9_row_59 : decode cX9_row 59 = .ok (.getfield 16, 3) := by decide +kernel
theorem dX9_row_62 : decode cX9_row 62 = .ok (.iload_n 1, 1) := by decide +kernel
theorem dX9_row_63 : decode cX9_row 63 = .ok (.iload_n 3, 1) := by decide +kernel
theorem dX9_row_64 : decode cX9_row 64 = .ok (.iastore, 1) := by decide +kernel
theorem dX9_row_65 : decode cX9_row 65 = .ok (.iconst 0, 1) := by decide +kernel
theorem dX9_row_66 : decode cX9_row 66 = .ok (.istore 4, 2) := by decide +kernel
theorem dX9_row_68 : decode cX9_row 68 = .ok (.iload 4, 2) := by decide +kernel
theorem dX9_row_70 : decode cX9_row 70 = .ok (.bipush 40, 2) := by decide +kernel
theorem dX9_row_72 : decode cX9_row 72 = .ok (.if_icmp .ge 19, 3) := by decide +kernel
theorem dX9_row_75 : decode cX9_row 75 = .ok (.aload_n 0, 1) := by decide +kernel
theorem dX9_row_76 : decode cX9_row 76 = .ok (.getfield 21, 3) := by decide +kernel
theorem dX9_row_79 : decode cX9_row 79 = .ok (.iload_n 1, 1) := by decide +kernel
theorem dX9_row_80 : decode cX9_row 80 = .ok (.aaload, 1) := by decide +kernel
theorem dX9_row_81 : decode cX9_row 81 = .ok (.iload 4, 2) := by decide +kernel
theorem dX9_row_83 : decode cX9_row 83 = .ok (.lconst 0, 1) := by decide +kernel
theorem dX9_row_84 : decode cX9_row 84 = .ok (.lastore, 1) := by decide +kernel
theorem dX9_row_85 : decode cX9_row 85 = .ok (.iinc 4 1, 3) := by decide +kernel
theorem dX9_row_88 : decode cX9_row 88 = .ok (.goto (-20), 3) := by decide +kernel
theorem dX9_row_91 : decode cX9_row 91 = .ok (.iconst 1, 1) := by decide +kernel
theorem dX9_row_92 : decode cX9_row 92 = .ok (.ireturn, 1) := by decide +kernel
theorem dX9_fit_0 : decode cX9_fit 0 = .ok (.iload_n 0, 1) := by decide +kernel
theorem dX9_fit_1 : decode cX9_fit 1 = .ok (.tableswitch 47 0 3 #[31, 36, 41, 45], 31) := by decide +kernel
theorem dX9_fit_32 : decode cX9_fit 32 = .ok (.lload_n 1, 1) := by decide +kernel
theorem dX9_fit_33 : decode cX9_fit 33 = .ok (.l2i, 1) := by decide +kernel
theorem dX9_fit_34 : decode cX9_fit 34 = .ok (.i2b, 1) := by decide +kernel
theorem dX9_fit_35 : decode cX9_fit 35 = .ok (.i2l, 1) := by decide +kernel
theorem dX9_fit_36 : decode cX9_fit 36 = .ok (.lreturn, 1) := by decide +kernel
theorem dX9_fit_37 : decode cX9_fit 37 = .ok (.lload_n 1, 1) := by decide +kernel
theorem dX9_fit_38 : decode cX9_fit 38 = .ok (.l2i, 1) := by decide +kernel
theorem dX9_fit_39 : decode cX9_fit 39 = .ok (.i2s, 1) := by decide +kernel
theorem dX9_fit_40 : decode cX9_fit 40 = .ok (.i2l, 1) := by decide +kernel
theorem dX9_fit_41 : decode cX9_fit 41 = .ok (.lreturn, 1) := by decide +kernel
theorem dX9_fit_42 : decode cX9_fit 42 = .ok (.lload_n 1, 1) := by decide +kernel
theorem dX9_fit_43 : decode cX9_fit 43 = .ok (.l2i, 1) := by decide +kernel
theorem dX9_fit_44 : decode cX9_fit 44 = .ok (.i2l, 1) := by decide +kernel
theorem dX9_fit_45 : decode cX9_fit 45 = .ok (.lreturn, 1) := by decide +kernel
theorem dX9_fit_46 : decode cX9_fit 46 = .ok (.lload_n 1, 1) := by decide +kernel
theorem dX9_fit_47 : decode cX9_fit 47 = .ok (.lreturn, 1) := by decide +kernel
theorem dX9_fit_48 : decode cX9_fit 48 = .ok (.lload_n 1, 1) := by decide +kernel
theorem dX9_fit_49 : decode cX9_fit 49 = .ok (.lconst 0, 1) := by decide +kernel
theorem dX9_fit_50 : decode cX9_fit 50 = .ok (.lcmp, 1) := by decide +kernel
theorem dX9_fit_51 : decode cX9_fit 51 = .ok (.ifCond .eq 7, 3) := by decide +kernel
theorem dX9_fit_54 : decode cX9_fit 54 = .ok (.lconst 1, 1) := by decide +kernel
theorem dX9_fit_55 : decode cX9_fit 55 = .ok (.goto 4, 3) := by decide +kernel
theorem dX9_fit_58 : decode cX9_fit 58 = .ok (.lconst 0, 1) := by decide +kernel
theorem dX9_fit_59 : decode cX9_fit 59 = .ok (.lreturn, 1) := by decide +kernel
set_option maxRecDepth 20000 in
theorem ggX9_noRow_X9_in : GoodIn wsX9_noRow wsX9_in := goodIn_r _ [6] (by decide +kernel) (by decide +kernel)
set_option maxRecDepth 20000 in
theorem gX9_noRow_X9_in : GoodIn wsX9_noRow (va_wsS RX9 96 yX9_in wsX9_in) := goodIn_app (goodIn_of _ (by decide +kernel)) ggX9_noRow_X9_in
set_option maxRecDepth 20000 in
theorem ggX9_noRow_X9_refuse : GoodIn wsX9_noRow wsX9_refuse := goodIn_r _ [10, 11, 12, 13, 14, 15, 16, 17, 18, 19, 20, 21, 22, 23, 24, 25, 26, 27, 28, 29, 30, 31, 32, 33, 34, 35, 36, 37, 38, 39, 40, 41, 42, 43, 44, 45, 46, 47, 48, 49, 50, 51, 52, 53] (by decide +kernel) (by decide +kernel)
set_option maxRecDepth 20000 in
theorem gX9_noRow_X9_refuse : GoodIn wsX9_noRow (wsV RX9 109 RX9 yX9_refuse wsX9_refuse) := goodIn_app (goodIn_of _ (by decide +kernel)) ggX9_noRow_X9_refuse
theorem dX9_noRow_0 : decode cX9_noRow 0 = .ok (.iload_n 1, 1) := by decide +kernel
theorem dX9_noRow_1 : decode cX9_noRow 1 = .ok (.i2l, 1) := by decide +kernel
theorem dX9_noRow_2 : decode cX9_noRow 2 = .ok (.lconst 0, 1) := by decide +kernel
theorem dX9_noRow_3 : decode cX9_noRow 3 = .ok (.ldc2_w 103, 3) := by decide +kernel
theorem dX9_noRow_6 : decode cX9_noRow 6 = .ok (.invokestatic 96, 3) := by decide +kernel
theorem dX9_noRow_9 : decode cX9_noRow 9 = .ok (.ifCond .ne 11, 3) := by decide +kernel
theorem dX9_noRow_12 : decode cX9_noRow 12 = .ok (.aload_n 0, 1) := by decide +kernel
theorem dX9_noRow_13 : decode cX9_noRow 13 = .ok (.sipush (-1002), 3) := by decide +kernel
theorem dX9_noRow_16 : decode cX9_noRow 16 = .ok (.invokevirtual 109, 3) := by decide +kernel
theorem dX9_noRow_19 : decode cX9_noRow 19 = .ok (.ireturn, 1) := by decide +kernel
theorem dX9_noRow_20 : decode cX9_noRow 20 = .ok (.aload_n 0, 1) := by decide +kernel
theorem dX9_noRow_21 : decode cX9_noRow 21 = .ok (.getfield 7, 3) := by decide +kernel
theorem dX9_noRow_24 : decode cX9_noRow 24 = .ok (.iload_n 1, 1) := by decide +kernel
theorem dX9_noRow_25 : decode cX9_noRow 25 = .ok (.iaload, 1) := by decide +kernel
theorem dX9_noRow_26 : decode cX9_noRow 26 = .ok (.iconst 2, 1) := by decide +kernel
theorem dX9_noRow_27 : decode cX9_noRow 27 = .ok (.if_icmp .ne 11, 3) := by decide +kernel
theorem dX9_noRow_30 : decode cX9_noRow 30 = .ok (.aload_n 0, 1) := by decide +kernel
theorem dX9_noRow_31 : decode cX9_noRow 31 = .ok (.sipush (-1003), 3) := by decide +kernel
theorem dX9_noRow_34 : decode cX9_noRow 34 = .ok (.invokevirtual 109, 3) := by decide +kernel
theorem dX9_noRow_37 : decode cX9_noRow 37 = .ok (.ireturn, 1) := by decide +kernel
theorem dX9_noRow_38 : decode cX9_noRow 38 = .ok (.aload_n 0, 1) := by decide +kernel
theorem dX9_noRow_39 : decode cX9_noRow 39 = .ok (.getfield 7, 3) := by decide +kernel
theorem dX9_noRow_42 : decode cX9_noRow 42 = .ok (.iload_n 1, 1) := by decide +kernel
theorem dX9_noRow_43 : decode cX9_noRow 43 = .ok (.iaload, 1) := by decide +kernel
theorem dX9_noRow_44 : decode cX9_noRow 44 = .ok (.ifCond .ne 13, 3) := by decide +kernel
theorem dX9_noRow_47 : decode cX9_noRow 47 = .ok (.aload_n 0, 1) := by decide +kernel
theorem dX9_noRow_48 : decode cX9_noRow 48 = .ok (.sipush (-1004), 3) := by decide +kernel
theorem dX9_noRow_51 : decode cX9_noRow 51 = .ok (.invokevirtual 109, 3) := by decide +kernel
theorem dX9_noRow_54 : decode cX9_noRow 54 = .ok (.goto 4, 3) := by decide +kernel
theorem dX9_noRow_57 : decode cX9_noRow 57 = .ok (.iconst 0, 1) := by decide +kernel
theorem dX9_noRow_58 : decode cX9_noRow 58 = .ok (.ireturn, 1) := by decide +kernel
set_option maxRecDepth 20000 in
theorem ggX9_set_X9_noRow : GoodIn wsX9_set wsX9_noRow := goodIn_r _ [8, 9, 10, 11, 12, 7, 13, 14, 15, 16, 17, 18, 22, 23, 24, 25, 26, 27, 28, 29, 30, 31, 32, 33, 34, 35, 36, 37, 38, 39, 40, 41, 42, 43, 44, 45, 46, 47, 48, 49, 50, 51, 52, 53, 54, 55, 56, 57, 58, 59, 60, 61, 62, 63] (by decide +kernel) (by decide +kernel)
set_option maxRecDepth 20000 in
theorem gX9_set_X9_noRow : GoodIn wsX9_set (wsV RX9 113 RX9 yX9_noRow wsX9_noRow) := goodIn_app (goodIn_of _ (by decide +kernel)) ggX9_set_X9_noRow
set_option maxRecDepth 20000 in
theorem ggX9_set_X9_in : GoodIn wsX9_set wsX9_in := goodIn_r _ [13] (by decide +kernel) (by decide +kernel)
set_option maxRecDepth 20000 in
theorem gX9_set_X9_in : GoodIn wsX9_set (va_wsS RX9 96 yX9_in wsX9_in) := goodIn_app (goodIn_of _ (by decide +kernel)) ggX9_set_X9_in
set_option maxRecDepth 20000 in
theorem ggX9_set_X9_refuse : GoodIn wsX9_set wsX9_refuse := goodIn_r _ [17, 18, 22, 23, 24, 25, 26, 27, 28, 29, 30, 31, 32, 33, 34, 35, 36, 37, 38, 39, 40, 41, 42, 43, 44, 45, 46, 47, 48, 49, 50, 51, 52, 53, 54, 55, 56, 57, 58, 59, 60, 61, 62, 63] (by decide +kernel) (by decide +kernel)
set_option maxRecDepth 20000 in
theorem gX9_set_X9_refuse : GoodIn wsX9_set (wsV RX9 109 RX9 yX9_refuse wsX9_refuse) := goodIn_app (goodIn_of _ (by decide +kernel)) ggX9_set_X9_refuse
set_option maxRecDepth 20000 in
theorem ggX9_set_X9_fit : GoodIn wsX9_set wsX9_fit := goodIn_r _ [21] (by decide +kernel) (by decide +kernel)
set_option maxRecDepth 20000 in
theorem gX9_set_X9_fit : GoodIn wsX9_set (va_wsS RX9 116 yX9_fit wsX9_fit) := goodIn_app (goodIn_of _ (by decide +kernel)) ggX9_set_X9_fit
theorem dX9_set_0 : decode cX9_set 0 = .ok (.aload_n 0, 1) := by decide +kernel
theorem dX9_set_1 : decode cX9_set 1 = .ok (.iload_n 1, 1) := by decide +kernel
theorem dX9_set_2 : decode cX9_set 2 = .ok (.invokevirtual 113, 3) := by decide +kernel
theorem dX9_set_5 : decode cX9_set 5 = .ok (.istore 5, 2) := by decide +kernel
theorem dX9_set_7 : decode cX9_set 7 = .ok (.iload 5, 2) := by decide +kernel
theorem dX9_set_9 : decode cX9_set 9 = .ok (.ifCond .eq 6, 3) := by decide +kernel
theorem dX9_set_12 : decode cX9_set 12 = .ok (.iload 5, 2) := by decide +kernel
theorem dX9_set_14 : decode cX9_set 14 = .ok (.ireturn, 1) := by decide +kernel
theorem dX9_set_15 : decode cX9_set 15 = .ok (.iload_n 2, 1) := by decide +kernel
theorem dX9_set_16 : decode cX9_set 16 = .ok (.i2l, 1) := by decide +kernel
theorem dX9_set_17 : decode cX9_set 17 = .ok (.lconst 0, 1) := by decide +kernel
theorem dX9_set_18 : decode cX9_set 18 = .ok (.aload_n 0, 1) := by decide +kernel
theorem dX9_set_19 : decode cX9_set 19 = .ok (.getfield 16, 3) := by decide +kernel
theorem dX9_set_22 : decode cX9_set 22 = .ok (.iload_n 1, 1) := by decide +kernel
theorem dX9_set_23 : decode cX9_set 23 = .ok (.iaload, 1) := by decide +kernel
theorem dX9_set_24 : decode cX9_set 24 = .ok (.iconst 1, 1) := by decide +kernel
theorem dX9_set_25 : decode cX9_set 25 = .ok (.isub, 1) := by decide +kernel
theorem dX9_set_26 : decode cX9_set 26 = .ok (.i2l, 1) := by decide +kernel
theorem dX9_set_27 : decode cX9_set 27 = .ok (.invokestatic 96, 3) := by decide +kernel
theorem dX9_set_30 : decode cX9_set 30 = .ok (.ifCond .ne 11, 3) := by decide +kernel
theorem dX9_set_33 : decode cX9_set 33 = .ok (.aload_n 0, 1) := by decide +kernel
theorem dX9_set_34 : decode cX9_set 34 = .ok (.sipush (-1002), 3) := by decide +kernel
theorem dX9_set_37 : decode cX9_set 37 = .ok (.invokevirtual 109, 3) := by decide +kernel
theorem dX9_set_40 : decode cX9_set 40 = .ok (.ireturn, 1) := by decide +kernel
theorem dX9_set_41 : decode cX9_set 41 = .ok (.aload_n 0, 1) := by decide +kernel
theorem dX9_set_42 : decode cX9_set 42 = .ok (.getfield 21, 3) := by decide +kernel
theorem dX9_set_45 : decode cX9_set 45 = .ok (.iload_n 1, 1) := by decide +kernel
theorem dX9_set_46 : decode cX9_set 46 = .ok (.aaload, 1) := by decide +kernel
theorem dX9_set_47 : decode cX9_set 47 = .ok (.iload_n 2, 1) := by decide +kernel
theorem dX9_set_48 : decode cX9_set 48 = .ok (.aload_n 0, 1) := by decide +kernel
theorem dX9_set_49 : decode cX9_set 49 = .ok (.getfield 13, 3) := by decide +kernel
theorem dX9_set_52 : decode cX9_set 52 = .ok (.iload_n 1, 1) := by decide +kernel
theorem dX9_set_53 : decode cX9_set 53 = .ok (.iaload, 1) := by decide +kernel
theorem dX9_set_54 : decode cX9_set 54 = .ok (.lload_n 3, 1) := by decide +kernel
theorem dX9_set_55 : decode cX9_set 55 = .ok (.invokestatic 116, 3) := by decide +kernel
theorem dX9_set_58 : decode cX9_set 58 = .ok (.lastore, 1) := by decide +kernel
theorem dX9_set_59 : decode cX9_set 59 = .ok (.iconst 1, 1) := by decide +kernel
theorem dX9_set_60 : decode cX9_set 60 = .ok (.ireturn, 1) := by decide +kernel
set_option maxRecDepth 20000 in
theorem ggX9_copy_X9_in : GoodIn wsX9_copy wsX9_in := goodIn_r _ [10] (by decide +kernel) (by decide +kernel)
set_option maxRecDepth 20000 in
theorem gX9_copy_X9_in : GoodIn wsX9_copy (va_wsS RX9 96 yX9_in wsX9_in) := goodIn_app (goodIn_of _ (by decide +kernel)) ggX9_copy_X9_in
set_option maxRecDepth 20000 in
theorem ggX9_copy_X9_refuse : GoodIn wsX9_copy wsX9_refuse := goodIn_r _ [14, 15, 16, 17, 18, 19, 20, 21, 22, 23, 24, 25, 26, 27, 28, 29, 30, 31, 32, 33, 34, 35, 36, 37, 38, 39, 40, 41, 42, 43, 44, 45, 46, 47, 48, 49, 50, 51, 52, 53, 54, 55, 56, 57] (by decide +kernel) (by decide +kernel)
set_option maxRecDepth 20000 in
theorem gX9_copy_X9_refuse : GoodIn wsX9_copy (wsV RX9 109 RX9 yX9_refuse wsX9_refuse) := goodIn_app (goodIn_of _ (by decide +kernel)) ggX9_copy_X9_refuse
theorem dX9_copy_0 : decode cX9_copy 0 = .ok (.iload_n 1, 1) := by decide +kernel
theorem dX9_copy_1 : decode cX9_copy 1 = .ok (.i2l, 1) := by decide +kernel
theorem dX9_copy_2 : decode cX9_copy 2 = .ok (.lconst 0, 1) := by decide +kernel
theorem dX9_copy_3 : decode cX9_copy 3 = .ok (.ldc2_w 103, 3) := by decide +kernel
theorem dX9_copy_6 : decode cX9_copy 6 = .ok (.invokestatic 96, 3) := by decide +kernel
theorem dX9_copy_9 : decode cX9_copy 9 = .ok (.ifCond .eq 15, 3) := by decide +kernel
theorem dX9_copy_12 : decode cX9_copy 12 = .ok (.iload_n 2, 1) := by decide +kernel
theorem dX9_copy_13 : decode cX9_copy 13 = .ok (.i2l, 1) := by decide +kernel
theorem dX9_copy_14 : decode cX9_copy 14 = .ok (.lconst 0, 1) := by decide +kernel
theorem dX9_copy_15 : decode cX9_copy 15 = .ok (.ldc2_w 103, 3) := by decide +kernel
theorem dX9_copy_18 : decode cX9_copy 18 = .ok (.invokestatic 96, 3) := by decide +kernel
theorem dX9_copy_21 : decode cX9_copy 21 = .ok (.ifCond .ne 11, 3) := by decide +kernel
theorem dX9_copy_24 : decode cX9_copy 24 = .ok (.aload_n 0, 1) := by decide +kernel
theorem dX9_copy_25 : decode cX9_copy 25 = .ok (.sipush (-1002), 3) := by decide +kernel
theorem dX9_copy_28 : decode cX9_copy 28 = .ok (.invokevirtual 109, 3) := by decide +kernel
theorem dX9_copy_31 : decode cX9_copy 31 = .ok (.ireturn, 1) := by decide +kernel
theorem dX9_copy_32 : decode cX9_copy 32 = .ok (.aload_n 0, 1) := by decide +kernel
theorem dX9_copy_33 : decode cX9_copy 33 = .ok (.getfield 7, 3) := by decide +kernel
theorem dX9_copy_36 : decode cX9_copy 36 = .ok (.iload_n 1, 1) := by decide +kernel
theorem dX9_copy_37 : decode cX9_copy 37 = .ok (.iaload, 1) := by decide +kernel
theorem dX9_copy_38 : decode cX9_copy 38 = .ok (.iconst 2, 1) := by decide +kernel
theorem dX9_copy_39 : decode cX9_copy 39 = .ok (.if_icmp .eq 48, 3) := by decide +kernel
theorem dX9_copy_42 : decode cX9_copy 42 = .ok (.aload_n 0, 1) := by decide +kernel
theorem dX9_copy_43 : decode cX9_copy 43 = .ok (.getfield 7, 3) := by decide +kernel
theorem dX9_copy_46 : decode cX9_copy 46 = .ok (.iload_n 2, 1) := by decide +kernel
theorem dX9_copy_47 : decode cX9_copy 47 = .ok (.iaload, 1) := by decide +kernel
theorem dX9_copy_48 : decode cX9_copy 48 = .ok (.iconst 2, 1) := by decide +kernel
theorem dX9_copy_49 : decode cX9_copy 49 = .ok (.if_icmp .eq 38, 3) := by decide +kernel
theorem dX9_copy_52 : decode cX9_copy 52 = .ok (.aload_n 0, 1) := by decide +kernel
theorem dX9_copy_53 : decode cX9_copy 53 = .ok (.getfield 7, 3) := by decide +kernel
theorem dX9_copy_56 : decode cX9_copy 56 = .ok (.iload_n 1, 1) := by decide +kernel
theorem dX9_copy_57 : decode cX9_copy 57 = .ok (.iaload, 1) := by decide +kernel
theorem dX9_copy_58 : decode cX9_copy 58 = .ok (.iconst 1, 1) := by decide +kernel
theorem dX9_copy_59 : decode cX9_copy 59 = .ok (.if_icmp .ne 36, 3) := by decide +kernel
theorem dX9_copy_62 : decode cX9_copy 62 = .ok (.aload_n 0, 1) := by decide +kernel
theorem dX9_copy_63 : decode cX9_copy 63 = .ok (.getfield 7, 3) := by decide +kernel
theorem dX9_copy_66 : decode cX9_copy 66 = .ok (.iload_n 2, 1) := by decide +kernel
theorem dX9_copy_67 : decode cX9_copy 67 = .ok (.iaload, 1) := by decide +kernel
theorem dX9_copy_68 : decode cX9_copy 68 = .ok (.iconst 1, 1) := by decide +kernel
theorem dX9_copy_69 : decode cX9_copy 69 = .ok (.if_icmp .ne 26, 3) := by decide +kernel
theorem dX9_copy_72 : decode cX9_copy 72 = .ok (.aload_n 0, 1) := by decide +kernel
theorem dX9_copy_73 : decode cX9_copy 73 = .ok (.getfield 13, 3) := by decide +kernel
theorem dX9_copy_76 : decode cX9_copy 76 = .ok (.iload_n 1, 1) := by decide +kernel
theorem dX9_copy_77 : decode cX9_copy 77 = .ok (.iaload, 1) := by decide +kernel
theorem dX9_copy_78 : decode cX9_copy 78 = .ok (.aload_n 0, 1) := by decide +kernel
theorem dX9_copy_79 : decode cX9_copy 79 = .ok (.getfield 13, 3) := by decide +kernel
theorem dX9_copy_82 : decode cX9_copy 82 = .ok (.iload_n 2, 1) := by decide +kernel
theorem dX9_copy_83 : decode cX9_copy 83 = .ok (.iaload, 1) := by decide +kernel
theorem dX9_copy_84 : decode cX9_copy 84 = .ok (.if_icmp .eq 11, 3) := by decide +kernel
theorem dX9_copy_87 : decode cX9_copy 87 = .ok (.aload_n 0, 1) := by decide +kernel
theorem dX9_copy_88 : decode cX9_copy 88 = .ok (.sipush (-1003), 3) := by decide +kernel
theorem dX9_copy_91 : decode cX9_copy 91 = .ok (.invokevirtual 109, 3) := by decide +kernel
theorem dX9_copy_94 : decode cX9_copy 94 = .ok (.ireturn, 1) := by decide +kernel
theorem dX9_copy_95 : decode cX9_copy 95 = .ok (.aload_n 0, 1) := by decide +kernel
theorem dX9_copy_96 : decode cX9_copy 96 = .ok (.getfield 7, 3) := by decide +kernel
theorem dX9_copy_99 : decode cX9_copy 99 = .ok (.iload_n 1, 1) := by decide +kernel
theorem dX9_copy_100 : decode cX9_copy 100 = .ok (.iaload, 1) := by decide +kernel
theorem dX9_copy_101 : decode cX9_copy 101 = .ok (.ifCond .eq 12, 3) := by decide +kernel
theorem dX9_copy_104 : decode cX9_copy 104 = .ok (.aload_n 0, 1) := by decide +kernel
theorem dX9_copy_105 : decode cX9_copy 105 = .ok (.getfield 7, 3) := by decide +kernel
theorem dX9_copy_108 : decode cX9_copy 108 = .ok (.iload_n 2, 1) := by decide +kernel
theorem dX9_copy_109 : decode cX9_copy 109 = .ok (.iaload, 1) := by decide +kernel
theorem dX9_copy_110 : decode cX9_copy 110 = .ok (.ifCond .ne 11, 3) := by decide +kernel
theorem dX9_copy_113 : decode cX9_copy 113 = .ok (.aload_n 0, 1) := by decide +kernel
theorem dX9_copy_114 : decode cX9_copy 114 = .ok (.sipush (-1004), 3) := by decide +kernel
theorem dX9_copy_117 : decode cX9_copy 117 = .ok (.invokevirtual 109, 3) := by decide +kernel
theorem dX9_copy_120 : decode cX9_copy 120 = .ok (.ireturn, 1) := by decide +kernel
theorem dX9_copy_121 : decode cX9_copy 121 = .ok (.iload 5, 2) := by decide +kernel
theorem dX9_copy_123 : decode cX9_copy 123 = .ok (.ifCond .lt 61, 3) := by decide +kernel
theorem dX9_copy_126 : decode cX9_copy 126 = .ok (.iload_n 3, 1) := by decide +kernel
theorem dX9_copy_127 : decode cX9_copy 127 = .ok (.ifCond .lt 57, 3) := by decide +kernel
theorem dX9_copy_130 : decode cX9_copy 130 = .ok (.iload 4, 2) := by decide +kernel
theorem dX9_copy_132 : decode cX9_copy 132 = .ok (.ifCond .lt 52, 3) := by decide +kernel
theorem dX9_copy_135 : decode cX9_copy 135 = .ok (.iload 5, 2) := by decide +kernel
theorem dX9_copy_137 : decode cX9_copy 137 = .ok (.aload_n 0, 1) := by decide +kernel
theorem dX9_copy_138 : decode cX9_copy 138 = .ok (.getfield 16, 3) := by decide +kernel
theorem dX9_copy_141 : decode cX9_copy 141 = .ok (.iload_n 1, 1) := by decide +kernel
theorem dX9_copy_142 : decode cX9_copy 142 = .ok (.iaload, 1) := by decide +kernel
theorem dX9_copy_143 : decode cX9_copy 143 = .ok (.if_icmp .gt 41, 3) := by decide +kernel
theorem dX9_copy_146 : decode cX9_copy 146 = .ok (.iload 5, 2) := by decide +kernel
theorem dX9_copy_148 : decode cX9_copy 148 = .ok (.aload_n 0, 1) := by decide +kernel
theorem dX9_copy_149 : decode cX9_copy 149 = .ok (.getfield 16, 3) := by decide +kernel
theorem dX9_copy_152 : decode cX9_copy 152 = .ok (.iload_n 2, 1) := by decide +kernel
theorem dX9_copy_153 : decode cX9_copy 153 = .ok (.iaload, 1) := by decide +kernel
theorem dX9_copy_154 : decode cX9_copy 154 = .ok (.if_icmp .gt 30, 3) := by decide +kernel
theorem dX9_copy_157 : decode cX9_copy 157 = .ok (.iload_n 3, 1) := by decide +kernel
theorem dX9_copy_158 : decode cX9_copy 158 = .ok (.aload_n 0, 1) := by decide +kernel
theorem dX9_copy_159 : decode cX9_copy 159 = .ok (.getfield 16, 3) := by decide +kernel
theorem dX9_copy_162 : decode cX9_copy 162 = .ok (.iload_n 1, 1) := by decide +kernel
theorem dX9_copy_163 : decode cX9_copy 163 = .ok (.iaload, 1) := by decide +kernel
theorem dX9_copy_164 : decode cX9_copy 164 = .ok (.iload 5, 2) := by decide +kernel
theorem dX9_copy_166 : decode cX9_copy 166 = .ok (.isub, 1) := by decide +kernel
theorem dX9_copy_167 : decode cX9_copy 167 = .ok (.if_icmp .gt 17, 3) := by decide +kernel
theorem dX9_copy_170 : decode cX9_copy 170 = .ok (.iload 4, 2) := by decide +kernel
theorem dX9_copy_172 : decode cX9_copy 172 = .ok (.aload_n 0, 1) := by decide +kernel
theorem dX9_copy_173 : decode cX9_copy 173 = .ok (.getfield 16, 3) := by decide +kernel
theorem dX9_copy_176 : decode cX9_copy 176 = .ok (.iload_n 2, 1) := by decide +kernel
theorem dX9_copy_177 : decode cX9_copy 177 = .ok (.iaload, 1) := by decide +kernel
theorem dX9_copy_178 : decode cX9_copy 178 = .ok (.iload 5, 2) := by decide +kernel
theorem dX9_copy_180 : decode cX9_copy 180 = .ok (.isub, 1) := by decide +kernel
theorem dX9_copy_181 : decode cX9_copy 181 = .ok (.if_icmp .le 11, 3) := by decide +kernel
theorem dX9_copy_184 : decode cX9_copy 184 = .ok (.aload_n 0, 1) := by decide +kernel
theorem dX9_copy_185 : decode cX9_copy 185 = .ok (.sipush (-1002), 3) := by decide +kernel
theorem dX9_copy_188 : decode cX9_copy 188 = .ok (.invokevirtual 109, 3) := by decide +kernel
theorem dX9_copy_191 : decode cX9_copy 191 = .ok (.ireturn, 1) := by decide +kernel
theorem dX9_copy_192 : decode cX9_copy 192 = .ok (.iconst 0, 1) := by decide +kernel
theorem dX9_copy_193 : decode cX9_copy 193 = .ok (.istore 6, 2) := by decide +kernel
theorem dX9_copy_195 : decode cX9_copy 195 = .ok (.iload 6, 2) := by decide +kernel
theorem dX9_copy_197 : decode cX9_copy 197 = .ok (.iload 5, 2) := by decide +kernel
theorem dX9_copy_199 : decode cX9_copy 199 = .ok (.if_icmp .ge 27, 3) := by decide +kernel
theorem dX9_copy_202 : decode cX9_copy 202 = .ok (.aload_n 0, 1) := by decide +kernel
theorem dX9_copy_203 : decode cX9_copy 203 = .ok (.getfield 24, 3) := by decide +kernel
theorem dX9_copy_206 : decode cX9_copy 206 = .ok (.iload 6, 2) := by decide +kernel
theorem dX9_copy_208 : decode cX9_copy 208 = .ok (.aload_n 0, 1) := by decide +kernel
theorem dX9_copy_209 : decode cX9_copy 209 = .ok (.getfield 21, 3) := by decide +kernel
theorem dX9_copy_212 : decode cX9_copy 212 = .ok (.iload_n 1, 1) := by decide +kernel
theorem dX9_copy_213 : decode cX9_copy 213 = .ok (.aaload, 1) := by decide +kernel
theorem dX9_copy_214 : decode cX9_copy 214 = .ok (.iload_n 3, 1) := by decide +kernel
theorem dX9_copy_215 : decode cX9_copy 215 = .ok (.iload 6, 2) := by decide +kernel
theorem dX9_copy_217 : decode cX9_copy 217 = .ok (.iadd, 1) := by decide +kernel
theorem dX9_copy_218 : decode cX9_copy 218 = .ok (.laload, 1) := by decide +kernel
theorem dX9_copy_219 : decode cX9_copy 219 = .ok (.lastore, 1) := by decide +kernel
theorem dX9_copy_220 : decode cX9_copy 220 = .ok (.iinc 6 1, 3) := by decide +kernel
theorem dX9_copy_223 : decode cX9_copy 223 = .ok (.goto (-28), 3) := by decide +kernel
theorem dX9_copy_226 : decode cX9_copy 226 = .ok (.iconst 0, 1) := by decide +kernel
theorem dX9_copy_227 : decode cX9_copy 227 = .ok (.istore 6, 2) := by decide +kernel
theorem dX9_copy_229 : decode cX9_copy 229 = .ok (.iload 6, 2) := by decide +kernel
theorem dX9_copy_231 : decode cX9_copy 231 = .ok (.iload 5, 2) := by decide +kernel
theorem dX9_copy_233 : decode cX9_copy 233 = .ok (.if_icmp .ge 28, 3) := by decide +kernel
theorem dX9_copy_236 : decode cX9_copy 236 = .ok (.aload_n 0, 1) := by decide +kernel
theorem dX9_copy_237 : decode cX9_copy 237 = .ok (.getfield 21, 3) := by decide +kernel
theorem dX9_copy_240 : decode cX9_copy 240 = .ok (.iload_n 2, 1) := by decide +kernel
theorem dX9_copy_241 : decode cX9_copy 241 = .ok (.aaload, 1) := by decide +kernel
theorem dX9_copy_242 : decode cX9_copy 242 = .ok (.iload 4, 2) := by decide +kernel
theorem dX9_copy_244 : decode cX9_copy 244 = .ok (.iload 6, 2) := by decide +kernel
theorem dX9_copy_246 : decode cX9_copy 246 = .ok (.iadd, 1) := by decide +kernel
theorem dX9_copy_247 : decode cX9_copy 247 = .ok (.aload_n 0, 1) := by decide +kernel
theorem dX9_copy_248 : decode cX9_copy 248 = .ok (.getfield 24, 3) := by decide +kernel
theorem dX9_copy_251 : decode cX9_copy 251 = .ok (.iload 6, 2) := by decide +kernel
theorem dX9_copy_253 : decode cX9_copy 253 = .ok (.laload, 1) := by decide +kernel
theorem dX9_copy_254 : decode cX9_copy 254 = .ok (.lastore, 1) := by decide +kernel
theorem dX9_copy_255 : decode cX9_copy 255 = .ok (.iinc 6 1, 3) := by decide +kernel
theorem dX9_copy_258 : decode cX9_copy 258 = .ok (.goto (-29), 3) := by decide +kernel
theorem dX9_copy_261 : decode cX9_copy 261 = .ok (.iload 5, 2) := by decide +kernel
theorem dX9_copy_263 : decode cX9_copy 263 = .ok (.ireturn, 1) := by decide +kernel
set_option maxRecDepth 20000 in
theorem ggX9_element_X9_in : GoodIn wsX9_element wsX9_in := goodIn_r _ [8] (by decide +kernel) (by decide +kernel)
set_option maxRecDepth 20000 in
theorem gX9_element_X9_in : GoodIn wsX9_element (va_wsS RX9 96 yX9_in wsX9_in) := goodIn_app (goodIn_of _ (by decide +kernel)) ggX9_element_X9_in
theorem dX9_element_0 : decode cX9_element 0 = .ok (.iload_n 1, 1) := by decide +kernel
theorem dX9_element_1 : decode cX9_element 1 = .ok (.i2l, 1) := by decide +kernel
theorem dX9_element_2 : decode cX9_element 2 = .ok (.lconst 0, 1) := by decide +kernel
theorem dX9_element_3 : decode cX9_element 3 = .ok (.ldc2_w 103, 3) := by decide +kernel
theorem dX9_element_6 : decode cX9_element 6 = .ok (.invokestatic 96, 3) := by decide +kernel
theorem dX9_element_9 : decode cX9_element 9 = .ok (.ifCond .eq 42, 3) := by decide +kernel
theorem dX9_element_12 : decode cX9_element 12 = .ok (.aload_n 0, 1) := by decide +kernel
theorem dX9_element_13 : decode cX9_element 13 = .ok (.getfield 7, 3) := by decide +kernel
theorem dX9_element_16 : decode cX9_element 16 = .ok (.iload_n 1, 1) := by decide +kernel
theorem dX9_element_17 : decode cX9_element 17 = .ok (.iaload, 1) := by decide +kernel
theorem dX9_element_18 : decode cX9_element 18 = .ok (.iconst 1, 1) := by decide +kernel
theorem dX9_element_19 : decode cX9_element 19 = .ok (.if_icmp .ne 32, 3) := by decide +kernel
theorem dX9_element_22 : decode cX9_element 22 = .ok (.iload_n 2, 1) := by decide +kernel
theorem dX9_element_23 : decode cX9_element 23 = .ok (.i2l, 1) := by decide +kernel
theorem dX9_element_24 : decode cX9_element 24 = .ok (.lconst 0, 1) := by decide +kernel
theorem dX9_element_25 : decode cX9_element 25 = .ok (.aload_n 0, 1) := by decide +kernel
theorem dX9_element_26 : decode cX9_element 26 = .ok (.getfield 16, 3) := by decide +kernel
theorem dX9_element_29 : decode cX9_element 29 = .ok (.iload_n 1, 1) := by decide +kernel
theorem dX9_element_30 : decode cX9_element 30 = .ok (.iaload, 1) := by decide +kernel
theorem dX9_element_31 : decode cX9_element 31 = .ok (.iconst 1, 1) := by decide +kernel
theorem dX9_element_32 : decode cX9_element 32 = .ok (.isub, 1) := by decide +kernel
theorem dX9_element_33 : decode cX9_element 33 = .ok (.i2l, 1) := by decide +kernel
theorem dX9_element_34 : decode cX9_element 34 = .ok (.invokestatic 96, 3) := by decide +kernel
theorem dX9_element_37 : decode cX9_element 37 = .ok (.ifCond .eq 14, 3) := by decide +kernel
theorem dX9_element_40 : decode cX9_element 40 = .ok (.aload_n 0, 1) := by decide +kernel
theorem dX9_element_41 : decode cX9_element 41 = .ok (.getfield 21, 3) := by decide +kernel
theorem dX9_element_44 : decode cX9_element 44 = .ok (.iload_n 1, 1) := by decide +kernel
theorem dX9_element_45 : decode cX9_element 45 = .ok (.aaload, 1) := by decide +kernel
theorem dX9_element_46 : decode cX9_element 46 = .ok (.iload_n 2, 1) := by decide +kernel
theorem dX9_element_47 : decode cX9_element 47 = .ok (.laload, 1) := by decide +kernel
theorem dX9_element_48 : decode cX9_element 48 = .ok (.goto 4, 3) := by decide +kernel
theorem dX9_element_51 : decode cX9_element 51 = .ok (.lconst 0, 1) := by decide +kernel
theorem dX9_element_52 : decode cX9_element 52 = .ok (.lreturn, 1) := by decide +kernel
set_option maxRecDepth 20000 in
theorem ggX9_holds_X9_in : GoodIn wsX9_holds wsX9_in := goodIn_r _ [8] (by decide +kernel) (by decide +kernel)
set_option maxRecDepth 20000 in
theorem gX9_holds_X9_in : GoodIn wsX9_holds (va_wsS RX9 96 yX9_in wsX9_in) := goodIn_app (goodIn_of _ (by decide +kernel)) ggX9_holds_X9_in
theorem dX9_holds_0 : decode cX9_holds 0 = .ok (.iload_n 1, 1) := by decide +kernel
theorem dX9_holds_1 : decode cX9_holds 1 = .ok (.i2l, 1) := by decide +kernel
theorem dX9_holds_2 : decode cX9_holds 2 = .ok (.lconst 0, 1) := by decide +kernel
theorem dX9_holds_3 : decode cX9_holds 3 = .ok (.ldc2_w 103, 3) := by decide +kernel
theorem dX9_holds_6 : decode cX9_holds 6 = .ok (.invokestatic 96, 3) := by decide +kernel
theorem dX9_holds_9 : decode cX9_holds 9 = .ok (.ifCond .eq 12, 3) := by decide +kernel
theorem dX9_holds_12 : decode cX9_holds 12 = .ok (.aload_n 0, 1) := by decide +kernel
theorem dX9_holds_13 : decode cX9_holds 13 = .ok (.getfield 7, 3) := by decide +kernel
theorem dX9_holds_16 : decode cX9_holds 16 = .ok (.iload_n 1, 1) := by decide +kernel
theorem dX9_holds_17 : decode cX9_holds 17 = .ok (.iaload, 1) := by decide +kernel
theorem dX9_holds_18 : decode cX9_holds 18 = .ok (.ifCond .ne 5, 3) := by decide +kernel
theorem dX9_holds_21 : decode cX9_holds 21 = .ok (.iconst (-1), 1) := by decide +kernel
theorem dX9_holds_22 : decode cX9_holds 22 = .ok (.ireturn, 1) := by decide +kernel
theorem dX9_holds_23 : decode cX9_holds 23 = .ok (.aload_n 0, 1) := by decide +kernel
theorem dX9_holds_24 : decode cX9_holds 24 = .ok (.getfield 7, 3) := by decide +kernel
theorem dX9_holds_27 : decode cX9_holds 27 = .ok (.iload_n 1, 1) := by decide +kernel
theorem dX9_holds_28 : decode cX9_holds 28 = .ok (.iaload, 1) := by decide +kernel
theorem dX9_holds_29 : decode cX9_holds 29 = .ok (.iconst 1, 1) := by decide +kernel
theorem dX9_holds_30 : decode cX9_holds 30 = .ok (.if_icmp .ne 12, 3) := by decide +kernel
theorem dX9_holds_33 : decode cX9_holds 33 = .ok (.aload_n 0, 1) := by decide +kernel
theorem dX9_holds_34 : decode cX9_holds 34 = .ok (.getfield 13, 3) := by decide +kernel
theorem dX9_holds_37 : decode cX9_holds 37 = .ok (.iload_n 1, 1) := by decide +kernel
theorem dX9_holds_38 : decode cX9_holds 38 = .ok (.iaload, 1) := by decide +kernel
theorem dX9_holds_39 : decode cX9_holds 39 = .ok (.goto 12, 3) := by decide +kernel
theorem dX9_holds_42 : decode cX9_holds 42 = .ok (.bipush 10, 2) := by decide +kernel
theorem dX9_holds_44 : decode cX9_holds 44 = .ok (.aload_n 0, 1) := by decide +kernel
theorem dX9_holds_45 : decode cX9_holds 45 = .ok (.getfield 28, 3) := by decide +kernel
theorem dX9_holds_48 : decode cX9_holds 48 = .ok (.iload_n 1, 1) := by decide +kernel
theorem dX9_holds_49 : decode cX9_holds 49 = .ok (.iaload, 1) := by decide +kernel
theorem dX9_holds_50 : decode cX9_holds 50 = .ok (.iadd, 1) := by decide +kernel
theorem dX9_holds_51 : decode cX9_holds 51 = .ok (.ireturn, 1) := by decide +kernel
set_option maxRecDepth 20000 in
theorem ggX9_show_X9_in : GoodIn wsX9_show wsX9_in := goodIn_r _ [7] (by decide +kernel) (by decide +kernel)
set_option maxRecDepth 20000 in
theorem gX9_show_X9_in : GoodIn wsX9_show (va_wsS RX9 96 yX9_in wsX9_in) := goodIn_app (goodIn_of _ (by decide +kernel)) ggX9_show_X9_in
set_option maxRecDepth 20000 in
theorem ggX9_show_X9_isParty : GoodIn wsX9_show wsX9_isParty := goodIn_r _ [11, 12, 4, 5, 6, 7, 18, 19, 20, 21, 22, 23, 24, 25, 26, 27, 28, 29, 30, 31, 32, 33, 34, 35, 36, 37, 38, 39, 40, 41, 42, 43, 44, 45, 46, 47, 48, 49, 50, 51, 52, 53, 54, 55, 56, 57, 58, 59] (by decide +kernel) (by decide +kernel)
set_option maxRecDepth 20000 in
theorem gX9_show_X9_isParty : GoodIn wsX9_show (wsV RX9 120 RX9 yX9_isParty wsX9_isParty) := goodIn_app (goodIn_of _ (by decide +kernel)) ggX9_show_X9_isParty
set_option maxRecDepth 20000 in
theorem ggX9_show_X9_refuse : GoodIn wsX9_show wsX9_refuse := goodIn_r _ [16, 17, 18, 19, 20, 21, 22, 23, 24, 25, 26, 27, 28, 29, 30, 31, 32, 33, 34, 35, 36, 37, 38, 39, 40, 41, 42, 43, 44, 45, 46, 47, 48, 49, 50, 51, 52, 53, 54, 55, 56, 57, 58, 59] (by decide +kernel) (by decide +kernel)
set_option maxRecDepth 20000 in
theorem gX9_show_X9_refuse : GoodIn wsX9_show (wsV RX9 109 RX9 yX9_refuse wsX9_refuse) := goodIn_app (goodIn_of _ (by decide +kernel)) ggX9_show_X9_refuse
theorem dX9_show_0 : decode cX9_show 0 = .ok (.iload_n 1, 1) := by decide +kernel
theorem dX9_show_1 : decode cX9_show 1 = .ok (.i2l, 1) := by decide +kernel
theorem dX9_show_2 : decode cX9_show 2 = .ok (.lconst 0, 1) := by decide +kernel
theorem dX9_show_3 : decode cX9_show 3 = .ok (.ldc2_w 103, 3) := by decide +kernel
theorem dX9_show_6 : decode cX9_show 6 = .ok (.invokestatic 96, 3) := by decide +kernel
theorem dX9_show_9 : decode cX9_show 9 = .ok (.ifCond .eq 16, 3) := by decide +kernel
theorem dX9_show_12 : decode cX9_show 12 = .ok (.iload_n 2, 1) := by decide +kernel
theorem dX9_show_13 : decode cX9_show 13 = .ok (.iconst (-1), 1) := by decide +kernel
theorem dX9_show_14 : decode cX9_show 14 = .ok (.if_icmp .eq 19, 3) := by decide +kernel
theorem dX9_show_17 : decode cX9_show 17 = .ok (.aload_n 0, 1) := by decide +kernel
theorem dX9_show_18 : decode cX9_show 18 = .ok (.iload_n 2, 1) := by decide +kernel
theorem dX9_show_19 : decode cX9_show 19 = .ok (.invokevirtual 120, 3) := by decide +kernel
theorem dX9_show_22 : decode cX9_show 22 = .ok (.ifCond .ne 11, 3) := by decide +kernel
theorem dX9_show_25 : decode cX9_show 25 = .ok (.aload_n 0, 1) := by decide +kernel
theorem dX9_show_26 : decode cX9_show 26 = .ok (.sipush (-1002), 3) := by decide +kernel
theorem dX9_show_29 : decode cX9_show 29 = .ok (.invokevirtual 109, 3) := by decide +kernel
theorem dX9_show_32 : decode cX9_show 32 = .ok (.ireturn, 1) := by decide +kernel
theorem dX9_show_33 : decode cX9_show 33 = .ok (.aload_n 0, 1) := by decide +kernel
theorem dX9_show_34 : decode cX9_show 34 = .ok (.getfield 7, 3) := by decide +kernel
theorem dX9_show_37 : decode cX9_show 37 = .ok (.iload_n 1, 1) := by decide +kernel
theorem dX9_show_38 : decode cX9_show 38 = .ok (.iload_n 2, 1) := by decide +kernel
theorem dX9_show_39 : decode cX9_show 39 = .ok (.iconst (-1), 1) := by decide +kernel
theorem dX9_show_40 : decode cX9_show 40 = .ok (.if_icmp .ne 7, 3) := by decide +kernel
theorem dX9_show_43 : decode cX9_show 43 = .ok (.iconst 0, 1) := by decide +kernel
theorem dX9_show_44 : decode cX9_show 44 = .ok (.goto 4, 3) := by decide +kernel
theorem dX9_show_47 : decode cX9_show 47 = .ok (.iconst 2, 1) := by decide +kernel
theorem dX9_show_48 : decode cX9_show 48 = .ok (.iastore, 1) := by decide +kernel
theorem dX9_show_49 : decode cX9_show 49 = .ok (.aload_n 0, 1) := by decide +kernel
theorem dX9_show_50 : decode cX9_show 50 = .ok (.getfield 28, 3) := by decide +kernel
theorem dX9_show_53 : decode cX9_show 53 = .ok (.iload_n 1, 1) := by decide +kernel
theorem dX9_show_54 : decode cX9_show 54 = .ok (.iload_n 2, 1) := by decide +kernel
theorem dX9_show_55 : decode cX9_show 55 = .ok (.iastore, 1) := by decide +kernel
theorem dX9_show_56 : decode cX9_show 56 = .ok (.iconst 1, 1) := by decide +kernel
theorem dX9_show_57 : decode cX9_show 57 = .ok (.ireturn, 1) := by decide +kernel
theorem dX9_isUnder_0 : decode cX9_isUnder 0 = .ok (.iload_n 1, 1) := by decide +kernel
theorem dX9_isUnder_1 : decode cX9_isUnder 1 = .ok (.ifCond .eq 28, 3) := by decide +kernel
theorem dX9_isUnder_4 : decode cX9_isUnder 4 = .ok (.iload_n 0, 1) := by decide +kernel
theorem dX9_isUnder_5 : decode cX9_isUnder 5 = .ok (.iload_n 1, 1) := by decide +kernel
theorem dX9_isUnder_6 : decode cX9_isUnder 6 = .ok (.if_icmp .eq 23, 3) := by decide +kernel
theorem dX9_isUnder_9 : decode cX9_isUnder 9 = .ok (.iload_n 1, 1) := by decide +kernel
theorem dX9_isUnder_10 : decode cX9_isUnder 10 = .ok (.iconst 1, 1) := by decide +kernel
theorem dX9_isUnder_11 : decode cX9_isUnder 11 = .ok (.if_icmp .ne 8, 3) := by decide +kernel
theorem dX9_isUnder_14 : decode cX9_isUnder 14 = .ok (.iload_n 0, 1) := by decide +kernel
theorem dX9_isUnder_15 : decode cX9_isUnder 15 = .ok (.iconst 3, 1) := by decide +kernel
theorem dX9_isUnder_16 : decode cX9_isUnder 16 = .ok (.if_icmp .eq 13, 3) := by decide +kernel
theorem dX9_isUnder_19 : decode cX9_isUnder 19 = .ok (.iload_n 1, 1) := by decide +kernel
theorem dX9_isUnder_20 : decode cX9_isUnder 20 = .ok (.iconst 2, 1) := by decide +kernel
theorem dX9_isUnder_21 : decode cX9_isUnder 21 = .ok (.if_icmp .ne 12, 3) := by decide +kernel
theorem dX9_isUnder_24 : decode cX9_isUnder 24 = .ok (.iload_n 0, 1) := by decide +kernel
theorem dX9_isUnder_25 : decode cX9_isUnder 25 = .ok (.iconst 4, 1) := by decide +kernel
theorem dX9_isUnder_26 : decode cX9_isUnder 26 = .ok (.if_icmp .ne 7, 3) := by decide +kernel
theorem dX9_isUnder_29 : decode cX9_isUnder 29 = .ok (.iconst 1, 1) := by decide +kernel
theorem dX9_isUnder_30 : decode cX9_isUnder 30 = .ok (.goto 4, 3) := by decide +kernel
theorem dX9_isUnder_33 : decode cX9_isUnder 33 = .ok (.iconst 0, 1) := by decide +kernel
theorem dX9_isUnder_34 : decode cX9_isUnder 34 = .ok (.ireturn, 1) := by decide +kernel
set_option maxRecDepth 20000 in
theorem ggX9_says_X9_in : GoodIn wsX9_says wsX9_in := goodIn_r _ [10] (by decide +kernel) (by decide +kernel)
set_option maxRecDepth 20000 in
theorem gX9_says_X9_in : GoodIn wsX9_says (va_wsS RX9 96 yX9_in wsX9_in) := goodIn_app (goodIn_of _ (by decide +kernel)) ggX9_says_X9_in
set_option maxRecDepth 20000 in
theorem ggX9_says_X9_refuse : GoodIn wsX9_says wsX9_refuse := goodIn_r _ [14, 15, 26, 27, 28, 29, 30, 31, 32, 33, 34, 35, 36, 37, 38, 39, 40, 41, 42, 43, 44, 45, 46, 47, 48, 49, 50, 51, 52, 53, 54, 55, 56, 57, 58, 59, 60, 61, 62, 63, 64, 65, 66, 67] (by decide +kernel) (by decide +kernel)
set_option maxRecDepth 20000 in
theorem gX9_says_X9_refuse : GoodIn wsX9_says (wsV RX9 109 RX9 yX9_refuse wsX9_refuse) := goodIn_app (goodIn_of _ (by decide +kernel)) ggX9_says_X9_refuse
set_option maxRecDepth 20000 in
theorem ggX9_says_X9_isUnder : GoodIn wsX9_says wsX9_isUnder := goodIn_r _ [18] (by decide +kernel) (by decide +kernel)
set_option maxRecDepth 20000 in
theorem gX9_says_X9_isUnder : GoodIn wsX9_says (va_wsS RX9 126 yX9_isUnder wsX9_isUnder) := goodIn_app (goodIn_of _ (by decide +kernel)) ggX9_says_X9_isUnder
set_option maxRecDepth 20000 in
theorem ggX9_says_X9_headsOf : GoodIn wsX9_says wsX9_headsOf := goodIn_r _ [22, 23, 24, 25, 4, 26, 27, 28, 29, 30, 31, 32, 33, 34, 35, 36, 37, 38, 39, 40, 41, 42, 43, 44, 45, 46, 47, 48, 49, 50, 51, 52, 53, 54, 55, 56, 57, 58, 59, 60, 61, 62, 63, 64, 65, 66, 67] (by decide +kernel) (by decide +kernel)
set_option maxRecDepth 20000 in
theorem gX9_says_X9_headsOf : GoodIn wsX9_says (wsV RX9 130 RX9 yX9_headsOf wsX9_headsOf) := goodIn_app (goodIn_of _ (by decide +kernel)) ggX9_says_X9_headsOf
theorem dX9_says_0 : decode cX9_says 0 = .ok (.iload_n 1, 1) := by decide +kernel
theorem dX9_says_1 : decode cX9_says 1 = .ok (.i2l, 1) := by decide +kernel
theorem dX9_says_2 : decode cX9_says 2 = .ok (.lconst 0, 1) := by decide +kernel
theorem dX9_says_3 : decode cX9_says 3 = .ok (.ldc2_w 103, 3) := by decide +kernel
theorem dX9_says_6 : decode cX9_says 6 = .ok (.invokestatic 96, 3) := by decide +kernel
theorem dX9_says_9 : decode cX9_says 9 = .ok (.ifCond .eq 15, 3) := by decide +kernel
theorem dX9_says_12 : decode cX9_says 12 = .ok (.iload_n 2, 1) := by decide +kernel
theorem dX9_says_13 : decode cX9_says 13 = .ok (.i2l, 1) := by decide +kernel
theorem dX9_says_14 : decode cX9_says 14 = .ok (.lconst 0, 1) := by decide +kernel
theorem dX9_says_15 : decode cX9_says 15 = .ok (.ldc2_w 124, 3) := by decide +kernel
theorem dX9_says_18 : decode cX9_says 18 = .ok (.invokestatic 96, 3) := by decide +kernel
theorem dX9_says_21 : decode cX9_says 21 = .ok (.ifCond .ne 11, 3) := by decide +kernel
theorem dX9_says_24 : decode cX9_says 24 = .ok (.aload_n 0, 1) := by decide +kernel
theorem dX9_says_25 : decode cX9_says 25 = .ok (.sipush (-1002), 3) := by decide +kernel
theorem dX9_says_28 : decode cX9_says 28 = .ok (.invokevirtual 109, 3) := by decide +kernel
theorem dX9_says_31 : decode cX9_says 31 = .ok (.ireturn, 1) := by decide +kernel
theorem dX9_says_32 : decode cX9_says 32 = .ok (.aload_n 0, 1) := by decide +kernel
theorem dX9_says_33 : decode cX9_says 33 = .ok (.getfield 7, 3) := by decide +kernel
theorem dX9_says_36 : decode cX9_says 36 = .ok (.iload_n 1, 1) := by decide +kernel
theorem dX9_says_37 : decode cX9_says 37 = .ok (.iaload, 1) := by decide +kernel
theorem dX9_says_38 : decode cX9_says 38 = .ok (.iconst 1, 1) := by decide +kernel
theorem dX9_says_39 : decode cX9_says 39 = .ok (.if_icmp .eq 31, 3) := by decide +kernel
theorem dX9_says_42 : decode cX9_says 42 = .ok (.aload_n 0, 1) := by decide +kernel
theorem dX9_says_43 : decode cX9_says 43 = .ok (.getfield 7, 3) := by decide +kernel
theorem dX9_says_46 : decode cX9_says 46 = .ok (.iload_n 1, 1) := by decide +kernel
theorem dX9_says_47 : decode cX9_says 47 = .ok (.iaload, 1) := by decide +kernel
theorem dX9_says_48 : decode cX9_says 48 = .ok (.iconst 2, 1) := by decide +kernel
theorem dX9_says_49 : decode cX9_says 49 = .ok (.if_icmp .ne 29, 3) := by decide +kernel
theorem dX9_says_52 : decode cX9_says 52 = .ok (.aload_n 0, 1) := by decide +kernel
theorem dX9_says_53 : decode cX9_says 53 = .ok (.getfield 50, 3) := by decide +kernel
theorem dX9_says_56 : decode cX9_says 56 = .ok (.aload_n 0, 1) := by decide +kernel
theorem dX9_says_57 : decode cX9_says 57 = .ok (.getfield 28, 3) := by decide +kernel
theorem dX9_says_60 : decode cX9_says 60 = .ok (.iload_n 1, 1) := by decide +kernel
theorem dX9_says_61 : decode cX9_says 61 = .ok (.iaload, 1) := by decide +kernel
theorem dX9_says_62 : decode cX9_says 62 = .ok (.iaload, 1) := by decide +kernel
theorem dX9_says_63 : decode cX9_says 63 = .ok (.iload_n 2, 1) := by decide +kernel
theorem dX9_says_64 : decode cX9_says 64 = .ok (.invokestatic 126, 3) := by decide +kernel
theorem dX9_says_67 : decode cX9_says 67 = .ok (.ifCond .ne 11, 3) := by decide +kernel
theorem dX9_says_70 : decode cX9_says 70 = .ok (.aload_n 0, 1) := by decide +kernel
theorem dX9_says_71 : decode cX9_says 71 = .ok (.sipush (-1003), 3) := by decide +kernel
theorem dX9_says_74 : decode cX9_says 74 = .ok (.invokevirtual 109, 3) := by decide +kernel
theorem dX9_says_77 : decode cX9_says 77 = .ok (.ireturn, 1) := by decide +kernel
theorem dX9_says_78 : decode cX9_says 78 = .ok (.aload_n 0, 1) := by decide +kernel
theorem dX9_says_79 : decode cX9_says 79 = .ok (.getfield 7, 3) := by decide +kernel
theorem dX9_says_82 : decode cX9_says 82 = .ok (.iload_n 1, 1) := by decide +kernel
theorem dX9_says_83 : decode cX9_says 83 = .ok (.iaload, 1) := by decide +kernel
theorem dX9_says_84 : decode cX9_says 84 = .ok (.ifCond .ne 11, 3) := by decide +kernel
theorem dX9_says_87 : decode cX9_says 87 = .ok (.aload_n 0, 1) := by decide +kernel
theorem dX9_says_88 : decode cX9_says 88 = .ok (.sipush (-1004), 3) := by decide +kernel
theorem dX9_says_91 : decode cX9_says 91 = .ok (.invokevirtual 109, 3) := by decide +kernel
theorem dX9_says_94 : decode cX9_says 94 = .ok (.ireturn, 1) := by decide +kernel
theorem dX9_says_95 : decode cX9_says 95 = .ok (.iload_n 2, 1) := by decide +kernel
theorem dX9_says_96 : decode cX9_says 96 = .ok (.ifCond .ne 17, 3) := by decide +kernel
theorem dX9_says_99 : decode cX9_says 99 = .ok (.aload_n 0, 1) := by decide +kernel
theorem dX9_says_100 : decode cX9_says 100 = .ok (.getfield 59, 3) := by decide +kernel
theorem dX9_says_103 : decode cX9_says 103 = .ok (.aload_n 0, 1) := by decide +kernel
theorem dX9_says_104 : decode cX9_says 104 = .ok (.getfield 28, 3) := by decide +kernel
theorem dX9_says_107 : decode cX9_says 107 = .ok (.iload_n 1, 1) := by decide +kernel
theorem dX9_says_108 : decode cX9_says 108 = .ok (.iaload, 1) := by decide +kernel
theorem dX9_says_109 : decode cX9_says 109 = .ok (.iaload, 1) := by decide +kernel
theorem dX9_says_110 : decode cX9_says 110 = .ok (.goto 13, 3) := by decide +kernel
theorem dX9_says_113 : decode cX9_says 113 = .ok (.aload_n 0, 1) := by decide +kernel
theorem dX9_says_114 : decode cX9_says 114 = .ok (.aload_n 0, 1) := by decide +kernel
theorem dX9_says_115 : decode cX9_says 115 = .ok (.getfield 28, 3) := by decide +kernel
theorem dX9_says_118 : decode cX9_says 118 = .ok (.iload_n 1, 1) := by decide +kernel
theorem dX9_says_119 : decode cX9_says 119 = .ok (.iaload, 1) := by decide +kernel
theorem dX9_says_120 : decode cX9_says 120 = .ok (.invokevirtual 130, 3) := by decide +kernel
theorem dX9_says_123 : decode cX9_says 123 = .ok (.ireturn, 1) := by decide +kernel
theorem dX9_addParty_0 : decode cX9_addParty 0 = .ok (.aload_n 0, 1) := by decide +kernel
theorem dX9_addParty_1 : decode cX9_addParty 1 = .ok (.getfield 50, 3) := by decide +kernel
theorem dX9_addParty_4 : decode cX9_addParty 4 = .ok (.aload_n 0, 1) := by decide +kernel
theorem dX9_addParty_5 : decode cX9_addParty 5 = .ok (.getfield 93, 3) := by decide +kernel
theorem dX9_addParty_8 : decode cX9_addParty 8 = .ok (.iload_n 1, 1) := by decide +kernel
theorem dX9_addParty_9 : decode cX9_addParty 9 = .ok (.iastore, 1) := by decide +kernel
theorem dX9_addParty_10 : decode cX9_addParty 10 = .ok (.aload_n 0, 1) := by decide +kernel
theorem dX9_addParty_11 : decode cX9_addParty 11 = .ok (.getfield 53, 3) := by decide +kernel
theorem dX9_addParty_14 : decode cX9_addParty 14 = .ok (.aload_n 0, 1) := by decide +kernel
theorem dX9_addParty_15 : decode cX9_addParty 15 = .ok (.getfield 93, 3) := by decide +kernel
theorem dX9_addParty_18 : decode cX9_addParty 18 = .ok (.iload_n 2, 1) := by decide +kernel
theorem dX9_addParty_19 : decode cX9_addParty 19 = .ok (.iastore, 1) := by decide +kernel
theorem dX9_addParty_20 : decode cX9_addParty 20 = .ok (.aload_n 0, 1) := by decide +kernel
theorem dX9_addParty_21 : decode cX9_addParty 21 = .ok (.getfield 56, 3) := by decide +kernel
theorem dX9_addParty_24 : decode cX9_addParty 24 = .ok (.aload_n 0, 1) := by decide +kernel
theorem dX9_addParty_25 : decode cX9_addParty 25 = .ok (.getfield 93, 3) := by decide +kernel
theorem dX9_addParty_28 : decode cX9_addParty 28 = .ok (.iload_n 3, 1) := by decide +kernel
theorem dX9_addParty_29 : decode cX9_addParty 29 = .ok (.iastore, 1) := by decide +kernel
theorem dX9_addParty_30 : decode cX9_addParty 30 = .ok (.aload_n 0, 1) := by decide +kernel
theorem dX9_addParty_31 : decode cX9_addParty 31 = .ok (.getfield 59, 3) := by decide +kernel
theorem dX9_addParty_34 : decode cX9_addParty 34 = .ok (.aload_n 0, 1) := by decide +kernel
theorem dX9_addParty_35 : decode cX9_addParty 35 = .ok (.getfield 93, 3) := by decide +kernel
theorem dX9_addParty_38 : decode cX9_addParty 38 = .ok (.iload 4, 2) := by decide +kernel
theorem dX9_addParty_40 : decode cX9_addParty 40 = .ok (.iastore, 1) := by decide +kernel
theorem dX9_addParty_41 : decode cX9_addParty 41 = .ok (.aload_n 0, 1) := by decide +kernel
theorem dX9_addParty_42 : decode cX9_addParty 42 = .ok (.getfield 62, 3) := by decide +kernel
theorem dX9_addParty_45 : decode cX9_addParty 45 = .ok (.aload_n 0, 1) := by decide +kernel
theorem dX9_addParty_46 : decode cX9_addParty 46 = .ok (.getfield 93, 3) := by decide +kernel
theorem dX9_addParty_49 : decode cX9_addParty 49 = .ok (.iconst 0, 1) := by decide +kernel
theorem dX9_addParty_50 : decode cX9_addParty 50 = .ok (.iastore, 1) := by decide +kernel
theorem dX9_addParty_51 : decode cX9_addParty 51 = .ok (.aload_n 0, 1) := by decide +kernel
theorem dX9_addParty_52 : decode cX9_addParty 52 = .ok (.getfield 65, 3) := by decide +kernel
theorem dX9_addParty_55 : decode cX9_addParty 55 = .ok (.aload_n 0, 1) := by decide +kernel
theorem dX9_addParty_56 : decode cX9_addParty 56 = .ok (.getfield 93, 3) := by decide +kernel
theorem dX9_addParty_59 : decode cX9_addParty 59 = .ok (.iconst 0, 1) := by decide +kernel
theorem dX9_addParty_60 : decode cX9_addParty 60 = .ok (.iastore, 1) := by decide +kernel
theorem dX9_addParty_61 : decode cX9_addParty 61 = .ok (.aload_n 0, 1) := by decide +kernel
theorem dX9_addParty_62 : decode cX9_addParty 62 = .ok (.dup, 1) := by decide +kernel
theorem dX9_addParty_63 : decode cX9_addParty 63 = .ok (.getfield 100, 3) := by decide +kernel
theorem dX9_addParty_66 : decode cX9_addParty 66 = .ok (.iconst 1, 1) := by decide +kernel
theorem dX9_addParty_67 : decode cX9_addParty 67 = .ok (.aload_n 0, 1) := by decide +kernel
theorem dX9_addParty_68 : decode cX9_addParty 68 = .ok (.getfield 93, 3) := by decide +kernel
theorem dX9_addParty_71 : decode cX9_addParty 71 = .ok (.ishl, 1) := by decide +kernel
theorem dX9_addParty_72 : decode cX9_addParty 72 = .ok (.iconst (-1), 1) := by decide +kernel
theorem dX9_addParty_73 : decode cX9_addParty 73 = .ok (.ixor, 1) := by decide +kernel
theorem dX9_addParty_74 : decode cX9_addParty 74 = .ok (.iand, 1) := by decide +kernel
theorem dX9_addParty_75 : decode cX9_addParty 75 = .ok (.putfield 100, 3) := by decide +kernel
theorem dX9_addParty_78 : decode cX9_addParty 78 = .ok (.aload_n 0, 1) := by decide +kernel
theorem dX9_addParty_79 : decode cX9_addParty 79 = .ok (.dup, 1) := by decide +kernel
theorem dX9_addParty_80 : decode cX9_addParty 80 = .ok (.getfield 93, 3) := by decide +kernel
theorem dX9_addParty_83 : decode cX9_addParty 83 = .ok (.iconst 1, 1) := by decide +kernel
theorem dX9_addParty_84 : decode cX9_addParty 84 = .ok (.iadd, 1) := by decide +kernel
theorem dX9_addParty_85 : decode cX9_addParty 85 = .ok (.putfield 93, 3) := by decide +kernel
theorem dX9_addParty_88 : decode cX9_addParty 88 = .ok (.return_, 1) := by decide +kernel
set_option maxRecDepth 20000 in
theorem ggX9_party_X9_in : GoodIn wsX9_party wsX9_in := goodIn_r _ [9] (by decide +kernel) (by decide +kernel)
set_option maxRecDepth 20000 in
theorem gX9_party_X9_in : GoodIn wsX9_party (va_wsS RX9 96 yX9_in wsX9_in) := goodIn_app (goodIn_of _ (by decide +kernel)) ggX9_party_X9_in
set_option maxRecDepth 20000 in
theorem ggX9_party_X9_refuse : GoodIn wsX9_party wsX9_refuse := goodIn_r _ [13, 14, 26, 27, 28, 29, 30, 31, 32, 33, 34, 35, 36, 37, 38, 39, 40, 41, 42, 43, 44, 45, 46, 47, 48, 49, 50, 51, 52, 53, 54, 55, 56, 57, 58, 59, 60, 61, 62, 63, 64, 65, 66, 67] (by decide +kernel) (by decide +kernel)
set_option maxRecDepth 20000 in
theorem gX9_party_X9_refuse : GoodIn wsX9_party (wsV RX9 109 RX9 yX9_refuse wsX9_refuse) := goodIn_app (goodIn_of _ (by decide +kernel)) ggX9_party_X9_refuse
set_option maxRecDepth 20000 in
theorem ggX9_party_X9_addParty : GoodIn wsX9_party wsX9_addParty := goodIn_r _ [18, 19, 5, 20, 21, 22, 23, 24, 25, 26, 27, 28, 29, 30, 31, 32, 33, 34, 35, 36, 37, 38, 39, 40, 41, 42, 43, 44, 45, 46, 47, 48, 49, 50, 51, 52, 53, 54, 55, 56, 57, 58, 59, 60, 61, 62, 63, 64, 65, 66, 67] (by decide +kernel) (by decide +kernel)
set_option maxRecDepth 20000 in
theorem gX9_party_X9_addParty : GoodIn wsX9_party (wsV RX9 137 RX9 yX9_addParty wsX9_addParty) := goodIn_app (goodIn_of _ (by decide +kernel)) ggX9_party_X9_addParty
theorem dX9_party_0 : decode cX9_party 0 = .ok (.iload_n 1, 1) := by decide +kernel
theorem dX9_party_1 : decode cX9_party 1 = .ok (.i2l, 1) := by decide +kernel
theorem dX9_party_2 : decode cX9_party 2 = .ok (.lconst 0, 1) := by decide +kernel
theorem dX9_party_3 : decode cX9_party 3 = .ok (.ldc2_w 124, 3) := by decide +kernel
theorem dX9_party_6 : decode cX9_party 6 = .ok (.invokestatic 96, 3) := by decide +kernel
theorem dX9_party_9 : decode cX9_party 9 = .ok (.ifCond .eq 40, 3) := by decide +kernel
theorem dX9_party_12 : decode cX9_party 12 = .ok (.iload_n 2, 1) := by decide +kernel
theorem dX9_party_13 : decode cX9_party 13 = .ok (.i2l, 1) := by decide +kernel
theorem dX9_party_14 : decode cX9_party 14 = .ok (.lconst 0, 1) := by decide +kernel
theorem dX9_party_15 : decode cX9_party 15 = .ok (.ldc2_w 133, 3) := by decide +kernel
theorem dX9_party_18 : decode cX9_party 18 = .ok (.invokestatic 96, 3) := by decide +kernel
theorem dX9_party_21 : decode cX9_party 21 = .ok (.ifCond .eq 28, 3) := by decide +kernel
theorem dX9_party_24 : decode cX9_party 24 = .ok (.iload_n 3, 1) := by decide +kernel
theorem dX9_party_25 : decode cX9_party 25 = .ok (.i2l, 1) := by decide +kernel
theorem dX9_party_26 : decode cX9_party 26 = .ok (.lconst 1, 1) := by decide +kernel
theorem dX9_party_27 : decode cX9_party 27 = .ok (.ldc2_w 107, 3) := by decide +kernel
theorem dX9_party_30 : decode cX9_party 30 = .ok (.invokestatic 96, 3) := by decide +kernel
theorem dX9_party_33 : decode cX9_party 33 = .ok (.ifCond .eq 16, 3) := by decide +kernel
theorem dX9_party_36 : decode cX9_party 36 = .ok (.iload 4, 2) := by decide +kernel
theorem dX9_party_38 : decode cX9_party 38 = .ok (.i2l, 1) := by decide +kernel
theorem dX9_party_39 : decode cX9_party 39 = .ok (.lconst 0, 1) := by decide +kernel
theorem dX9_party_40 : decode cX9_party 40 = .ok (.ldc2_w 135, 3) := by decide +kernel
theorem dX9_party_43 : decode cX9_party 43 = .ok (.invokestatic 96, 3) := by decide +kernel
theorem dX9_party_46 : decode cX9_party 46 = .ok (.ifCond .ne 11, 3) := by decide +kernel
theorem dX9_party_49 : decode cX9_party 49 = .ok (.aload_n 0, 1) := by decide +kernel
theorem dX9_party_50 : decode cX9_party 50 = .ok (.sipush (-1002), 3) := by decide +kernel
theorem dX9_party_53 : decode cX9_party 53 = .ok (.invokevirtual 109, 3) := by decide +kernel
theorem dX9_party_56 : decode cX9_party 56 = .ok (.ireturn, 1) := by decide +kernel
theorem dX9_party_57 : decode cX9_party 57 = .ok (.aload_n 0, 1) := by decide +kernel
theorem dX9_party_58 : decode cX9_party 58 = .ok (.getfield 93, 3) := by decide +kernel
theorem dX9_party_61 : decode cX9_party 61 = .ok (.bipush 8, 2) := by decide +kernel
theorem dX9_party_63 : decode cX9_party 63 = .ok (.if_icmp .ne 11, 3) := by decide +kernel
theorem dX9_party_66 : decode cX9_party 66 = .ok (.aload_n 0, 1) := by decide +kernel
theorem dX9_party_67 : decode cX9_party 67 = .ok (.sipush (-1006), 3) := by decide +kernel
theorem dX9_party_70 : decode cX9_party 70 = .ok (.invokevirtual 109, 3) := by decide +kernel
theorem dX9_party_73 : decode cX9_party 73 = .ok (.ireturn, 1) := by decide +kernel
theorem dX9_party_74 : decode cX9_party 74 = .ok (.aload_n 0, 1) := by decide +kernel
theorem dX9_party_75 : decode cX9_party 75 = .ok (.iload_n 1, 1) := by decide +kernel
theorem dX9_party_76 : decode cX9_party 76 = .ok (.iload_n 2, 1) := by decide +kernel
theorem dX9_party_77 : decode cX9_party 77 = .ok (.iload_n 3, 1) := by decide +kernel
theorem dX9_party_78 : decode cX9_party 78 = .ok (.iload 4, 2) := by decide +kernel
theorem dX9_party_80 : decode cX9_party 80 = .ok (.invokevirtual 137, 3) := by decide +kernel
theorem dX9_party_83 : decode cX9_party 83 = .ok (.aload_n 0, 1) := by decide +kernel
theorem dX9_party_84 : decode cX9_party 84 = .ok (.getfield 93, 3) := by decide +kernel
theorem dX9_party_87 : decode cX9_party 87 = .ok (.iconst 1, 1) := by decide +kernel
theorem dX9_party_88 : decode cX9_party 88 = .ok (.isub, 1) := by decide +kernel
theorem dX9_party_89 : decode cX9_party 89 = .ok (.ireturn, 1) := by decide +kernel
set_option maxRecDepth 20000 in
theorem ggX9_give_X9_isParty : GoodIn wsX9_give wsX9_isParty := goodIn_r _ [9, 10, 11, 12, 8, 13, 19, 20, 21, 22, 23, 24, 25, 26, 27, 28, 29, 30, 31, 32, 33, 34, 35, 36, 37, 38, 39, 40, 41, 42, 43, 44, 45, 46, 47, 48, 49, 50, 51, 52, 53, 54, 55, 56, 57, 58, 59, 60] (by decide +kernel) (by decide +kernel)
set_option maxRecDepth 20000 in
theorem gX9_give_X9_isParty : GoodIn wsX9_give (wsV RX9 120 RX9 yX9_isParty wsX9_isParty) := goodIn_app (goodIn_of _ (by decide +kernel)) ggX9_give_X9_isParty
set_option maxRecDepth 20000 in
theorem ggX9_give_X9_in : GoodIn wsX9_give wsX9_in := goodIn_r _ [13] (by decide +kernel) (by decide +kernel)
set_option maxRecDepth 20000 in
theorem gX9_give_X9_in : GoodIn wsX9_give (va_wsS RX9 96 yX9_in wsX9_in) := goodIn_app (goodIn_of _ (by decide +kernel)) ggX9_give_X9_in
set_option maxRecDepth 20000 in
theorem ggX9_give_X9_refuse : GoodIn wsX9_give wsX9_refuse := goodIn_r _ [17, 18, 19, 20, 21, 22, 23, 24, 25, 26, 27, 28, 29, 30, 31, 32, 33, 34, 35, 36, 37, 38, 39, 40, 41, 42, 43, 44, 45, 46, 47, 48, 49, 50, 51, 52, 53, 54, 55, 56, 57, 58, 59, 60] (by decide +kernel) (by decide +kernel)
set_option maxRecDepth 20000 in
theorem gX9_give_X9_refuse : GoodIn wsX9_give (wsV RX9 109 RX9 yX9_refuse wsX9_refuse) := goodIn_app (goodIn_of _ (by decide +kernel)) ggX9_give_X9_refuse
theorem dX9_give_0 : decode cX9_give 0 = .ok (.aload_n 0, 1) := by decide +kernel
theorem dX9_give_1 : decode cX9_give 1 = .ok (.iload_n 1, 1) := by decide +kernel
theorem dX9_give_2 : decode cX9_give 2 = .ok (.invokevirtual 120, 3) := by decide +kernel
theorem dX9_give_5 : decode cX9_give 5 = .ok (.ifCond .eq 43, 3) := by decide +kernel
theorem dX9_give_8 : decode cX9_give 8 = .ok (.iload_n 2, 1) := by decide +kernel
theorem dX9_give_9 : decode cX9_give 9 = .ok (.i2l, 1) := by decide +kernel
theorem dX9_give_10 : decode cX9_give 10 = .ok (.lconst 0, 1) := by decide +kernel
theorem dX9_give_11 : decode cX9_give 11 = .ok (.lconst 1, 1) := by decide +kernel
theorem dX9_give_12 : decode cX9_give 12 = .ok (.invokestatic 96, 3) := by decide +kernel
theorem dX9_give_15 : decode cX9_give 15 = .ok (.ifCond .eq 33, 3) := by decide +kernel
theorem dX9_give_18 : decode cX9_give 18 = .ok (.iload_n 3, 1) := by decide +kernel
theorem dX9_give_19 : decode cX9_give 19 = .ok (.i2l, 1) := by decide +kernel
theorem dX9_give_20 : decode cX9_give 20 = .ok (.iload_n 2, 1) := by decide +kernel
theorem dX9_give_21 : decode cX9_give 21 = .ok (.ifCond .ne 7, 3) := by decide +kernel
theorem dX9_give_24 : decode cX9_give 24 = .ok (.lconst 1, 1) := by decide +kernel
theorem dX9_give_25 : decode cX9_give 25 = .ok (.goto 4, 3) := by decide +kernel
theorem dX9_give_28 : decode cX9_give 28 = .ok (.lconst 0, 1) := by decide +kernel
theorem dX9_give_29 : decode cX9_give 29 = .ok (.iload_n 2, 1) := by decide +kernel
theorem dX9_give_30 : decode cX9_give 30 = .ok (.ifCond .ne 9, 3) := by decide +kernel
theorem dX9_give_33 : decode cX9_give 33 = .ok (.ldc2_w 107, 3) := by decide +kernel
theorem dX9_give_36 : decode cX9_give 36 = .ok (.goto 6, 3) := by decide +kernel
theorem dX9_give_39 : decode cX9_give 39 = .ok (.ldc2_w 135, 3) := by decide +kernel
theorem dX9_give_42 : decode cX9_give 42 = .ok (.invokestatic 96, 3) := by decide +kernel
theorem dX9_give_45 : decode cX9_give 45 = .ok (.ifCond .ne 11, 3) := by decide +kernel
theorem dX9_give_48 : decode cX9_give 48 = .ok (.aload_n 0, 1) := by decide +kernel
theorem dX9_give_49 : decode cX9_give 49 = .ok (.sipush (-1002), 3) := by decide +kernel
theorem dX9_give_52 : decode cX9_give 52 = .ok (.invokevirtual 109, 3) := by decide +kernel
theorem dX9_give_55 : decode cX9_give 55 = .ok (.ireturn, 1) := by decide +kernel
theorem dX9_give_56 : decode cX9_give 56 = .ok (.iload_n 2, 1) := by decide +kernel
theorem dX9_give_57 : decode cX9_give 57 = .ok (.ifCond .ne 12, 3) := by decide +kernel
theorem dX9_give_60 : decode cX9_give 60 = .ok (.aload_n 0, 1) := by decide +kernel
theorem dX9_give_61 : decode cX9_give 61 = .ok (.getfield 56, 3) := by decide +kernel
theorem dX9_give_64 : decode cX9_give 64 = .ok (.iload_n 1, 1) := by decide +kernel
theorem dX9_give_65 : decode cX9_give 65 = .ok (.iaload, 1) := by decide +kernel
theorem dX9_give_66 : decode cX9_give 66 = .ok (.goto 9, 3) := by decide +kernel
theorem dX9_give_69 : decode cX9_give 69 = .ok (.aload_n 0, 1) := by decide +kernel
theorem dX9_give_70 : decode cX9_give 70 = .ok (.getfield 59, 3) := by decide +kernel
theorem dX9_give_73 : decode cX9_give 73 = .ok (.iload_n 1, 1) := by decide +kernel
theorem dX9_give_74 : decode cX9_give 74 = .ok (.iaload, 1) := by decide +kernel
theorem dX9_give_75 : decode cX9_give 75 = .ok (.istore 4, 2) := by decide +kernel
theorem dX9_give_77 : decode cX9_give 77 = .ok (.aload_n 0, 1) := by decide +kernel
theorem dX9_give_78 : decode cX9_give 78 = .ok (.getfield 56, 3) := by decide +kernel
theorem dX9_give_81 : decode cX9_give 81 = .ok (.iload_n 1, 1) := by decide +kernel
theorem dX9_give_82 : decode cX9_give 82 = .ok (.iload_n 2, 1) := by decide +kernel
theorem dX9_give_83 : decode cX9_give 83 = .ok (.ifCond .ne 7, 3) := by decide +kernel
theorem dX9_give_86 : decode cX9_give 86 = .ok (.iload_n 3, 1) := by decide +kernel
theorem dX9_give_87 : decode cX9_give 87 = .ok (.goto 9, 3) := by decide +kernel
theorem dX9_give_90 : decode cX9_give 90 = .ok (.aload_n 0, 1) := by decide +kernel
theorem dX9_give_91 : decode cX9_give 91 = .ok (.getfield 56, 3) := by decide +kernel
theorem dX9_give_94 : decode cX9_give 94 = .ok (.iload_n 1, 1) := by decide +kernel
theorem dX9_give_95 : decode cX9_give 95 = .ok (.iaload, 1) := by decide +kernel
theorem dX9_give_96 : decode cX9_give 96 = .ok (.iastore, 1) := by decide +kernel
theorem dX9_give_97 : decode cX9_give 97 = .ok (.aload_n 0, 1) := by decide +kernel
theorem dX9_give_98 : decode cX9_give 98 = .ok (.getfield 59, 3) := by decide +kernel
theorem dX9_give_101 : decode cX9_give 101 = .ok (.iload_n 1, 1) := by decide +kernel
theorem dX9_give_102 : decode cX9_give 102 = .ok (.iload_n 2, 1) := by decide +kernel
theorem dX9_give_103 : decode cX9_give 103 = .ok (.iconst 1, 1) := by decide +kernel
theorem dX9_give_104 : decode cX9_give 104 = .ok (.if_icmp .ne 7, 3) := by decide +kernel
theorem dX9_give_107 : decode cX9_give 107 = .ok (.iload_n 3, 1) := by decide +kernel
theorem dX9_give_108 : decode cX9_give 108 = .ok (.goto 9, 3) := by decide +kernel
theorem dX9_give_111 : decode cX9_give 111 = .ok (.aload_n 0, 1) := by decide +kernel
theorem dX9_give_112 : decode cX9_give 112 = .ok (.getfield 59, 3) := by decide +kernel
theorem dX9_give_115 : decode cX9_give 115 = .ok (.iload_n 1, 1) := by decide +kernel
theorem dX9_give_116 : decode cX9_give 116 = .ok (.iaload, 1) := by decide +kernel
theorem dX9_give_117 : decode cX9_give 117 = .ok (.iastore, 1) := by decide +kernel
theorem dX9_give_118 : decode cX9_give 118 = .ok (.iload 4, 2) := by decide +kernel
theorem dX9_give_120 : decode cX9_give 120 = .ok (.ireturn, 1) := by decide +kernel
theorem dX9_binds_0 : decode cX9_binds 0 = .ok (.aload_n 0, 1) := by decide +kernel
theorem dX9_binds_1 : decode cX9_binds 1 = .ok (.getfield 62, 3) := by decide +kernel
theorem dX9_binds_4 : decode cX9_binds 4 = .ok (.iload_n 1, 1) := by decide +kernel
theorem dX9_binds_5 : decode cX9_binds 5 = .ok (.iload_n 3, 1) := by decide +kernel
theorem dX9_binds_6 : decode cX9_binds 6 = .ok (.iconst 1, 1) := by decide +kernel
theorem dX9_binds_7 : decode cX9_binds 7 = .ok (.if_icmp .ne 16, 3) := by decide +kernel
theorem dX9_binds_10 : decode cX9_binds 10 = .ok (.aload_n 0, 1) := by decide +kernel
theorem dX9_binds_11 : decode cX9_binds 11 = .ok (.getfield 62, 3) := by decide +kernel
theorem dX9_binds_14 : decode cX9_binds 14 = .ok (.iload_n 1, 1) := by decide +kernel
theorem dX9_binds_15 : decode cX9_binds 15 = .ok (.iaload, 1) := by decide +kernel
theorem dX9_binds_16 : decode cX9_binds 16 = .ok (.iconst 1, 1) := by decide +kernel
theorem dX9_binds_17 : decode cX9_binds 17 = .ok (.iload_n 2, 1) := by decide +kernel
theorem dX9_binds_18 : decode cX9_binds 18 = .ok (.ishl, 1) := by decide +kernel
theorem dX9_binds_19 : decode cX9_binds 19 = .ok (.ior, 1) := by decide +kernel
theorem dX9_binds_20 : decode cX9_binds 20 = .ok (.goto 15, 3) := by decide +kernel
theorem dX9_binds_23 : decode cX9_binds 23 = .ok (.aload_n 0, 1) := by decide +kernel
theorem dX9_binds_24 : decode cX9_binds 24 = .ok (.getfield 62, 3) := by decide +kernel
theorem dX9_binds_27 : decode cX9_binds 27 = .ok (.iload_n 1, 1) := by decide +kernel
theorem dX9_binds_28 : decode cX9_binds 28 = .ok (.iaload, 1) := by decide +kernel
theorem dX9_binds_29 : decode cX9_binds 29 = .ok (.iconst 1, 1) := by decide +kernel
theorem dX9_binds_30 : decode cX9_binds 30 = .ok (.iload_n 2, 1) := by decide +kernel
theorem dX9_binds_31 : decode cX9_binds 31 = .ok (.ishl, 1) := by decide +kernel
theorem dX9_binds_32 : decode cX9_binds 32 = .ok (.iconst (-1), 1) := by decide +kernel
theorem dX9_binds_33 : decode cX9_binds 33 = .ok (.ixor, 1) := by decide +kernel
theorem dX9_binds_34 : decode cX9_binds 34 = .ok (.iand, 1) := by decide +kernel
theorem dX9_binds_35 : decode cX9_binds 35 = .ok (.iastore, 1) := by decide +kernel
theorem dX9_binds_36 : decode cX9_binds 36 = .ok (.aload_n 0, 1) := by decide +kernel
theorem dX9_binds_37 : decode cX9_binds 37 = .ok (.getfield 62, 3) := by decide +kernel
theorem dX9_binds_40 : decode cX9_binds 40 = .ok (.iload_n 2, 1) := by decide +kernel
theorem dX9_binds_41 : decode cX9_binds 41 = .ok (.iload_n 3, 1) := by decide +kernel
theorem dX9_binds_42 : decode cX9_binds 42 = .ok (.iconst 1, 1) := by decide +kernel
theorem dX9_binds_43 : decode cX9_binds 43 = .ok (.if_icmp .ne 16, 3) := by decide +kernel
theorem dX9_binds_46 : decode cX9_binds 46 = .ok (.aload_n 0, 1) := by decide +kernel
theorem dX9_binds_47 : decode cX9_binds 47 = .ok (.getfield 62, 3) := by decide +kernel
theorem dX9_binds_50 : decode cX9_binds 50 = .ok (.iload_n 2, 1) := by decide +kernel
theorem dX9_binds_51 : decode cX9_binds 51 = .ok (.iaload, 1) := by decide +kernel
theorem dX9_binds_52 : decode cX9_binds 52 = .ok (.iconst 1, 1) := by decide +kernel
theorem dX9_binds_53 : decode cX9_binds 53 = .ok (.iload_n 1, 1) := by decide +kernel
theorem dX9_binds_54 : decode cX9_binds 54 = .ok (.ishl, 1) := by decide +kernel
theorem dX9_binds_55 : decode cX9_binds 55 = .ok (.ior, 1) := by decide +kernel
theorem dX9_binds_56 : decode cX9_binds 56 = .ok (.goto 15, 3) := by decide +kernel
theorem dX9_binds_59 : decode cX9_binds 59 = .ok (.aload_n 0, 1) := by decide +kernel
theorem dX9_binds_60 : decode cX9_binds 60 = .ok (.getfield 62, 3) := by decide +kernel
theorem dX9_binds_63 : decode cX9_binds 63 = .ok (.iload_n 2, 1) := by decide +kernel
theorem dX9_binds_64 : decode cX9_binds 64 = .ok (.iaload, 1) := by decide +kernel
theorem dX9_binds_65 : decode cX9_binds 65 = .ok (.iconst 1, 1) := by decide +kernel
theorem dX9_binds_66 : decode cX9_binds 66 = .ok (.iload_n 1, 1) := by decide +kernel
theorem dX9_binds_67 : decode cX9_binds 67 = .ok (.ishl, 1) := by decide +kernel
theorem dX9_binds_68 : decode cX9_binds 68 = .ok (.iconst (-1), 1) := by decide +kernel
theorem dX9_binds_69 : decode cX9_binds 69 = .ok (.ixor, 1) := by decide +kernel
theorem dX9_binds_70 : decode cX9_binds 70 = .ok (.iand, 1) := by decide +kernel
theorem dX9_binds_71 : decode cX9_binds 71 = .ok (.iastore, 1) := by decide +kernel
theorem dX9_binds_72 : decode cX9_binds 72 = .ok (.aload_n 0, 1) := by decide +kernel
theorem dX9_binds_73 : decode cX9_binds 73 = .ok (.getfield 65, 3) := by decide +kernel
theorem dX9_binds_76 : decode cX9_binds 76 = .ok (.iload_n 1, 1) := by decide +kernel
theorem dX9_binds_77 : decode cX9_binds 77 = .ok (.iload_n 3, 1) := by decide +kernel
theorem dX9_binds_78 : decode cX9_binds 78 = .ok (.iconst 2, 1) := by decide +kernel
theorem dX9_binds_79 : decode cX9_binds 79 = .ok (.if_icmp .ne 16, 3) := by decide +kernel
theorem dX9_binds_82 : decode cX9_binds 82 = .ok (.aload_n 0, 1) := by decide +kernel
theorem dX9_binds_83 : decode cX9_binds 83 = .ok (.getfield 65, 3) := by decide +kernel
theorem dX9_binds_86 : decode cX9_binds 86 = .ok (.iload_n 1, 1) := by decide +kernel
theorem dX9_binds_87 : decode cX9_binds 87 = .ok (.iaload, 1) := by decide +kernel
theorem dX9_binds_88 : decode cX9_binds 88 = .ok (.iconst 1, 1) := by decide +kernel
theorem dX9_binds_89 : decode cX9_binds 89 = .ok (.iload_n 2, 1) := by decide +kernel
theorem dX9_binds_90 : decode cX9_binds 90 = .ok (.ishl, 1) := by decide +kernel
theorem dX9_binds_91 : decode cX9_binds 91 = .ok (.ior, 1) := by decide +kernel
theorem dX9_binds_92 : decode cX9_binds 92 = .ok (.goto 15, 3) := by decide +kernel
theorem dX9_binds_95 : decode cX9_binds 95 = .ok (.aload_n 0, 1) := by decide +kernel
theorem dX9_binds_96 : decode cX9_binds 96 = .ok (.getfield 65, 3) := by decide +kernel
theorem dX9_binds_99 : decode cX9_binds 99 = .ok (.iload_n 1, 1) := by decide +kernel
theorem dX9_binds_100 : decode cX9_binds 100 = .ok (.iaload, 1) := by decide +kernel
theorem dX9_binds_101 : decode cX9_binds 101 = .ok (.iconst 1, 1) := by decide +kernel
theorem dX9_binds_102 : decode cX9_binds 102 = .ok (.iload_n 2, 1) := by decide +kernel
theorem dX9_binds_103 : decode cX9_binds 103 = .ok (.ishl, 1) := by decide +kernel
theorem dX9_binds_104 : decode cX9_binds 104 = .ok (.iconst (-1), 1) := by decide +kernel
theorem dX9_binds_105 : decode cX9_binds 105 = .ok (.ixor, 1) := by decide +kernel
theorem dX9_binds_106 : decode cX9_binds 106 = .ok (.iand, 1) := by decide +kernel
theorem dX9_binds_107 : decode cX9_binds 107 = .ok (.iastore, 1) := by decide +kernel
theorem dX9_binds_108 : decode cX9_binds 108 = .ok (.aload_n 0, 1) := by decide +kernel
theorem dX9_binds_109 : decode cX9_binds 109 = .ok (.getfield 65, 3) := by decide +kernel
theorem dX9_binds_112 : decode cX9_binds 112 = .ok (.iload_n 2, 1) := by decide +kernel
theorem dX9_binds_113 : decode cX9_binds 113 = .ok (.iload_n 3, 1) := by decide +kernel
theorem dX9_binds_114 : decode cX9_binds 114 = .ok (.iconst 2, 1) := by decide +kernel
theorem dX9_binds_115 : decode cX9_binds 115 = .ok (.if_icmp .ne 16, 3) := by decide +kernel
theorem dX9_binds_118 : decode cX9_binds 118 = .ok (.aload_n 0, 1) := by decide +kernel
theorem dX9_binds_119 : decode cX9_binds 119 = .ok (.getfield 65, 3) := by decide +kernel
theorem dX9_binds_122 : decode cX9_binds 122 = .ok (.iload_n 2, 1) := by decide +kernel
theorem dX9_binds_123 : decode cX9_binds 123 = .ok (.iaload, 1) := by decide +kernel
theorem dX9_binds_124 : decode cX9_binds 124 = .ok (.iconst 1, 1) := by decide +kernel
theorem dX9_binds_125 : decode cX9_binds 125 = .ok (.iload_n 1, 1) := by decide +kernel
theorem dX9_binds_126 : decode cX9_binds 126 = .ok (.ishl, 1) := by decide +kernel
theorem dX9_binds_127 : decode cX9_binds 127 = .ok (.ior, 1) := by decide +kernel
theorem dX9_binds_128 : decode cX9_binds 128 = .ok (.goto 15, 3) := by decide +kernel
theorem dX9_binds_131 : decode cX9_binds 131 = .ok (.aload_n 0, 1) := by decide +kernel
theorem dX9_binds_132 : decode cX9_binds 132 = .ok (.getfield 65, 3) := by decide +kernel
theorem dX9_binds_135 : decode cX9_binds 135 = .ok (.iload_n 2, 1) := by decide +kernel
theorem dX9_binds_136 : decode cX9_binds 136 = .ok (.iaload, 1) := by decide +kernel
theorem dX9_binds_137 : decode cX9_binds 137 = .ok (.iconst 1, 1) := by decide +kernel
theorem dX9_binds_138 : decode cX9_binds 138 = .ok (.iload_n 1, 1) := by decide +kernel
theorem dX9_binds_139 : decode cX9_binds 139 = .ok (.ishl, 1) := by decide +kernel
theorem dX9_binds_140 : decode cX9_binds 140 = .ok (.iconst (-1), 1) := by decide +kernel
theorem dX9_binds_141 : decode cX9_binds 141 = .ok (.ixor, 1) := by decide +kernel
theorem dX9_binds_142 : decode cX9_binds 142 = .ok (.iand, 1) := by decide +kernel
theorem dX9_binds_143 : decode cX9_binds 143 = .ok (.iastore, 1) := by decide +kernel
theorem dX9_binds_144 : decode cX9_binds 144 = .ok (.return_, 1) := by decide +kernel
theorem dX9_boundOf_0 : decode cX9_boundOf 0 = .ok (.aload_n 0, 1) := by decide +kernel
theorem dX9_boundOf_1 : decode cX9_boundOf 1 = .ok (.getfield 62, 3) := by decide +kernel
theorem dX9_boundOf_4 : decode cX9_boundOf 4 = .ok (.iload_n 1, 1) := by decide +kernel
theorem dX9_boundOf_5 : decode cX9_boundOf 5 = .ok (.iaload, 1) := by decide +kernel
theorem dX9_boundOf_6 : decode cX9_boundOf 6 = .ok (.iload_n 2, 1) := by decide +kernel
theorem dX9_boundOf_7 : decode cX9_boundOf 7 = .ok (.ishr, 1) := by decide +kernel
theorem dX9_boundOf_8 : decode cX9_boundOf 8 = .ok (.iconst 1, 1) := by decide +kernel
theorem dX9_boundOf_9 : decode cX9_boundOf 9 = .ok (.iand, 1) := by decide +kernel
theorem dX9_boundOf_10 : decode cX9_boundOf 10 = .ok (.iconst 1, 1) := by decide +kernel
theorem dX9_boundOf_11 : decode cX9_boundOf 11 = .ok (.if_icmp .ne 7, 3) := by decide +kernel
theorem dX9_boundOf_14 : decode cX9_boundOf 14 = .ok (.iconst 1, 1) := by decide +kernel
theorem dX9_boundOf_15 : decode cX9_boundOf 15 = .ok (.goto 22, 3) := by decide +kernel
theorem dX9_boundOf_18 : decode cX9_boundOf 18 = .ok (.aload_n 0, 1) := by decide +kernel
theorem dX9_boundOf_19 : decode cX9_boundOf 19 = .ok (.getfield 65, 3) := by decide +kernel
theorem dX9_boundOf_22 : decode cX9_boundOf 22 = .ok (.iload_n 1, 1) := by decide +kernel
theorem dX9_boundOf_23 : decode cX9_boundOf 23 = .ok (.iaload, 1) := by decide +kernel
theorem dX9_boundOf_24 : decode cX9_boundOf 24 = .ok (.iload_n 2, 1) := by decide +kernel
theorem dX9_boundOf_25 : decode cX9_boundOf 25 = .ok (.ishr, 1) := by decide +kernel
theorem dX9_boundOf_26 : decode cX9_boundOf 26 = .ok (.iconst 1, 1) := by decide +kernel
theorem dX9_boundOf_27 : decode cX9_boundOf 27 = .ok (.iand, 1) := by decide +kernel
theorem dX9_boundOf_28 : decode cX9_boundOf 28 = .ok (.iconst 1, 1) := by decide +kernel
theorem dX9_boundOf_29 : decode cX9_boundOf 29 = .ok (.if_icmp .ne 7, 3) := by decide +kernel
theorem dX9_boundOf_32 : decode cX9_boundOf 32 = .ok (.iconst 2, 1) := by decide +kernel
theorem dX9_boundOf_33 : decode cX9_boundOf 33 = .ok (.goto 4, 3) := by decide +kernel
theorem dX9_boundOf_36 : decode cX9_boundOf 36 = .ok (.iconst 0, 1) := by decide +kernel
theorem dX9_boundOf_37 : decode cX9_boundOf 37 = .ok (.ireturn, 1) := by decide +kernel
set_option maxRecDepth 20000 in
theorem ggX9_bind_X9_isParty : GoodIn wsX9_bind wsX9_isParty := goodIn_r _ [6, 7, 8, 9, 5, 10, 26, 27, 28, 29, 30, 31, 32, 33, 34, 35, 36, 37, 38, 39, 40, 41, 42, 43, 44, 45, 46, 47, 48, 49, 50, 51, 52, 53, 54, 55, 56, 57, 58, 59, 60, 61, 62, 63, 64, 65, 66, 67] (by decide +kernel) (by decide +kernel)
set_option maxRecDepth 20000 in
theorem gX9_bind_X9_isParty : GoodIn wsX9_bind (wsV RX9 120 RX9 yX9_isParty wsX9_isParty) := goodIn_app (goodIn_of _ (by decide +kernel)) ggX9_bind_X9_isParty
set_option maxRecDepth 20000 in
theorem ggX9_bind_X9_in : GoodIn wsX9_bind wsX9_in := goodIn_r _ [10] (by decide +kernel) (by decide +kernel)
set_option maxRecDepth 20000 in
theorem gX9_bind_X9_in : GoodIn wsX9_bind (va_wsS RX9 96 yX9_in wsX9_in) := goodIn_app (goodIn_of _ (by decide +kernel)) ggX9_bind_X9_in
set_option maxRecDepth 20000 in
theorem ggX9_bind_X9_refuse : GoodIn wsX9_bind wsX9_refuse := goodIn_r _ [14, 15, 26, 27, 28, 29, 30, 31, 32, 33, 34, 35, 36, 37, 38, 39, 40, 41, 42, 43, 44, 45, 46, 47, 48, 49, 50, 51, 52, 53, 54, 55, 56, 57, 58, 59, 60, 61, 62, 63, 64, 65, 66, 67] (by decide +kernel) (by decide +kernel)
set_option maxRecDepth 20000 in
theorem gX9_bind_X9_refuse : GoodIn wsX9_bind (wsV RX9 109 RX9 yX9_refuse wsX9_refuse) := goodIn_app (goodIn_of _ (by decide +kernel)) ggX9_bind_X9_refuse
set_option maxRecDepth 20000 in
theorem ggX9_bind_X9_boundOf : GoodIn wsX9_bind wsX9_boundOf := goodIn_r _ [19, 20, 21, 26, 27, 28, 29, 30, 31, 32, 33, 34, 35, 36, 37, 38, 39, 40, 41, 42, 43, 44, 45, 46, 47, 48, 49, 50, 51, 52, 53, 54, 55, 56, 57, 58, 59, 60, 61, 62, 63, 64, 65, 66, 67] (by decide +kernel) (by decide +kernel)
set_option maxRecDepth 20000 in
theorem gX9_bind_X9_boundOf : GoodIn wsX9_bind (wsV RX9 143 RX9 yX9_boundOf wsX9_boundOf) := goodIn_app (goodIn_of _ (by decide +kernel)) ggX9_bind_X9_boundOf
set_option maxRecDepth 20000 in
theorem ggX9_bind_X9_binds : GoodIn wsX9_bind wsX9_binds := goodIn_r _ [25, 20, 21, 26, 27, 28, 29, 30, 31, 32, 33, 34, 35, 36, 37, 38, 39, 40, 41, 42, 43, 44, 45, 46, 47, 48, 49, 50, 51, 52, 53, 54, 55, 56, 57, 58, 59, 60, 61, 62, 63, 64, 65, 66, 67] (by decide +kernel) (by decide +kernel)
set_option maxRecDepth 20000 in
theorem gX9_bind_X9_binds : GoodIn wsX9_bind (wsV RX9 147 RX9 yX9_binds wsX9_binds) := goodIn_app (goodIn_of _ (by decide +kernel)) ggX9_bind_X9_binds
theorem dX9_bind_0 : decode cX9_bind 0 = .ok (.aload_n 0, 1) := by decide +kernel
theorem dX9_bind_1 : decode cX9_bind 1 = .ok (.iload_n 1, 1) := by decide +kernel
theorem dX9_bind_2 : decode cX9_bind 2 = .ok (.invokevirtual 120, 3) := by decide +kernel
theorem dX9_bind_5 : decode cX9_bind 5 = .ok (.ifCond .eq 28, 3) := by decide +kernel
theorem dX9_bind_8 : decode cX9_bind 8 = .ok (.aload_n 0, 1) := by decide +kernel
theorem dX9_bind_9 : decode cX9_bind 9 = .ok (.iload_n 2, 1) := by decide +kernel
theorem dX9_bind_10 : decode cX9_bind 10 = .ok (.invokevirtual 120, 3) := by decide +kernel
theorem dX9_bind_13 : decode cX9_bind 13 = .ok (.ifCond .eq 20, 3) := by decide +kernel
theorem dX9_bind_16 : decode cX9_bind 16 = .ok (.iload_n 1, 1) := by decide +kernel
theorem dX9_bind_17 : decode cX9_bind 17 = .ok (.iload_n 2, 1) := by decide +kernel
theorem dX9_bind_18 : decode cX9_bind 18 = .ok (.if_icmp .eq 15, 3) := by decide +kernel
theorem dX9_bind_21 : decode cX9_bind 21 = .ok (.iload_n 3, 1) := by decide +kernel
theorem dX9_bind_22 : decode cX9_bind 22 = .ok (.i2l, 1) := by decide +kernel
theorem dX9_bind_23 : decode cX9_bind 23 = .ok (.lconst 0, 1) := by decide +kernel
theorem dX9_bind_24 : decode cX9_bind 24 = .ok (.ldc2_w 141, 3) := by decide +kernel
theorem dX9_bind_27 : decode cX9_bind 27 = .ok (.invokestatic 96, 3) := by decide +kernel
theorem dX9_bind_30 : decode cX9_bind 30 = .ok (.ifCond .ne 11, 3) := by decide +kernel
theorem dX9_bind_33 : decode cX9_bind 33 = .ok (.aload_n 0, 1) := by decide +kernel
theorem dX9_bind_34 : decode cX9_bind 34 = .ok (.sipush (-1002), 3) := by decide +kernel
theorem dX9_bind_37 : decode cX9_bind 37 = .ok (.invokevirtual 109, 3) := by decide +kernel
theorem dX9_bind_40 : decode cX9_bind 40 = .ok (.ireturn, 1) := by decide +kernel
theorem dX9_bind_41 : decode cX9_bind 41 = .ok (.aload_n 0, 1) := by decide +kernel
theorem dX9_bind_42 : decode cX9_bind 42 = .ok (.iload_n 1, 1) := by decide +kernel
theorem dX9_bind_43 : decode cX9_bind 43 = .ok (.iload_n 2, 1) := by decide +kernel
theorem dX9_bind_44 : decode cX9_bind 44 = .ok (.invokevirtual 143, 3) := by decide +kernel
theorem dX9_bind_47 : decode cX9_bind 47 = .ok (.istore 4, 2) := by decide +kernel
theorem dX9_bind_49 : decode cX9_bind 49 = .ok (.aload_n 0, 1) := by decide +kernel
theorem dX9_bind_50 : decode cX9_bind 50 = .ok (.iload_n 1, 1) := by decide +kernel
theorem dX9_bind_51 : decode cX9_bind 51 = .ok (.iload_n 2, 1) := by decide +kernel
theorem dX9_bind_52 : decode cX9_bind 52 = .ok (.iload_n 3, 1) := by decide +kernel
theorem dX9_bind_53 : decode cX9_bind 53 = .ok (.invokevirtual 147, 3) := by decide +kernel
theorem dX9_bind_56 : decode cX9_bind 56 = .ok (.iload 4, 2) := by decide +kernel
theorem dX9_bind_58 : decode cX9_bind 58 = .ok (.ireturn, 1) := by decide +kernel
theorem dX9_set__0 : decode cX9_set_ 0 = .ok (.iload_n 1, 1) := by decide +kernel
theorem dX9_set__1 : decode cX9_set_ 1 = .ok (.tableswitch 79 0 3 #[31, 43, 55, 67], 31) := by decide +kernel
theorem dX9_set__32 : decode cX9_set_ 32 = .ok (.aload_n 0, 1) := by decide +kernel
theorem dX9_set__33 : decode cX9_set_ 33 = .ok (.getfield 37, 3) := by decide +kernel
theorem dX9_set__36 : decode cX9_set_ 36 = .ok (.istore_n 3, 1) := by decide +kernel
theorem dX9_set__37 : decode cX9_set_ 37 = .ok (.aload_n 0, 1) := by decide +kernel
theorem dX9_set__38 : decode cX9_set_ 38 = .ok (.iload_n 2, 1) := by decide +kernel
theorem dX9_set__39 : decode cX9_set_ 39 = .ok (.putfield 37, 3) := by decide +kernel
theorem dX9_set__42 : decode cX9_set_ 42 = .ok (.iload_n 3, 1) := by decide +kernel
theorem dX9_set__43 : decode cX9_set_ 43 = .ok (.ireturn, 1) := by decide +kernel
theorem dX9_set__44 : decode cX9_set_ 44 = .ok (.aload_n 0, 1) := by decide +kernel
theorem dX9_set__45 : decode cX9_set_ 45 = .ok (.getfield 151, 3) := by decide +kernel
theorem dX9_set__48 : decode cX9_set_ 48 = .ok (.istore_n 3, 1) := by decide +kernel
theorem dX9_set__49 : decode cX9_set_ 49 = .ok (.aload_n 0, 1) := by decide +kernel
theorem dX9_set__50 : decode cX9_set_ 50 = .ok (.iload_n 2, 1) := by decide +kernel
theorem dX9_set__51 : decode cX9_set_ 51 = .ok (.putfield 151, 3) := by decide +kernel
theorem dX9_set__54 : decode cX9_set_ 54 = .ok (.iload_n 3, 1) := by decide +kernel
theorem dX9_set__55 : decode cX9_set_ 55 = .ok (.ireturn, 1) := by decide +kernel
theorem dX9_set__56 : decode cX9_set_ 56 = .ok (.aload_n 0, 1) := by decide +kernel
theorem dX9_set__57 : decode cX9_set_ 57 = .ok (.getfield 41, 3) := by decide +kernel
theorem dX9_set__60 : decode cX9_set_ 60 = .ok (.istore_n 3, 1) := by decide +kernel
theorem dX9_set__61 : decode cX9_set_ 61 = .ok (.aload_n 0, 1) := by decide +kernel
theorem dX9_set__62 : decode cX9_set_ 62 = .ok (.iload_n 2, 1) := by decide +kernel
theorem dX9_set__63 : decode cX9_set_ 63 = .ok (.putfield 41, 3) := by decide +kernel
theorem dX9_set__66 : decode cX9_set_ 66 = .ok (.iload_n 3, 1) := by decide +kernel
theorem dX9_set__67 : decode cX9_set_ 67 = .ok (.ireturn, 1) := by decide +kernel
theorem dX9_set__68 : decode cX9_set_ 68 = .ok (.aload_n 0, 1) := by decide +kernel
theorem dX9_set__69 : decode cX9_set_ 69 = .ok (.getfield 44, 3) := by decide +kernel
theorem dX9_set__72 : decode cX9_set_ 72 = .ok (.istore_n 3, 1) := by decide +kernel
theorem dX9_set__73 : decode cX9_set_ 73 = .ok (.aload_n 0, 1) := by decide +kernel
theorem dX9_set__74 : decode cX9_set_ 74 = .ok (.iload_n 2, 1) := by decide +kernel
theorem dX9_set__75 : decode cX9_set_ 75 = .ok (.putfield 44, 3) := by decide +kernel
theorem dX9_set__78 : decode cX9_set_ 78 = .ok (.iload_n 3, 1) := by decide +kernel
theorem dX9_set__79 : decode cX9_set_ 79 = .ok (.ireturn, 1) := by decide +kernel
theorem dX9_set__80 : decode cX9_set_ 80 = .ok (.aload_n 0, 1) := by decide +kernel
theorem dX9_set__81 : decode cX9_set_ 81 = .ok (.getfield 47, 3) := by decide +kernel
theorem dX9_set__84 : decode cX9_set_ 84 = .ok (.istore_n 3, 1) := by decide +kernel
theorem dX9_set__85 : decode cX9_set_ 85 = .ok (.aload_n 0, 1) := by decide +kernel
theorem dX9_set__86 : decode cX9_set_ 86 = .ok (.iload_n 2, 1) := by decide +kernel
theorem dX9_set__87 : decode cX9_set_ 87 = .ok (.putfield 47, 3) := by decide +kernel
theorem dX9_set__90 : decode cX9_set_ 90 = .ok (.iload_n 3, 1) := by decide +kernel
theorem dX9_set__91 : decode cX9_set_ 91 = .ok (.ireturn, 1) := by decide +kernel
set_option maxRecDepth 20000 in
theorem ggX9_tell_X9_in : GoodIn wsX9_tell wsX9_in := goodIn_r _ [8] (by decide +kernel) (by decide +kernel)
set_option maxRecDepth 20000 in
theorem gX9_tell_X9_in : GoodIn wsX9_tell (va_wsS RX9 96 yX9_in wsX9_in) := goodIn_app (goodIn_of _ (by decide +kernel)) ggX9_tell_X9_in
set_option maxRecDepth 20000 in
theorem ggX9_tell_X9_refuse : GoodIn wsX9_tell wsX9_refuse := goodIn_r _ [12, 13, 23, 24, 25, 26, 27, 28, 29, 30, 31, 32, 33, 34, 35, 36, 37, 38, 39, 40, 41, 42, 43, 44, 45, 46, 47, 48, 49, 50, 51, 52, 53, 54, 55, 56, 57, 58, 59, 60, 61, 62, 63, 64] (by decide +kernel) (by decide +kernel)
set_option maxRecDepth 20000 in
theorem gX9_tell_X9_refuse : GoodIn wsX9_tell (wsV RX9 109 RX9 yX9_refuse wsX9_refuse) := goodIn_app (goodIn_of _ (by decide +kernel)) ggX9_tell_X9_refuse
set_option maxRecDepth 20000 in
theorem ggX9_tell_X9_set_ : GoodIn wsX9_tell wsX9_set_ := goodIn_r _ [17, 18, 19, 20, 21, 22, 23, 24, 25, 26, 27, 28, 29, 30, 31, 32, 33, 34, 35, 36, 37, 38, 39, 40, 41, 42, 43, 44, 45, 46, 47, 48, 49, 50, 51, 52, 53, 54, 55, 56, 57, 58, 59, 60, 61, 62, 63, 64] (by decide +kernel) (by decide +kernel)
set_option maxRecDepth 20000 in
theorem gX9_tell_X9_set_ : GoodIn wsX9_tell (wsV RX9 156 RX9 yX9_set_ wsX9_set_) := goodIn_app (goodIn_of _ (by decide +kernel)) ggX9_tell_X9_set_
theorem dX9_tell_0 : decode cX9_tell 0 = .ok (.iload_n 1, 1) := by decide +kernel
theorem dX9_tell_1 : decode cX9_tell 1 = .ok (.i2l, 1) := by decide +kernel
theorem dX9_tell_2 : decode cX9_tell 2 = .ok (.lconst 0, 1) := by decide +kernel
theorem dX9_tell_3 : decode cX9_tell 3 = .ok (.ldc2_w 105, 3) := by decide +kernel
theorem dX9_tell_6 : decode cX9_tell 6 = .ok (.invokestatic 96, 3) := by decide +kernel
theorem dX9_tell_9 : decode cX9_tell 9 = .ok (.ifCond .eq 44, 3) := by decide +kernel
theorem dX9_tell_12 : decode cX9_tell 12 = .ok (.iload_n 2, 1) := by decide +kernel
theorem dX9_tell_13 : decode cX9_tell 13 = .ok (.i2l, 1) := by decide +kernel
theorem dX9_tell_14 : decode cX9_tell 14 = .ok (.iload_n 1, 1) := by decide +kernel
theorem dX9_tell_15 : decode cX9_tell 15 = .ok (.ifCond .ne 7, 3) := by decide +kernel
theorem dX9_tell_18 : decode cX9_tell 18 = .ok (.lconst 1, 1) := by decide +kernel
theorem dX9_tell_19 : decode cX9_tell 19 = .ok (.goto 4, 3) := by decide +kernel
theorem dX9_tell_22 : decode cX9_tell 22 = .ok (.lconst 0, 1) := by decide +kernel
theorem dX9_tell_23 : decode cX9_tell 23 = .ok (.iload_n 1, 1) := by decide +kernel
theorem dX9_tell_24 : decode cX9_tell 24 = .ok (.ifCond .ne 9, 3) := by decide +kernel
theorem dX9_tell_27 : decode cX9_tell 27 = .ok (.ldc2_w 135, 3) := by decide +kernel
theorem dX9_tell_30 : decode cX9_tell 30 = .ok (.goto 17, 3) := by decide +kernel
theorem dX9_tell_33 : decode cX9_tell 33 = .ok (.iload_n 1, 1) := by decide +kernel
theorem dX9_tell_34 : decode cX9_tell 34 = .ok (.iconst 3, 1) := by decide +kernel
theorem dX9_tell_35 : decode cX9_tell 35 = .ok (.if_icmp .ge 9, 3) := by decide +kernel
theorem dX9_tell_38 : decode cX9_tell 38 = .ok (.ldc2_w 154, 3) := by decide +kernel
theorem dX9_tell_41 : decode cX9_tell 41 = .ok (.goto 6, 3) := by decide +kernel
theorem dX9_tell_44 : decode cX9_tell 44 = .ok (.ldc2_w 133, 3) := by decide +kernel
theorem dX9_tell_47 : decode cX9_tell 47 = .ok (.invokestatic 96, 3) := by decide +kernel
theorem dX9_tell_50 : decode cX9_tell 50 = .ok (.ifCond .ne 11, 3) := by decide +kernel
theorem dX9_tell_53 : decode cX9_tell 53 = .ok (.aload_n 0, 1) := by decide +kernel
theorem dX9_tell_54 : decode cX9_tell 54 = .ok (.sipush (-1002), 3) := by decide +kernel
theorem dX9_tell_57 : decode cX9_tell 57 = .ok (.invokevirtual 109, 3) := by decide +kernel
theorem dX9_tell_60 : decode cX9_tell 60 = .ok (.ireturn, 1) := by decide +kernel
theorem dX9_tell_61 : decode cX9_tell 61 = .ok (.aload_n 0, 1) := by decide +kernel
theorem dX9_tell_62 : decode cX9_tell 62 = .ok (.iload_n 1, 1) := by decide +kernel
theorem dX9_tell_63 : decode cX9_tell 63 = .ok (.iload_n 2, 1) := by decide +kernel
theorem dX9_tell_64 : decode cX9_tell 64 = .ok (.invokevirtual 156, 3) := by decide +kernel
theorem dX9_tell_67 : decode cX9_tell 67 = .ok (.ireturn, 1) := by decide +kernel
set_option maxRecDepth 20000 in
theorem ggX9_feed_X9_in : GoodIn wsX9_feed wsX9_in := goodIn_r _ [7] (by decide +kernel) (by decide +kernel)
set_option maxRecDepth 20000 in
theorem gX9_feed_X9_in : GoodIn wsX9_feed (va_wsS RX9 96 yX9_in wsX9_in) := goodIn_app (goodIn_of _ (by decide +kernel)) ggX9_feed_X9_in
set_option maxRecDepth 20000 in
theorem ggX9_feed_X9_refuse : GoodIn wsX9_feed wsX9_refuse := goodIn_r _ [11, 12, 13, 14, 15, 16, 17, 18, 19, 20, 21, 22, 23, 24, 25, 26, 27, 28, 29, 30, 31, 32, 33, 34, 35, 36, 37, 38, 39, 40, 41, 42, 43, 44, 45, 46, 47, 48, 49, 50, 51, 52, 53, 54] (by decide +kernel) (by decide +kernel)
set_option maxRecDepth 20000 in
theorem gX9_feed_X9_refuse : GoodIn wsX9_feed (wsV RX9 109 RX9 yX9_refuse wsX9_refuse) := goodIn_app (goodIn_of _ (by decide +kernel)) ggX9_feed_X9_refuse
theorem dX9_feed_0 : decode cX9_feed 0 = .ok (.iload_n 1, 1) := by decide +kernel
theorem dX9_feed_1 : decode cX9_feed 1 = .ok (.i2l, 1) := by decide +kernel
theorem dX9_feed_2 : decode cX9_feed 2 = .ok (.lconst 0, 1) := by decide +kernel
theorem dX9_feed_3 : decode cX9_feed 3 = .ok (.ldc2_w 159, 3) := by decide +kernel
theorem dX9_feed_6 : decode cX9_feed 6 = .ok (.invokestatic 96, 3) := by decide +kernel
theorem dX9_feed_9 : decode cX9_feed 9 = .ok (.ifCond .ne 11, 3) := by decide +kernel
theorem dX9_feed_12 : decode cX9_feed 12 = .ok (.aload_n 0, 1) := by decide +kernel
theorem dX9_feed_13 : decode cX9_feed 13 = .ok (.sipush (-1002), 3) := by decide +kernel
theorem dX9_feed_16 : decode cX9_feed 16 = .ok (.invokevirtual 109, 3) := by decide +kernel
theorem dX9_feed_19 : decode cX9_feed 19 = .ok (.ireturn, 1) := by decide +kernel
theorem dX9_feed_20 : decode cX9_feed 20 = .ok (.aload_n 0, 1) := by decide +kernel
theorem dX9_feed_21 : decode cX9_feed 21 = .ok (.getfield 161, 3) := by decide +kernel
theorem dX9_feed_24 : decode cX9_feed 24 = .ok (.sipush 250, 3) := by decide +kernel
theorem dX9_feed_27 : decode cX9_feed 27 = .ok (.if_icmp .ne 11, 3) := by decide +kernel
theorem dX9_feed_30 : decode cX9_feed 30 = .ok (.aload_n 0, 1) := by decide +kernel
theorem dX9_feed_31 : decode cX9_feed 31 = .ok (.sipush (-1006), 3) := by decide +kernel
theorem dX9_feed_34 : decode cX9_feed 34 = .ok (.invokevirtual 109, 3) := by decide +kernel
theorem dX9_feed_37 : decode cX9_feed 37 = .ok (.ireturn, 1) := by decide +kernel
theorem dX9_feed_38 : decode cX9_feed 38 = .ok (.aload_n 0, 1) := by decide +kernel
theorem dX9_feed_39 : decode cX9_feed 39 = .ok (.getfield 31, 3) := by decide +kernel
theorem dX9_feed_42 : decode cX9_feed 42 = .ok (.aload_n 0, 1) := by decide +kernel
theorem dX9_feed_43 : decode cX9_feed 43 = .ok (.dup, 1) := by decide +kernel
theorem dX9_feed_44 : decode cX9_feed 44 = .ok (.getfield 161, 3) := by decide +kernel
theorem dX9_feed_47 : decode cX9_feed 47 = .ok (.dup_x1, 1) := by decide +kernel
theorem dX9_feed_48 : decode cX9_feed 48 = .ok (.iconst 1, 1) := by decide +kernel
theorem dX9_feed_49 : decode cX9_feed 49 = .ok (.iadd, 1) := by decide +kernel
theorem dX9_feed_50 : decode cX9_feed 50 = .ok (.putfield 161, 3) := by decide +kernel
theorem dX9_feed_53 : decode cX9_feed 53 = .ok (.iload_n 1, 1) := by decide +kernel
theorem dX9_feed_54 : decode cX9_feed 54 = .ok (.iastore, 1) := by decide +kernel
theorem dX9_feed_55 : decode cX9_feed 55 = .ok (.aload_n 0, 1) := by decide +kernel
theorem dX9_feed_56 : decode cX9_feed 56 = .ok (.getfield 161, 3) := by decide +kernel
theorem dX9_feed_59 : decode cX9_feed 59 = .ok (.ireturn, 1) := by decide +kernel
theorem dX9_wipe_0 : decode cX9_wipe 0 = .ok (.aload_n 0, 1) := by decide +kernel
theorem dX9_wipe_1 : decode cX9_wipe 1 = .ok (.getfield 161, 3) := by decide +kernel
theorem dX9_wipe_4 : decode cX9_wipe 4 = .ok (.istore_n 1, 1) := by decide +kernel
theorem dX9_wipe_5 : decode cX9_wipe 5 = .ok (.aload_n 0, 1) := by decide +kernel
theorem dX9_wipe_6 : decode cX9_wipe 6 = .ok (.iconst 0, 1) := by decide +kernel
theorem dX9_wipe_7 : decode cX9_wipe 7 = .ok (.putfield 161, 3) := by decide +kernel
theorem dX9_wipe_10 : decode cX9_wipe 10 = .ok (.iload_n 1, 1) := by decide +kernel
theorem dX9_wipe_11 : decode cX9_wipe 11 = .ok (.ireturn, 1) := by decide +kernel
theorem dX9_isLetter_0 : decode cX9_isLetter 0 = .ok (.iload_n 0, 1) := by decide +kernel
theorem dX9_isLetter_1 : decode cX9_isLetter 1 = .ok (.bipush 97, 2) := by decide +kernel
theorem dX9_isLetter_3 : decode cX9_isLetter 3 = .ok (.if_icmp .lt 13, 3) := by decide +kernel
theorem dX9_isLetter_6 : decode cX9_isLetter 6 = .ok (.iload_n 0, 1) := by decide +kernel
theorem dX9_isLetter_7 : decode cX9_isLetter 7 = .ok (.bipush 122, 2) := by decide +kernel
theorem dX9_isLetter_9 : decode cX9_isLetter 9 = .ok (.if_icmp .gt 7, 3) := by decide +kernel
theorem dX9_isLetter_12 : decode cX9_isLetter 12 = .ok (.iconst 1, 1) := by decide +kernel
theorem dX9_isLetter_13 : decode cX9_isLetter 13 = .ok (.goto 4, 3) := by decide +kernel
theorem dX9_isLetter_16 : decode cX9_isLetter 16 = .ok (.iconst 0, 1) := by decide +kernel
theorem dX9_isLetter_17 : decode cX9_isLetter 17 = .ok (.ireturn, 1) := by decide +kernel
theorem dX9_isDigit_0 : decode cX9_isDigit 0 = .ok (.iload_n 0, 1) := by decide +kernel
theorem dX9_isDigit_1 : decode cX9_isDigit 1 = .ok (.bipush 48, 2) := by decide +kernel
theorem dX9_isDigit_3 : decode cX9_isDigit 3 = .ok (.if_icmp .lt 13, 3) := by decide +kernel
theorem dX9_isDigit_6 : decode cX9_isDigit 6 = .ok (.iload_n 0, 1) := by decide +kernel
theorem dX9_isDigit_7 : decode cX9_isDigit 7 = .ok (.bipush 57, 2) := by decide +kernel
theorem dX9_isDigit_9 : decode cX9_isDigit 9 = .ok (.if_icmp .gt 7, 3) := by decide +kernel
theorem dX9_isDigit_12 : decode cX9_isDigit 12 = .ok (.iconst 1, 1) := by decide +kernel
theorem dX9_isDigit_13 : decode cX9_isDigit 13 = .ok (.goto 4, 3) := by decide +kernel
theorem dX9_isDigit_16 : decode cX9_isDigit 16 = .ok (.iconst 0, 1) := by decide +kernel
theorem dX9_isDigit_17 : decode cX9_isDigit 17 = .ok (.ireturn, 1) := by decide +kernel
set_option maxRecDepth 20000 in
theorem ggX9_look_X9_isLetter : GoodIn wsX9_look wsX9_isLetter := goodIn_r _ [10] (by decide +kernel) (by decide +kernel)
set_option maxRecDepth 20000 in
theorem gX9_look_X9_isLetter : GoodIn wsX9_look (va_wsS RX9 176 yX9_isLetter wsX9_isLetter) := goodIn_app (goodIn_of _ (by decide +kernel)) ggX9_look_X9_isLetter
set_option maxRecDepth 20000 in
theorem ggX9_look_X9_isDigit : GoodIn wsX9_look wsX9_isDigit := goodIn_r _ [13] (by decide +kernel) (by decide +kernel)
set_option maxRecDepth 20000 in
theorem gX9_look_X9_isDigit : GoodIn wsX9_look (va_wsS RX9 179 yX9_isDigit wsX9_isDigit) := goodIn_app (goodIn_of _ (by decide +kernel)) ggX9_look_X9_isDigit
theorem dX9_look_0 : decode cX9_look 0 = .ok (.aload_n 0, 1) := by decide +kernel
theorem dX9_look_1 : decode cX9_look 1 = .ok (.getfield 164, 3) := by decide +kernel
theorem dX9_look_4 : decode cX9_look 4 = .ok (.aload_n 0, 1) := by decide +kernel
theorem dX9_look_5 : decode cX9_look 5 = .ok (.getfield 161, 3) := by decide +kernel
theorem dX9_look_8 : decode cX9_look 8 = .ok (.if_icmp .ge 30, 3) := by decide +kernel
theorem dX9_look_11 : decode cX9_look 11 = .ok (.aload_n 0, 1) := by decide +kernel
theorem dX9_look_12 : decode cX9_look 12 = .ok (.getfield 31, 3) := by decide +kernel
theorem dX9_look_15 : decode cX9_look 15 = .ok (.aload_n 0, 1) := by decide +kernel
theorem dX9_look_16 : decode cX9_look 16 = .ok (.getfield 164, 3) := by decide +kernel
theorem dX9_look_19 : decode cX9_look 19 = .ok (.iaload, 1) := by decide +kernel
theorem dX9_look_20 : decode cX9_look 20 = .ok (.bipush 32, 2) := by decide +kernel
theorem dX9_look_22 : decode cX9_look 22 = .ok (.if_icmp .ne 16, 3) := by decide +kernel
theorem dX9_look_25 : decode cX9_look 25 = .ok (.aload_n 0, 1) := by decide +kernel
theorem dX9_look_26 : decode cX9_look 26 = .ok (.dup, 1) := by decide +kernel
theorem dX9_look_27 : decode cX9_look 27 = .ok (.getfield 164, 3) := by decide +kernel
theorem dX9_look_30 : decode cX9_look 30 = .ok (.iconst 1, 1) := by decide +kernel
theorem dX9_look_31 : decode cX9_look 31 = .ok (.iadd, 1) := by decide +kernel
theorem dX9_look_32 : decode cX9_look 32 = .ok (.putfield 164, 3) := by decide +kernel
theorem dX9_look_35 : decode cX9_look 35 = .ok (.goto (-35), 3) := by decide +kernel
theorem dX9_look_38 : decode cX9_look 38 = .ok (.aload_n 0, 1) := by decide +kernel
theorem dX9_look_39 : decode cX9_look 39 = .ok (.aload_n 0, 1) := by decide +kernel
theorem dX9_look_40 : decode cX9_look 40 = .ok (.getfield 164, 3) := by decide +kernel
theorem dX9_look_43 : decode cX9_look 43 = .ok (.putfield 167, 3) := by decide +kernel
theorem dX9_look_46 : decode cX9_look 46 = .ok (.aload_n 0, 1) := by decide +kernel
theorem dX9_look_47 : decode cX9_look 47 = .ok (.iconst 0, 1) := by decide +kernel
theorem dX9_look_48 : decode cX9_look 48 = .ok (.putfield 170, 3) := by decide +kernel
theorem dX9_look_51 : decode cX9_look 51 = .ok (.aload_n 0, 1) := by decide +kernel
theorem dX9_look_52 : decode cX9_look 52 = .ok (.getfield 164, 3) := by decide +kernel
theorem dX9_look_55 : decode cX9_look 55 = .ok (.aload_n 0, 1) := by decide +kernel
theorem dX9_look_56 : decode cX9_look 56 = .ok (.getfield 161, 3) := by decide +kernel
theorem dX9_look_59 : decode cX9_look 59 = .ok (.if_icmp .ne 11, 3) := by decide +kernel
theorem dX9_look_62 : decode cX9_look 62 = .ok (.aload_n 0, 1) := by decide +kernel
theorem dX9_look_63 : decode cX9_look 63 = .ok (.iconst 0, 1) := by decide +kernel
theorem dX9_look_64 : decode cX9_look 64 = .ok (.putfield 173, 3) := by decide +kernel
theorem dX9_look_67 : decode cX9_look 67 = .ok (.goto 197, 3) := by decide +kernel
theorem dX9_look_70 : decode cX9_look 70 = .ok (.aload_n 0, 1) := by decide +kernel
theorem dX9_look_71 : decode cX9_look 71 = .ok (.getfield 31, 3) := by decide +kernel
theorem dX9_look_74 : decode cX9_look 74 = .ok (.aload_n 0, 1) := by decide +kernel
theorem dX9_look_75 : decode cX9_look 75 = .ok (.getfield 164, 3) := by decide +kernel
theorem dX9_look_78 : decode cX9_look 78 = .ok (.iaload, 1) := by decide +kernel
theorem dX9_look_79 : decode cX9_look 79 = .ok (.invokestatic 176, 3) := by decide +kernel
theorem dX9_look_82 : decode cX9_look 82 = .ok (.ifCond .eq 47, 3) := by decide +kernel
theorem dX9_look_85 : decode cX9_look 85 = .ok (.aload_n 0, 1) := by decide +kernel
theorem dX9_look_86 : decode cX9_look 86 = .ok (.iconst 1, 1) := by decide +kernel
theorem dX9_look_87 : decode cX9_look 87 = .ok (.putfield 173, 3) := by decide +kernel
theorem dX9_look_90 : decode cX9_look 90 = .ok (.aload_n 0, 1) := by decide +kernel
theorem dX9_look_91 : decode cX9_look 91 = .ok (.getfield 164, 3) := by decide +kernel
theorem dX9_look_94 : decode cX9_look 94 = .ok (.aload_n 0, 1) := by decide +kernel
theorem dX9_look_95 : decode cX9_look 95 = .ok (.getfield 161, 3) := by decide +kernel
theorem dX9_look_98 : decode cX9_look 98 = .ok (.if_icmp .ge 166, 3) := by decide +kernel
theorem dX9_look_101 : decode cX9_look 101 = .ok (.aload_n 0, 1) := by decide +kernel
theorem dX9_look_102 : decode cX9_look 102 = .ok (.getfield 31, 3) := by decide +kernel
theorem dX9_look_105 : decode cX9_look 105 = .ok (.aload_n 0, 1) := by decide +kernel
theorem dX9_look_106 : decode cX9_look 106 = .ok (.getfield 164, 3) := by decide +kernel
theorem dX9_look_109 : decode cX9_look 109 = .ok (.iaload, 1) := by decide +kernel
theorem dX9_look_110 : decode cX9_look 110 = .ok (.invokestatic 176, 3) := by decide +kernel
theorem dX9_look_113 : decode cX9_look 113 = .ok (.ifCond .eq 151, 3) := by decide +kernel
theorem dX9_look_116 : decode cX9_look 116 = .ok (.aload_n 0, 1) := by decide +kernel
theorem dX9_look_117 : decode cX9_look 117 = .ok (.dup, 1) := by decide +kernel
theorem dX9_look_118 : decode cX9_look 118 = .ok (.getfield 164, 3) := by decide +kernel
theorem dX9_look_121 : decode cX9_look 121 = .ok (.iconst 1, 1) := by decide +kernel
theorem dX9_look_122 : decode cX9_look 122 = .ok (.iadd, 1) := by decide +kernel
theorem dX9_look_123 : decode cX9_look 123 = .ok (.putfield 164, 3) := by decide +kernel
theorem dX9_look_126 : decode cX9_look 126 = .ok (.goto (-36), 3) := by decide +kernel
theorem dX9_look_129 : decode cX9_look 129 = .ok (.aload_n 0, 1) := by decide +kernel
theorem dX9_look_130 : decode cX9_look 130 = .ok (.getfield 31, 3) := by decide +kernel
theorem dX9_look_133 : decode cX9_look 133 = .ok (.aload_n 0, 1) := by decide +kernel
theorem dX9_look_134 : decode cX9_look 134 = .ok (.getfield 164, 3) := by decide +kernel
theorem dX9_look_137 : decode cX9_look 137 = .ok (.iaload, 1) := by decide +kernel
theorem dX9_look_138 : decode cX9_look 138 = .ok (.invokestatic 179, 3) := by decide +kernel
theorem dX9_look_141 : decode cX9_look 141 = .ok (.ifCond .eq 90, 3) := by decide +kernel
theorem dX9_look_144 : decode cX9_look 144 = .ok (.aload_n 0, 1) := by decide +kernel
theorem dX9_look_145 : decode cX9_look 145 = .ok (.iconst 2, 1) := by decide +kernel
theorem dX9_look_146 : decode cX9_look 146 = .ok (.putfield 173, 3) := by decide +kernel
theorem dX9_look_149 : decode cX9_look 149 = .ok (.aload_n 0, 1) := by decide +kernel
theorem dX9_look_150 : decode cX9_look 150 = .ok (.getfield 164, 3) := by decide +kernel
theorem dX9_look_153 : decode cX9_look 153 = .ok (.aload_n 0, 1) := by decide +kernel
theorem dX9_look_154 : decode cX9_look 154 = .ok (.getfield 161, 3) := by decide +kernel
theorem dX9_look_157 : decode cX9_look 157 = .ok (.if_icmp .ge 107, 3) := by decide +kernel
theorem dX9_look_160 : decode cX9_look 160 = .ok (.aload_n 0, 1) := by decide +kernel
theorem dX9_look_161 : decode cX9_look 161 = .ok (.getfield 31, 3) := by decide +kernel
theorem dX9_look_164 : decode cX9_look 164 = .ok (.aload_n 0, 1) := by decide +kernel
theorem dX9_look_165 : decode cX9_look 165 = .ok (.getfield 164, 3) := by decide +kernel
theorem dX9_look_168 : decode cX9_look 168 = .ok (.iaload, 1) := by decide +kernel
theorem dX9_look_169 : decode cX9_look 169 = .ok (.invokestatic 179, 3) := by decide +kernel
theorem dX9_look_172 : decode cX9_look 172 = .ok (.ifCond .eq 92, 3) := by decide +kernel
theorem dX9_look_175 : decode cX9_look 175 = .ok (.aload_n 0, 1) := by decide +kernel
theorem dX9_look_176 : decode cX9_look 176 = .ok (.aload_n 0, 1) := by decide +kernel
theorem dX9_look_177 : decode cX9_look 177 = .ok (.getfield 164, 3) := by decide +kernel
theorem dX9_look_180 : decode cX9_look 180 = .ok (.aload_n 0, 1) := by decide +kernel
theorem dX9_look_181 : decode cX9_look 181 = .ok (.getfield 167, 3) := by decide +kernel
theorem dX9_look_184 : decode cX9_look 184 = .ok (.isub, 1) := by decide +kernel
theorem dX9_look_185 : decode cX9_look 185 = .ok (.iconst 2, 1) := by decide +kernel
theorem dX9_look_186 : decode cX9_look 186 = .ok (.if_icmp .ge 26, 3) := by decide +kernel
theorem dX9_look_189 : decode cX9_look 189 = .ok (.aload_n 0, 1) := by decide +kernel
theorem dX9_look_190 : decode cX9_look 190 = .ok (.getfield 170, 3) := by decide +kernel
theorem dX9_look_193 : decode cX9_look 193 = .ok (.bipush 10, 2) := by decide +kernel
theorem dX9_look_195 : decode cX9_look 195 = .ok (.imul, 1) := by decide +kernel
theorem dX9_look_196 : decode cX9_look 196 = .ok (.aload_n 0, 1) := by decide +kernel
theorem dX9_look_197 : decode cX9_look 197 = .ok (.getfield 31, 3) := by decide +kernel
theorem dX9_look_200 : decode cX9_look 200 = .ok (.aload_n 0, 1) := by decide +kernel
theorem dX9_look_201 : decode cX9_look 201 = .ok (.getfield 164, 3) := by decide +kernel
theorem dX9_look_204 : decode cX9_look 204 = .ok (.iaload, 1) := by decide +kernel
theorem dX9_look_205 : decode cX9_look 205 = .ok (.iadd, 1) := by decide +kernel
theorem dX9_look_206 : decode cX9_look 206 = .ok (.bipush 48, 2) := by decide +kernel
theorem dX9_look_208 : decode cX9_look 208 = .ok (.isub, 1) := by decide +kernel
theorem dX9_look_209 : decode cX9_look 209 = .ok (.goto 6, 3) := by decide +kernel
theorem dX9_look_212 : decode cX9_look 212 = .ok (.sipush 1000, 3) := by decide +kernel
theorem dX9_look_215 : decode cX9_look 215 = .ok (.putfield 170, 3) := by decide +kernel
theorem dX9_look_218 : decode cX9_look 218 = .ok (.aload_n 0, 1) := by decide +kernel
theorem dX9_look_219 : decode cX9_look 219 = .ok (.dup, 1) := by decide +kernel
theorem dX9_look_220 : decode cX9_look 220 = .ok (.getfield 164, 3) := by decide +kernel
theorem dX9_look_223 : decode cX9_look 223 = .ok (.iconst 1, 1) := by decide +kernel
theorem dX9_look_224 : decode cX9_look 224 = .ok (.iadd, 1) := by decide +kernel
theorem dX9_look_225 : decode cX9_look 225 = .ok (.putfield 164, 3) := by decide +kernel
theorem dX9_look_228 : decode cX9_look 228 = .ok (.goto (-79), 3) := by decide +kernel
theorem dX9_look_231 : decode cX9_look 231 = .ok (.aload_n 0, 1) := by decide +kernel
theorem dX9_look_232 : decode cX9_look 232 = .ok (.aload_n 0, 1) := by decide +kernel
theorem dX9_look_233 : decode cX9_look 233 = .ok (.getfield 31, 3) := by decide +kernel
theorem dX9_look_236 : decode cX9_look 236 = .ok (.aload_n 0, 1) := by decide +kernel
theorem dX9_look_237 : decode cX9_look 237 = .ok (.getfield 164, 3) := by decide +kernel
theorem dX9_look_240 : decode cX9_look 240 = .ok (.iaload, 1) := by decide +kernel
theorem dX9_look_241 : decode cX9_look 241 = .ok (.bipush 59, 2) := by decide +kernel
theorem dX9_look_243 : decode cX9_look 243 = .ok (.if_icmp .ne 7, 3) := by decide +kernel
theorem dX9_look_246 : decode cX9_look 246 = .ok (.iconst 3, 1) := by decide +kernel
theorem dX9_look_247 : decode cX9_look 247 = .ok (.goto 4, 3) := by decide +kernel
theorem dX9_look_250 : decode cX9_look 250 = .ok (.iconst 4, 1) := by decide +kernel
theorem dX9_look_251 : decode cX9_look 251 = .ok (.putfield 173, 3) := by decide +kernel
theorem dX9_look_254 : decode cX9_look 254 = .ok (.aload_n 0, 1) := by decide +kernel
theorem dX9_look_255 : decode cX9_look 255 = .ok (.dup, 1) := by decide +kernel
theorem dX9_look_256 : decode cX9_look 256 = .ok (.getfield 164, 3) := by decide +kernel
theorem dX9_look_259 : decode cX9_look 259 = .ok (.iconst 1, 1) := by decide +kernel
theorem dX9_look_260 : decode cX9_look 260 = .ok (.iadd, 1) := by decide +kernel
theorem dX9_look_261 : decode cX9_look 261 = .ok (.putfield 164, 3) := by decide +kernel
theorem dX9_look_264 : decode cX9_look 264 = .ok (.return_, 1) := by decide +kernel
theorem dX9_wrong_0 : decode cX9_wrong 0 = .ok (.aload_n 0, 1) := by decide +kernel
theorem dX9_wrong_1 : decode cX9_wrong 1 = .ok (.aload_n 0, 1) := by decide +kernel
theorem dX9_wrong_2 : decode cX9_wrong 2 = .ok (.getfield 167, 3) := by decide +kernel
theorem dX9_wrong_5 : decode cX9_wrong 5 = .ok (.putfield 182, 3) := by decide +kernel
theorem dX9_wrong_8 : decode cX9_wrong 8 = .ok (.iconst 0, 1) := by decide +kernel
theorem dX9_wrong_9 : decode cX9_wrong 9 = .ok (.ireturn, 1) := by decide +kernel
set_option maxRecDepth 20000 in
theorem ggX9_isWord_J0_length_8abf5 : GoodIn wsX9_isWord wsJ0_length_8abf5 := goodIn_r _ [9, 10, 11, 12, 13, 8, 14, 15, 16] (by decide +kernel) (by decide +kernel)
set_option maxRecDepth 20000 in
theorem gX9_isWord_J0_length_8abf5 : GoodIn wsX9_isWord (wsV RX9 185 RJ0 yJ0_length_8abf5 wsJ0_length_8abf5) := goodIn_app (goodIn_of _ (by decide +kernel)) ggX9_isWord_J0_length_8abf5
set_option maxRecDepth 20000 in
theorem ggX9_isWord_J0_charAt_5068e : GoodIn wsX9_isWord wsJ0_charAt_5068e := goodIn_r _ [20, 10, 21, 22, 23, 8, 24, 15, 16, 25, 26, 27, 28, 29, 30, 31, 32, 33, 34, 35, 36, 37, 38, 39, 40, 41, 42, 43, 44, 45, 46, 47, 48, 49, 50, 51, 52, 53] (by decide +kernel) (by decide +kernel)
set_option maxRecDepth 20000 in
theorem gX9_isWord_J0_charAt_5068e : GoodIn wsX9_isWord (wsV RX9 191 RJ0 yJ0_charAt_5068e wsJ0_charAt_5068e) := goodIn_app (goodIn_of _ (by decide +kernel)) ggX9_isWord_J0_charAt_5068e
theorem dX9_isWord_0 : decode cX9_isWord 0 = .ok (.aload_n 0, 1) := by decide +kernel
theorem dX9_isWord_1 : decode cX9_isWord 1 = .ok (.getfield 173, 3) := by decide +kernel
theorem dX9_isWord_4 : decode cX9_isWord 4 = .ok (.iconst 1, 1) := by decide +kernel
theorem dX9_isWord_5 : decode cX9_isWord 5 = .ok (.if_icmp .ne 19, 3) := by decide +kernel
theorem dX9_isWord_8 : decode cX9_isWord 8 = .ok (.aload_n 0, 1) := by decide +kernel
theorem dX9_isWord_9 : decode cX9_isWord 9 = .ok (.getfield 164, 3) := by decide +kernel
theorem dX9_isWord_12 : decode cX9_isWord 12 = .ok (.aload_n 0, 1) := by decide +kernel
theorem dX9_isWord_13 : decode cX9_isWord 13 = .ok (.getfield 167, 3) := by decide +kernel
theorem dX9_isWord_16 : decode cX9_isWord 16 = .ok (.isub, 1) := by decide +kernel
theorem dX9_isWord_17 : decode cX9_isWord 17 = .ok (.aload_n 1, 1) := by decide +kernel
theorem dX9_isWord_18 : decode cX9_isWord 18 = .ok (.invokevirtual 185, 3) := by decide +kernel
theorem dX9_isWord_21 : decode cX9_isWord 21 = .ok (.if_icmp .eq 5, 3) := by decide +kernel
theorem dX9_isWord_24 : decode cX9_isWord 24 = .ok (.iconst 0, 1) := by decide +kernel
theorem dX9_isWord_25 : decode cX9_isWord 25 = .ok (.ireturn, 1) := by decide +kernel
theorem dX9_isWord_26 : decode cX9_isWord 26 = .ok (.iconst 0, 1) := by decide +kernel
theorem dX9_isWord_27 : decode cX9_isWord 27 = .ok (.istore_n 2, 1) := by decide +kernel
theorem dX9_isWord_28 : decode cX9_isWord 28 = .ok (.iload_n 2, 1) := by decide +kernel
theorem dX9_isWord_29 : decode cX9_isWord 29 = .ok (.aload_n 1, 1) := by decide +kernel
theorem dX9_isWord_30 : decode cX9_isWord 30 = .ok (.invokevirtual 185, 3) := by decide +kernel
theorem dX9_isWord_33 : decode cX9_isWord 33 = .ok (.if_icmp .ge 30, 3) := by decide +kernel
theorem dX9_isWord_36 : decode cX9_isWord 36 = .ok (.aload_n 0, 1) := by decide +kernel
theorem dX9_isWord_37 : decode cX9_isWord 37 = .ok (.getfield 31, 3) := by decide +kernel
theorem dX9_isWord_40 : decode cX9_isWord 40 = .ok (.aload_n 0, 1) := by decide +kernel
theorem dX9_isWord_41 : decode cX9_isWord 41 = .ok (.getfield 167, 3) := by decide +kernel
theorem dX9_isWord_44 : decode cX9_isWord 44 = .ok (.iload_n 2, 1) := by decide +kernel
theorem dX9_isWord_45 : decode cX9_isWord 45 = .ok (.iadd, 1) := by decide +kernel
theorem dX9_isWord_46 : decode cX9_isWord 46 = .ok (.iaload, 1) := by decide +kernel
theorem dX9_isWord_47 : decode cX9_isWord 47 = .ok (.aload_n 1, 1) := by decide +kernel
theorem dX9_isWord_48 : decode cX9_isWord 48 = .ok (.iload_n 2, 1) := by decide +kernel
theorem dX9_isWord_49 : decode cX9_isWord 49 = .ok (.invokevirtual 191, 3) := by decide +kernel
theorem dX9_isWord_52 : decode cX9_isWord 52 = .ok (.if_icmp .eq 5, 3) := by decide +kernel
theorem dX9_isWord_55 : decode cX9_isWord 55 = .ok (.iconst 0, 1) := by decide +kernel
theorem dX9_isWord_56 : decode cX9_isWord 56 = .ok (.ireturn, 1) := by decide +kernel
theorem dX9_isWord_57 : decode cX9_isWord 57 = .ok (.iinc 2 1, 3) := by decide +kernel
theorem dX9_isWord_60 : decode cX9_isWord 60 = .ok (.goto (-32), 3) := by decide +kernel
theorem dX9_isWord_63 : decode cX9_isWord 63 = .ok (.iconst 1, 1) := by decide +kernel
theorem dX9_isWord_64 : decode cX9_isWord 64 = .ok (.ireturn, 1) := by decide +kernel
set_option maxRecDepth 20000 in
theorem ggX9_number_X9_in : GoodIn wsX9_number wsX9_in := goodIn_r _ [7] (by decide +kernel) (by decide +kernel)
set_option maxRecDepth 20000 in
theorem gX9_number_X9_in : GoodIn wsX9_number (va_wsS RX9 96 yX9_in wsX9_in) := goodIn_app (goodIn_of _ (by decide +kernel)) ggX9_number_X9_in
set_option maxRecDepth 20000 in
theorem ggX9_number_X9_wrong : GoodIn wsX9_number wsX9_wrong := goodIn_r _ [11, 12, 13, 27, 28, 29, 30, 31, 32, 33, 34, 35, 36, 37, 38, 39, 40, 41, 42, 43, 44, 45, 46, 47, 48, 49, 50, 51, 52, 53, 54, 55, 56, 57, 58, 59, 60, 61, 62, 63, 64, 65, 66, 67, 68] (by decide +kernel) (by decide +kernel)
set_option maxRecDepth 20000 in
theorem gX9_number_X9_wrong : GoodIn wsX9_number (wsV RX9 195 RX9 yX9_wrong wsX9_wrong) := goodIn_app (goodIn_of _ (by decide +kernel)) ggX9_number_X9_wrong
set_option maxRecDepth 20000 in
theorem ggX9_number_X9_look : GoodIn wsX9_number wsX9_look := goodIn_r _ [17, 18, 19, 20, 12, 2, 1, 21, 22, 6, 23, 24, 25, 26, 27, 28, 29, 30, 31, 32, 33, 34, 35, 36, 37, 38, 39, 40, 41, 42, 43, 44, 45, 46, 47, 48, 49, 50, 51, 52, 53, 54, 55, 56, 57, 58, 59, 60, 61, 62, 63, 64, 65, 66, 67, 68] (by decide +kernel) (by decide +kernel)
set_option maxRecDepth 20000 in
theorem gX9_number_X9_look : GoodIn wsX9_number (wsV RX9 199 RX9 yX9_look wsX9_look) := goodIn_app (goodIn_of _ (by decide +kernel)) ggX9_number_X9_look
theorem dX9_number_0 : decode cX9_number 0 = .ok (.aload_n 0, 1) := by decide +kernel
theorem dX9_number_1 : decode cX9_number 1 = .ok (.getfield 173, 3) := by decide +kernel
theorem dX9_number_4 : decode cX9_number 4 = .ok (.iconst 2, 1) := by decide +kernel
theorem dX9_number_5 : decode cX9_number 5 = .ok (.if_icmp .ne 18, 3) := by decide +kernel
theorem dX9_number_8 : decode cX9_number 8 = .ok (.aload_n 0, 1) := by decide +kernel
theorem dX9_number_9 : decode cX9_number 9 = .ok (.getfield 170, 3) := by decide +kernel
theorem dX9_number_12 : decode cX9_number 12 = .ok (.i2l, 1) := by decide +kernel
theorem dX9_number_13 : decode cX9_number 13 = .ok (.iload_n 2, 1) := by decide +kernel
theorem dX9_number_14 : decode cX9_number 14 = .ok (.i2l, 1) := by decide +kernel
theorem dX9_number_15 : decode cX9_number 15 = .ok (.iload_n 3, 1) := by decide +kernel
theorem dX9_number_16 : decode cX9_number 16 = .ok (.i2l, 1) := by decide +kernel
theorem dX9_number_17 : decode cX9_number 17 = .ok (.invokestatic 96, 3) := by decide +kernel
theorem dX9_number_20 : decode cX9_number 20 = .ok (.ifCond .ne 8, 3) := by decide +kernel
theorem dX9_number_23 : decode cX9_number 23 = .ok (.aload_n 0, 1) := by decide +kernel
theorem dX9_number_24 : decode cX9_number 24 = .ok (.invokevirtual 195, 3) := by decide +kernel
theorem dX9_number_27 : decode cX9_number 27 = .ok (.ireturn, 1) := by decide +kernel
theorem dX9_number_28 : decode cX9_number 28 = .ok (.aload_n 0, 1) := by decide +kernel
theorem dX9_number_29 : decode cX9_number 29 = .ok (.getfield 71, 3) := by decide +kernel
theorem dX9_number_32 : decode cX9_number 32 = .ok (.iload_n 1, 1) := by decide +kernel
theorem dX9_number_33 : decode cX9_number 33 = .ok (.aload_n 0, 1) := by decide +kernel
theorem dX9_number_34 : decode cX9_number 34 = .ok (.getfield 170, 3) := by decide +kernel
theorem dX9_number_37 : decode cX9_number 37 = .ok (.iastore, 1) := by decide +kernel
theorem dX9_number_38 : decode cX9_number 38 = .ok (.aload_n 0, 1) := by decide +kernel
theorem dX9_number_39 : decode cX9_number 39 = .ok (.invokevirtual 199, 3) := by decide +kernel
theorem dX9_number_42 : decode cX9_number 42 = .ok (.iconst 1, 1) := by decide +kernel
theorem dX9_number_43 : decode cX9_number 43 = .ok (.ireturn, 1) := by decide +kernel
set_option maxRecDepth 20000 in
theorem ggX9_tells_X9_look : GoodIn wsX9_tells wsX9_look := goodIn_r _ [5, 6, 7, 8, 9, 10, 11, 12, 13, 4, 14, 15, 16, 17, 31, 32, 33, 34, 35, 36, 37, 38, 39, 40, 41, 42, 43, 44, 45, 46, 47, 48, 49, 50, 51, 52, 53, 54, 55, 56, 57, 58, 59, 60, 61, 62, 63, 64, 65, 66, 67, 68, 69, 70, 71, 72] (by decide +kernel) (by decide +kernel)
set_option maxRecDepth 20000 in
theorem gX9_tells_X9_look : GoodIn wsX9_tells (wsV RX9 199 RX9 yX9_look wsX9_look) := goodIn_app (goodIn_of _ (by decide +kernel)) ggX9_tells_X9_look
set_option maxRecDepth 20000 in
theorem ggX9_tells_X9_number : GoodIn wsX9_tells wsX9_number := goodIn_r _ [21, 11, 10, 22, 23, 24, 4, 25, 26, 27, 28, 29, 9, 30, 1, 2, 3, 5, 6, 7, 8, 12, 13, 14, 15, 16, 17, 31, 32, 33, 34, 35, 36, 37, 38, 39, 40, 41, 42, 43, 44, 45, 46, 47, 48, 49, 50, 51, 52, 53, 54, 55, 56, 57, 58, 59, 60, 61, 62, 63, 64, 65, 66, 67, 68, 69, 70, 71, 72] (by decide +kernel) (by decide +kernel)
set_option maxRecDepth 20000 in
theorem gX9_tells_X9_number : GoodIn wsX9_tells (wsV RX9 202 RX9 yX9_number wsX9_number) := goodIn_app (goodIn_of _ (by decide +kernel)) ggX9_tells_X9_number
theorem dX9_tells_0 : decode cX9_tells 0 = .ok (.aload_n 0, 1) := by decide +kernel
theorem dX9_tells_1 : decode cX9_tells 1 = .ok (.invokevirtual 199, 3) := by decide +kernel
theorem dX9_tells_4 : decode cX9_tells 4 = .ok (.aload_n 0, 1) := by decide +kernel
theorem dX9_tells_5 : decode cX9_tells 5 = .ok (.iconst 0, 1) := by decide +kernel
theorem dX9_tells_6 : decode cX9_tells 6 = .ok (.iload_n 1, 1) := by decide +kernel
theorem dX9_tells_7 : decode cX9_tells 7 = .ok (.iload_n 2, 1) := by decide +kernel
theorem dX9_tells_8 : decode cX9_tells 8 = .ok (.invokevirtual 202, 3) := by decide +kernel
theorem dX9_tells_11 : decode cX9_tells 11 = .ok (.ireturn, 1) := by decide +kernel
set_option maxRecDepth 20000 in
theorem ggX9_tellsParty_X9_tells : GoodIn wsX9_tellsParty wsX9_tells := goodIn_r _ [6, 7, 8, 9, 5, 10, 11, 12, 13, 14, 15, 16, 17, 18, 19, 20, 21, 22, 23, 24, 25, 26, 1, 27, 28, 29, 30, 31, 32, 33, 34, 47, 48, 49, 50, 51, 52, 53, 54, 55, 56, 57, 58, 59, 60, 61, 62, 63, 64, 65, 66, 67, 68, 69, 70, 71, 72, 73, 74, 75, 76, 77, 78, 79, 80, 81, 82, 83, 84, 85, 86, 87, 88] (by decide +kernel) (by decide +kernel)
set_option maxRecDepth 20000 in
theorem gX9_tellsParty_X9_tells : GoodIn wsX9_tellsParty (wsV RX9 206 RX9 yX9_tells wsX9_tells) := goodIn_app (goodIn_of _ (by decide +kernel)) ggX9_tellsParty_X9_tells
set_option maxRecDepth 20000 in
theorem ggX9_tellsParty_X9_number : GoodIn wsX9_tellsParty wsX9_number := goodIn_r _ [26, 16, 15, 1, 27, 28, 5, 29, 30, 31, 32, 33, 14, 34, 7, 8, 9, 10, 11, 12, 13, 17, 18, 19, 20, 21, 22, 47, 48, 49, 50, 51, 52, 53, 54, 55, 56, 57, 58, 59, 60, 61, 62, 63, 64, 65, 66, 67, 68, 69, 70, 71, 72, 73, 74, 75, 76, 77, 78, 79, 80, 81, 82, 83, 84, 85, 86, 87, 88] (by decide +kernel) (by decide +kernel)
set_option maxRecDepth 20000 in
theorem gX9_tellsParty_X9_number : GoodIn wsX9_tellsParty (wsV RX9 202 RX9 yX9_number wsX9_number) := goodIn_app (goodIn_of _ (by decide +kernel)) ggX9_tellsParty_X9_number
set_option maxRecDepth 20000 in
theorem ggX9_tellsParty_X9_addParty : GoodIn wsX9_tellsParty wsX9_addParty := goodIn_r _ [38, 39, 40, 41, 42, 43, 44, 45, 46, 47, 48, 49, 50, 51, 52, 53, 54, 55, 56, 57, 58, 59, 60, 61, 62, 63, 64, 65, 66, 67, 68, 69, 70, 71, 72, 73, 74, 75, 76, 77, 78, 79, 80, 81, 82, 83, 84, 85, 86, 87, 88] (by decide +kernel) (by decide +kernel)
set_option maxRecDepth 20000 in
theorem gX9_tellsParty_X9_addParty : GoodIn wsX9_tellsParty (wsV RX9 137 RX9 yX9_addParty wsX9_addParty) := goodIn_app (goodIn_of _ (by decide +kernel)) ggX9_tellsParty_X9_addParty
theorem dX9_tellsParty_0 : decode cX9_tellsParty 0 = .ok (.aload_n 0, 1) := by decide +kernel
theorem dX9_tellsParty_1 : decode cX9_tellsParty 1 = .ok (.iconst 0, 1) := by decide +kernel
theorem dX9_tellsParty_2 : decode cX9_tellsParty 2 = .ok (.iconst 5, 1) := by decide +kernel
theorem dX9_tellsParty_3 : decode cX9_tellsParty 3 = .ok (.invokevirtual 206, 3) := by decide +kernel
theorem dX9_tellsParty_6 : decode cX9_tellsParty 6 = .ok (.ifCond .eq 40, 3) := by decide +kernel
theorem dX9_tellsParty_9 : decode cX9_tellsParty 9 = .ok (.aload_n 0, 1) := by decide +kernel
theorem dX9_tellsParty_10 : decode cX9_tellsParty 10 = .ok (.iconst 1, 1) := by decide +kernel
theorem dX9_tellsParty_11 : decode cX9_tellsParty 11 = .ok (.iconst 0, 1) := by decide +kernel
theorem dX9_tellsParty_12 : decode cX9_tellsParty 12 = .ok (.bipush 9, 2) := by decide +kernel
theorem dX9_tellsParty_14 : decode cX9_tellsParty 14 = .ok (.invokevirtual 202, 3) := by decide +kernel
theorem dX9_tellsParty_17 : decode cX9_tellsParty 17 = .ok (.ifCond .eq 29, 3) := by decide +kernel
theorem dX9_tellsParty_20 : decode cX9_tellsParty 20 = .ok (.aload_n 0, 1) := by decide +kernel
theorem dX9_tellsParty_21 : decode cX9_tellsParty 21 = .ok (.iconst 2, 1) := by decide +kernel
theorem dX9_tellsParty_22 : decode cX9_tellsParty 22 = .ok (.iconst 1, 1) := by decide +kernel
theorem dX9_tellsParty_23 : decode cX9_tellsParty 23 = .ok (.bipush 40, 2) := by decide +kernel
theorem dX9_tellsParty_25 : decode cX9_tellsParty 25 = .ok (.invokevirtual 202, 3) := by decide +kernel
theorem dX9_tellsParty_28 : decode cX9_tellsParty 28 = .ok (.ifCond .eq 18, 3) := by decide +kernel
theorem dX9_tellsParty_31 : decode cX9_tellsParty 31 = .ok (.aload_n 0, 1) := by decide +kernel
theorem dX9_tellsParty_32 : decode cX9_tellsParty 32 = .ok (.iconst 3, 1) := by decide +kernel
theorem dX9_tellsParty_33 : decode cX9_tellsParty 33 = .ok (.iconst 0, 1) := by decide +kernel
theorem dX9_tellsParty_34 : decode cX9_tellsParty 34 = .ok (.bipush 99, 2) := by decide +kernel
theorem dX9_tellsParty_36 : decode cX9_tellsParty 36 = .ok (.invokevirtual 202, 3) := by decide +kernel
theorem dX9_tellsParty_39 : decode cX9_tellsParty 39 = .ok (.ifCond .eq 7, 3) := by decide +kernel
theorem dX9_tellsParty_42 : decode cX9_tellsParty 42 = .ok (.iconst 1, 1) := by decide +kernel
theorem dX9_tellsParty_43 : decode cX9_tellsParty 43 = .ok (.goto 4, 3) := by decide +kernel
theorem dX9_tellsParty_46 : decode cX9_tellsParty 46 = .ok (.iconst 0, 1) := by decide +kernel
theorem dX9_tellsParty_47 : decode cX9_tellsParty 47 = .ok (.istore_n 1, 1) := by decide +kernel
theorem dX9_tellsParty_48 : decode cX9_tellsParty 48 = .ok (.iload_n 1, 1) := by decide +kernel
theorem dX9_tellsParty_49 : decode cX9_tellsParty 49 = .ok (.ifCond .eq 31, 3) := by decide +kernel
theorem dX9_tellsParty_52 : decode cX9_tellsParty 52 = .ok (.aload_n 0, 1) := by decide +kernel
theorem dX9_tellsParty_53 : decode cX9_tellsParty 53 = .ok (.aload_n 0, 1) := by decide +kernel
theorem dX9_tellsParty_54 : decode cX9_tellsParty 54 = .ok (.getfield 71, 3) := by decide +kernel
theorem dX9_tellsParty_57 : decode cX9_tellsParty 57 = .ok (.iconst 0, 1) := by decide +kernel
theorem dX9_tellsParty_58 : decode cX9_tellsParty 58 = .ok (.iaload, 1) := by decide +kernel
theorem dX9_tellsParty_59 : decode cX9_tellsParty 59 = .ok (.aload_n 0, 1) := by decide +kernel
theorem dX9_tellsParty_60 : decode cX9_tellsParty 60 = .ok (.getfield 71, 3) := by decide +kernel
theorem dX9_tellsParty_63 : decode cX9_tellsParty 63 = .ok (.iconst 1, 1) := by decide +kernel
theorem dX9_tellsParty_64 : decode cX9_tellsParty 64 = .ok (.iaload, 1) := by decide +kernel
theorem dX9_tellsParty_65 : decode cX9_tellsParty 65 = .ok (.aload_n 0, 1) := by decide +kernel
theorem dX9_tellsParty_66 : decode cX9_tellsParty 66 = .ok (.getfield 71, 3) := by decide +kernel
theorem dX9_tellsParty_69 : decode cX9_tellsParty 69 = .ok (.iconst 2, 1) := by decide +kernel
theorem dX9_tellsParty_70 : decode cX9_tellsParty 70 = .ok (.iaload, 1) := by decide +kernel
theorem dX9_tellsParty_71 : decode cX9_tellsParty 71 = .ok (.aload_n 0, 1) := by decide +kernel
theorem dX9_tellsParty_72 : decode cX9_tellsParty 72 = .ok (.getfield 71, 3) := by decide +kernel
theorem dX9_tellsParty_75 : decode cX9_tellsParty 75 = .ok (.iconst 3, 1) := by decide +kernel
theorem dX9_tellsParty_76 : decode cX9_tellsParty 76 = .ok (.iaload, 1) := by decide +kernel
theorem dX9_tellsParty_77 : decode cX9_tellsParty 77 = .ok (.invokevirtual 137, 3) := by decide +kernel
theorem dX9_tellsParty_80 : decode cX9_tellsParty 80 = .ok (.iload_n 1, 1) := by decide +kernel
theorem dX9_tellsParty_81 : decode cX9_tellsParty 81 = .ok (.ireturn, 1) := by decide +kernel
set_option maxRecDepth 20000 in
theorem ggX9_tellsTwo_X9_tells : GoodIn wsX9_tellsTwo wsX9_tells := goodIn_r _ [9, 10, 11, 12, 8, 13, 14, 15, 16, 17, 3, 2, 18, 19, 20, 21, 22, 23, 24, 25, 26, 27, 4, 28, 29, 30, 31, 32, 33, 34, 35, 42, 43, 44, 45, 46, 47, 48, 49, 50, 51, 52, 53, 54, 55, 56, 57, 58, 59, 60, 61, 62, 63, 64, 65, 66, 67, 68, 69, 70, 71, 72, 73, 74, 75, 76, 77, 78, 79, 80, 81, 82, 83] (by decide +kernel) (by decide +kernel)
set_option maxRecDepth 20000 in
theorem gX9_tellsTwo_X9_tells : GoodIn wsX9_tellsTwo (wsV RX9 206 RX9 yX9_tells wsX9_tells) := goodIn_app (goodIn_of _ (by decide +kernel)) ggX9_tellsTwo_X9_tells
set_option maxRecDepth 20000 in
theorem ggX9_tellsTwo_X9_wrong : GoodIn wsX9_tellsTwo wsX9_wrong := goodIn_r _ [34, 17, 35, 42, 43, 44, 45, 46, 47, 48, 49, 50, 51, 52, 53, 54, 55, 56, 57, 58, 59, 60, 61, 62, 63, 64, 65, 66, 67, 68, 69, 70, 71, 72, 73, 74, 75, 76, 77, 78, 79, 80, 81, 82, 83] (by decide +kernel) (by decide +kernel)
set_option maxRecDepth 20000 in
theorem gX9_tellsTwo_X9_wrong : GoodIn wsX9_tellsTwo (wsV RX9 195 RX9 yX9_wrong wsX9_wrong) := goodIn_app (goodIn_of _ (by decide +kernel)) ggX9_tellsTwo_X9_wrong
set_option maxRecDepth 20000 in
theorem ggX9_tellsTwo_X9_number : GoodIn wsX9_tellsTwo wsX9_number := goodIn_r _ [27, 2, 3, 4, 28, 29, 8, 30, 31, 32, 33, 34, 17, 35, 10, 11, 12, 13, 14, 15, 16, 18, 19, 20, 21, 22, 23, 42, 43, 44, 45, 46, 47, 48, 49, 50, 51, 52, 53, 54, 55, 56, 57, 58, 59, 60, 61, 62, 63, 64, 65, 66, 67, 68, 69, 70, 71, 72, 73, 74, 75, 76, 77, 78, 79, 80, 81, 82, 83] (by decide +kernel) (by decide +kernel)
set_option maxRecDepth 20000 in
theorem gX9_tellsTwo_X9_number : GoodIn wsX9_tellsTwo (wsV RX9 202 RX9 yX9_number wsX9_number) := goodIn_app (goodIn_of _ (by decide +kernel)) ggX9_tellsTwo_X9_number
set_option maxRecDepth 20000 in
theorem ggX9_tellsTwo_X9_binds : GoodIn wsX9_tellsTwo wsX9_binds := goodIn_r _ [39, 40, 41, 42, 43, 44, 45, 46, 47, 48, 49, 50, 51, 52, 53, 54, 55, 56, 57, 58, 59, 60, 61, 62, 63, 64, 65, 66, 67, 68, 69, 70, 71, 72, 73, 74, 75, 76, 77, 78, 79, 80, 81, 82, 83] (by decide +kernel) (by decide +kernel)
set_option maxRecDepth 20000 in
theorem gX9_tellsTwo_X9_binds : GoodIn wsX9_tellsTwo (wsV RX9 147 RX9 yX9_binds wsX9_binds) := goodIn_app (goodIn_of _ (by decide +kernel)) ggX9_tellsTwo_X9_binds
theorem dX9_tellsTwo_0 : decode cX9_tellsTwo 0 = .ok (.aload_n 0, 1) := by decide +kernel
theorem dX9_tellsTwo_1 : decode cX9_tellsTwo 1 = .ok (.iconst 0, 1) := by decide +kernel
theorem dX9_tellsTwo_2 : decode cX9_tellsTwo 2 = .ok (.aload_n 0, 1) := by decide +kernel
theorem dX9_tellsTwo_3 : decode cX9_tellsTwo 3 = .ok (.getfield 93, 3) := by decide +kernel
theorem dX9_tellsTwo_6 : decode cX9_tellsTwo 6 = .ok (.iconst 1, 1) := by decide +kernel
theorem dX9_tellsTwo_7 : decode cX9_tellsTwo 7 = .ok (.isub, 1) := by decide +kernel
theorem dX9_tellsTwo_8 : decode cX9_tellsTwo 8 = .ok (.invokevirtual 206, 3) := by decide +kernel
theorem dX9_tellsTwo_11 : decode cX9_tellsTwo 11 = .ok (.ifCond .ne 5, 3) := by decide +kernel
theorem dX9_tellsTwo_14 : decode cX9_tellsTwo 14 = .ok (.iconst 0, 1) := by decide +kernel
theorem dX9_tellsTwo_15 : decode cX9_tellsTwo 15 = .ok (.ireturn, 1) := by decide +kernel
theorem dX9_tellsTwo_16 : decode cX9_tellsTwo 16 = .ok (.aload_n 0, 1) := by decide +kernel
theorem dX9_tellsTwo_17 : decode cX9_tellsTwo 17 = .ok (.getfield 173, 3) := by decide +kernel
theorem dX9_tellsTwo_20 : decode cX9_tellsTwo 20 = .ok (.iconst 2, 1) := by decide +kernel
theorem dX9_tellsTwo_21 : decode cX9_tellsTwo 21 = .ok (.if_icmp .ne 21, 3) := by decide +kernel
theorem dX9_tellsTwo_24 : decode cX9_tellsTwo 24 = .ok (.aload_n 0, 1) := by decide +kernel
theorem dX9_tellsTwo_25 : decode cX9_tellsTwo 25 = .ok (.getfield 170, 3) := by decide +kernel
theorem dX9_tellsTwo_28 : decode cX9_tellsTwo 28 = .ok (.aload_n 0, 1) := by decide +kernel
theorem dX9_tellsTwo_29 : decode cX9_tellsTwo 29 = .ok (.getfield 71, 3) := by decide +kernel
theorem dX9_tellsTwo_32 : decode cX9_tellsTwo 32 = .ok (.iconst 0, 1) := by decide +kernel
theorem dX9_tellsTwo_33 : decode cX9_tellsTwo 33 = .ok (.iaload, 1) := by decide +kernel
theorem dX9_tellsTwo_34 : decode cX9_tellsTwo 34 = .ok (.if_icmp .ne 8, 3) := by decide +kernel
theorem dX9_tellsTwo_37 : decode cX9_tellsTwo 37 = .ok (.aload_n 0, 1) := by decide +kernel
theorem dX9_tellsTwo_38 : decode cX9_tellsTwo 38 = .ok (.invokevirtual 195, 3) := by decide +kernel
theorem dX9_tellsTwo_41 : decode cX9_tellsTwo 41 = .ok (.ireturn, 1) := by decide +kernel
theorem dX9_tellsTwo_42 : decode cX9_tellsTwo 42 = .ok (.aload_n 0, 1) := by decide +kernel
theorem dX9_tellsTwo_43 : decode cX9_tellsTwo 43 = .ok (.iconst 1, 1) := by decide +kernel
theorem dX9_tellsTwo_44 : decode cX9_tellsTwo 44 = .ok (.iconst 0, 1) := by decide +kernel
theorem dX9_tellsTwo_45 : decode cX9_tellsTwo 45 = .ok (.aload_n 0, 1) := by decide +kernel
theorem dX9_tellsTwo_46 : decode cX9_tellsTwo 46 = .ok (.getfield 93, 3) := by decide +kernel
theorem dX9_tellsTwo_49 : decode cX9_tellsTwo 49 = .ok (.iconst 1, 1) := by decide +kernel
theorem dX9_tellsTwo_50 : decode cX9_tellsTwo 50 = .ok (.isub, 1) := by decide +kernel
theorem dX9_tellsTwo_51 : decode cX9_tellsTwo 51 = .ok (.invokevirtual 202, 3) := by decide +kernel
theorem dX9_tellsTwo_54 : decode cX9_tellsTwo 54 = .ok (.istore_n 2, 1) := by decide +kernel
theorem dX9_tellsTwo_55 : decode cX9_tellsTwo 55 = .ok (.iload_n 2, 1) := by decide +kernel
theorem dX9_tellsTwo_56 : decode cX9_tellsTwo 56 = .ok (.ifCond .eq 20, 3) := by decide +kernel
theorem dX9_tellsTwo_59 : decode cX9_tellsTwo 59 = .ok (.aload_n 0, 1) := by decide +kernel
theorem dX9_tellsTwo_60 : decode cX9_tellsTwo 60 = .ok (.aload_n 0, 1) := by decide +kernel
theorem dX9_tellsTwo_61 : decode cX9_tellsTwo 61 = .ok (.getfield 71, 3) := by decide +kernel
theorem dX9_tellsTwo_64 : decode cX9_tellsTwo 64 = .ok (.iconst 0, 1) := by decide +kernel
theorem dX9_tellsTwo_65 : decode cX9_tellsTwo 65 = .ok (.iaload, 1) := by decide +kernel
theorem dX9_tellsTwo_66 : decode cX9_tellsTwo 66 = .ok (.aload_n 0, 1) := by decide +kernel
theorem dX9_tellsTwo_67 : decode cX9_tellsTwo 67 = .ok (.getfield 71, 3) := by decide +kernel
theorem dX9_tellsTwo_70 : decode cX9_tellsTwo 70 = .ok (.iconst 1, 1) := by decide +kernel
theorem dX9_tellsTwo_71 : decode cX9_tellsTwo 71 = .ok (.iaload, 1) := by decide +kernel
theorem dX9_tellsTwo_72 : decode cX9_tellsTwo 72 = .ok (.iload_n 1, 1) := by decide +kernel
theorem dX9_tellsTwo_73 : decode cX9_tellsTwo 73 = .ok (.invokevirtual 147, 3) := by decide +kernel
theorem dX9_tellsTwo_76 : decode cX9_tellsTwo 76 = .ok (.iload_n 2, 1) := by decide +kernel
theorem dX9_tellsTwo_77 : decode cX9_tellsTwo 77 = .ok (.ireturn, 1) := by decide +kernel
set_option maxRecDepth 20000 in
theorem ggX9_tellsOne_X9_tells : GoodIn wsX9_tellsOne wsX9_tells := goodIn_r _ [6, 7, 8, 9, 5, 10, 11, 12, 13, 14, 15, 16, 17, 18, 19, 20, 21, 22, 23, 24, 25, 26, 1, 27, 28, 29, 30, 31, 32, 33, 34, 44, 45, 46, 47, 48, 49, 50, 51, 52, 53, 54, 55, 56, 57, 58, 59, 60, 61, 62, 63, 64, 65, 66, 67, 68, 69, 70, 71, 72, 73, 74, 75, 76, 77, 78, 79, 80, 81, 82, 83, 84, 85] (by decide +kernel) (by decide +kernel)
set_option maxRecDepth 20000 in
theorem gX9_tellsOne_X9_tells : GoodIn wsX9_tellsOne (wsV RX9 206 RX9 yX9_tells wsX9_tells) := goodIn_app (goodIn_of _ (by decide +kernel)) ggX9_tellsOne_X9_tells
set_option maxRecDepth 20000 in
theorem ggX9_tellsOne_X9_set_ : GoodIn wsX9_tellsOne wsX9_set_ := goodIn_r _ [38, 39, 40, 41, 42, 43, 44, 45, 46, 47, 48, 49, 50, 51, 52, 53, 54, 55, 56, 57, 58, 59, 60, 61, 62, 63, 64, 65, 66, 67, 68, 69, 70, 71, 72, 73, 74, 75, 76, 77, 78, 79, 80, 81, 82, 83, 84, 85] (by decide +kernel) (by decide +kernel)
set_option maxRecDepth 20000 in
theorem gX9_tellsOne_X9_set_ : GoodIn wsX9_tellsOne (wsV RX9 156 RX9 yX9_set_ wsX9_set_) := goodIn_app (goodIn_of _ (by decide +kernel)) ggX9_tellsOne_X9_set_
theorem dX9_tellsOne_0 : decode cX9_tellsOne 0 = .ok (.aload_n 0, 1) := by decide +kernel
theorem dX9_tellsOne_1 : decode cX9_tellsOne 1 = .ok (.iload_n 2, 1) := by decide +kernel
theorem dX9_tellsOne_2 : decode cX9_tellsOne 2 = .ok (.iload_n 3, 1) := by decide +kernel
theorem dX9_tellsOne_3 : decode cX9_tellsOne 3 = .ok (.invokevirtual 206, 3) := by decide +kernel
theorem dX9_tellsOne_6 : decode cX9_tellsOne 6 = .ok (.istore 4, 2) := by decide +kernel
theorem dX9_tellsOne_8 : decode cX9_tellsOne 8 = .ok (.iload 4, 2) := by decide +kernel
theorem dX9_tellsOne_10 : decode cX9_tellsOne 10 = .ok (.ifCond .eq 15, 3) := by decide +kernel
theorem dX9_tellsOne_13 : decode cX9_tellsOne 13 = .ok (.aload_n 0, 1) := by decide +kernel
theorem dX9_tellsOne_14 : decode cX9_tellsOne 14 = .ok (.iload_n 1, 1) := by decide +kernel
theorem dX9_tellsOne_15 : decode cX9_tellsOne 15 = .ok (.aload_n 0, 1) := by decide +kernel
theorem dX9_tellsOne_16 : decode cX9_tellsOne 16 = .ok (.getfield 71, 3) := by decide +kernel
theorem dX9_tellsOne_19 : decode cX9_tellsOne 19 = .ok (.iconst 0, 1) := by decide +kernel
theorem dX9_tellsOne_20 : decode cX9_tellsOne 20 = .ok (.iaload, 1) := by decide +kernel
theorem dX9_tellsOne_21 : decode cX9_tellsOne 21 = .ok (.invokevirtual 156, 3) := by decide +kernel
theorem dX9_tellsOne_24 : decode cX9_tellsOne 24 = .ok (.pop, 1) := by decide +kernel
theorem dX9_tellsOne_25 : decode cX9_tellsOne 25 = .ok (.iload 4, 2) := by decide +kernel
theorem dX9_tellsOne_27 : decode cX9_tellsOne 27 = .ok (.ireturn, 1) := by decide +kernel
set_option maxRecDepth 20000 in
theorem ggX9_statement_X9_isWord : GoodIn wsX9_statement wsX9_isWord := goodIn_r _ [6, 7, 8, 9, 10, 11, 12, 13, 14, 15, 16, 17, 18, 19, 20, 21, 22, 23, 24, 25, 26, 27, 28, 29, 30, 31, 32, 33, 34, 35, 36, 37, 38, 39, 40, 41, 42, 43, 44, 45, 46, 47, 48, 49, 50, 51, 52, 53, 54, 55, 56, 57, 58, 59, 125, 126, 127, 128, 129, 130, 131, 132, 133, 134, 135, 136, 137, 138, 139, 140, 141, 142, 143, 144, 145, 146, 147, 148, 149, 150, 151, 152, 153, 154, 155, 156, 157, 158, 159, 160, 161, 162, 163, 164, 165, 166] (by decide +kernel) (by decide +kernel)
set_option maxRecDepth 20000 in
theorem gX9_statement_X9_isWord : GoodIn wsX9_statement (wsV RX9 211 RX9 yX9_isWord wsX9_isWord) := goodIn_app (goodIn_of _ (by decide +kernel)) ggX9_statement_X9_isWord
set_option maxRecDepth 20000 in
theorem ggX9_statement_X9_tellsParty : GoodIn wsX9_statement wsX9_tellsParty := goodIn_r _ [63, 64, 65, 66, 67, 5, 68, 69, 70, 71, 72, 8, 73, 10, 9, 74, 7, 75, 76, 77, 78, 79, 80, 81, 82, 83, 84, 85, 86, 87, 88, 89, 90, 91, 92, 93, 94, 95, 96, 97, 1, 98, 99, 100, 101, 102, 103, 125, 126, 127, 128, 129, 130, 131, 132, 133, 134, 135, 136, 137, 138, 139, 140, 141, 142, 143, 144, 145, 146, 147, 148, 149, 150, 151, 152, 153, 154, 155, 156, 157, 158, 159, 160, 161, 162, 163, 164, 165, 166] (by decide +kernel) (by decide +kernel)
set_option maxRecDepth 20000 in
theorem gX9_statement_X9_tellsParty : GoodIn wsX9_statement (wsV RX9 215 RX9 yX9_tellsParty wsX9_tellsParty) := goodIn_app (goodIn_of _ (by decide +kernel)) ggX9_statement_X9_tellsParty
set_option maxRecDepth 20000 in
theorem ggX9_statement_X9_tellsTwo : GoodIn wsX9_statement wsX9_tellsTwo := goodIn_r _ [107, 1, 7, 74, 64, 65, 66, 67, 5, 68, 69, 70, 71, 72, 8, 73, 10, 9, 75, 76, 77, 78, 79, 80, 81, 82, 83, 84, 85, 86, 87, 88, 89, 90, 91, 92, 108, 109, 110, 111, 101, 102, 125, 126, 127, 128, 129, 130, 131, 132, 133, 134, 135, 136, 137, 138, 139, 140, 141, 142, 143, 144, 145, 146, 147, 148, 149, 150, 151, 152, 153, 154, 155, 156, 157, 158, 159, 160, 161, 162, 163, 164, 165, 166] (by decide +kernel) (by decide +kernel)
set_option maxRecDepth 20000 in
theorem gX9_statement_X9_tellsTwo : GoodIn wsX9_statement (wsV RX9 220 RX9 yX9_tellsTwo wsX9_tellsTwo) := goodIn_app (goodIn_of _ (by decide +kernel)) ggX9_statement_X9_tellsTwo
set_option maxRecDepth 20000 in
theorem ggX9_statement_X9_tellsOne : GoodIn wsX9_statement wsX9_tellsOne := goodIn_r _ [115, 64, 65, 66, 67, 5, 68, 69, 70, 71, 72, 8, 73, 10, 9, 74, 7, 75, 76, 77, 78, 79, 80, 81, 82, 83, 84, 85, 86, 87, 88, 89, 90, 91, 92, 116, 117, 118, 119, 120, 121, 122, 123, 124, 125, 126, 127, 128, 129, 130, 131, 132, 133, 134, 135, 136, 137, 138, 139, 140, 141, 142, 143, 144, 145, 146, 147, 148, 149, 150, 151, 152, 153, 154, 155, 156, 157, 158, 159, 160, 161, 162, 163, 164, 165, 166] (by decide +kernel) (by decide +kernel)
set_option maxRecDepth 20000 in
theorem gX9_statement_X9_tellsOne : GoodIn wsX9_statement (wsV RX9 228 RX9 yX9_tellsOne wsX9_tellsOne) := goodIn_app (goodIn_of _ (by decide +kernel)) ggX9_statement_X9_tellsOne
set_option maxRecDepth 20000 in
theorem ggX9_statement_X9_wrong : GoodIn wsX9_statement wsX9_wrong := goodIn_r _ [91, 9, 92, 125, 126, 127, 128, 129, 130, 131, 132, 133, 134, 135, 136, 137, 138, 139, 140, 141, 142, 143, 144, 145, 146, 147, 148, 149, 150, 151, 152, 153, 154, 155, 156, 157, 158, 159, 160, 161, 162, 163, 164, 165, 166] (by decide +kernel) (by decide +kernel)
set_option maxRecDepth 20000 in
theorem gX9_statement_X9_wrong : GoodIn wsX9_statement (wsV RX9 195 RX9 yX9_wrong wsX9_wrong) := goodIn_app (goodIn_of _ (by decide +kernel)) ggX9_statement_X9_wrong
theorem dX9_statement_0 : decode cX9_statement 0 = .ok (.aload_n 0, 1) := by decide +kernel
theorem dX9_statement_1 : decode cX9_statement 1 = .ok (.ldc 209, 2) := by decide +kernel
theorem dX9_statement_3 : decode cX9_statement 3 = .ok (.invokevirtual 211, 3) := by decide +kernel
theorem dX9_statement_6 : decode cX9_statement 6 = .ok (.ifCond .eq 17, 3) := by decide +kernel
theorem dX9_statement_9 : decode cX9_statement 9 = .ok (.aload_n 0, 1) := by decide +kernel
theorem dX9_statement_10 : decode cX9_statement 10 = .ok (.getfield 93, 3) := by decide +kernel
theorem dX9_statement_13 : decode cX9_statement 13 = .ok (.bipush 8, 2) := by decide +kernel
theorem dX9_statement_15 : decode cX9_statement 15 = .ok (.if_icmp .ge 8, 3) := by decide +kernel
theorem dX9_statement_18 : decode cX9_statement 18 = .ok (.aload_n 0, 1) := by decide +kernel
theorem dX9_statement_19 : decode cX9_statement 19 = .ok (.invokevirtual 215, 3) := by decide +kernel
theorem dX9_statement_22 : decode cX9_statement 22 = .ok (.ireturn, 1) := by decide +kernel
theorem dX9_statement_23 : decode cX9_statement 23 = .ok (.aload_n 0, 1) := by decide +kernel
theorem dX9_statement_24 : decode cX9_statement 24 = .ok (.ldc 218, 2) := by decide +kernel
theorem dX9_statement_26 : decode cX9_statement 26 = .ok (.invokevirtual 211, 3) := by decide +kernel
theorem dX9_statement_29 : decode cX9_statement 29 = .ok (.ifCond .eq 9, 3) := by decide +kernel
theorem dX9_statement_32 : decode cX9_statement 32 = .ok (.aload_n 0, 1) := by decide +kernel
theorem dX9_statement_33 : decode cX9_statement 33 = .ok (.iconst 1, 1) := by decide +kernel
theorem dX9_statement_34 : decode cX9_statement 34 = .ok (.invokevirtual 220, 3) := by decide +kernel
theorem dX9_statement_37 : decode cX9_statement 37 = .ok (.ireturn, 1) := by decide +kernel
theorem dX9_statement_38 : decode cX9_statement 38 = .ok (.aload_n 0, 1) := by decide +kernel
theorem dX9_statement_39 : decode cX9_statement 39 = .ok (.ldc 223, 2) := by decide +kernel
theorem dX9_statement_41 : decode cX9_statement 41 = .ok (.invokevirtual 211, 3) := by decide +kernel
theorem dX9_statement_44 : decode cX9_statement 44 = .ok (.ifCond .eq 9, 3) := by decide +kernel
theorem dX9_statement_47 : decode cX9_statement 47 = .ok (.aload_n 0, 1) := by decide +kernel
theorem dX9_statement_48 : decode cX9_statement 48 = .ok (.iconst 2, 1) := by decide +kernel
theorem dX9_statement_49 : decode cX9_statement 49 = .ok (.invokevirtual 220, 3) := by decide +kernel
theorem dX9_statement_52 : decode cX9_statement 52 = .ok (.ireturn, 1) := by decide +kernel
theorem dX9_statement_53 : decode cX9_statement 53 = .ok (.aload_n 0, 1) := by decide +kernel
theorem dX9_statement_54 : decode cX9_statement 54 = .ok (.ldc 225, 2) := by decide +kernel
theorem dX9_statement_56 : decode cX9_statement 56 = .ok (.invokevirtual 211, 3) := by decide +kernel
theorem dX9_statement_59 : decode cX9_statement 59 = .ok (.ifCond .eq 9, 3) := by decide +kernel
theorem dX9_statement_62 : decode cX9_statement 62 = .ok (.aload_n 0, 1) := by decide +kernel
theorem dX9_statement_63 : decode cX9_statement 63 = .ok (.iconst 0, 1) := by decide +kernel
theorem dX9_statement_64 : decode cX9_statement 64 = .ok (.invokevirtual 220, 3) := by decide +kernel
theorem dX9_statement_67 : decode cX9_statement 67 = .ok (.ireturn, 1) := by decide +kernel
theorem dX9_statement_68 : decode cX9_statement 68 = .ok (.aload_n 0, 1) := by decide +kernel
theorem dX9_statement_69 : decode cX9_statement 69 = .ok (.ldc 227, 2) := by decide +kernel
theorem dX9_statement_71 : decode cX9_statement 71 = .ok (.invokevirtual 211, 3) := by decide +kernel
theorem dX9_statement_74 : decode cX9_statement 74 = .ok (.ifCond .eq 12, 3) := by decide +kernel
theorem dX9_statement_77 : decode cX9_statement 77 = .ok (.aload_n 0, 1) := by decide +kernel
theorem dX9_statement_78 : decode cX9_statement 78 = .ok (.iconst 0, 1) := by decide +kernel
theorem dX9_statement_79 : decode cX9_statement 79 = .ok (.iconst 1, 1) := by decide +kernel
theorem dX9_statement_80 : decode cX9_statement 80 = .ok (.bipush 99, 2) := by decide +kernel
theorem dX9_statement_82 : decode cX9_statement 82 = .ok (.invokevirtual 228, 3) := by decide +kernel
theorem dX9_statement_85 : decode cX9_statement 85 = .ok (.ireturn, 1) := by decide +kernel
theorem dX9_statement_86 : decode cX9_statement 86 = .ok (.aload_n 0, 1) := by decide +kernel
theorem dX9_statement_87 : decode cX9_statement 87 = .ok (.ldc 231, 2) := by decide +kernel
theorem dX9_statement_89 : decode cX9_statement 89 = .ok (.invokevirtual 211, 3) := by decide +kernel
theorem dX9_statement_92 : decode cX9_statement 92 = .ok (.ifCond .eq 11, 3) := by decide +kernel
theorem dX9_statement_95 : decode cX9_statement 95 = .ok (.aload_n 0, 1) := by decide +kernel
theorem dX9_statement_96 : decode cX9_statement 96 = .ok (.iconst 1, 1) := by decide +kernel
theorem dX9_statement_97 : decode cX9_statement 97 = .ok (.iconst 0, 1) := by decide +kernel
theorem dX9_statement_98 : decode cX9_statement 98 = .ok (.iconst 3, 1) := by decide +kernel
theorem dX9_statement_99 : decode cX9_statement 99 = .ok (.invokevirtual 228, 3) := by decide +kernel
theorem dX9_statement_102 : decode cX9_statement 102 = .ok (.ireturn, 1) := by decide +kernel
theorem dX9_statement_103 : decode cX9_statement 103 = .ok (.aload_n 0, 1) := by decide +kernel
theorem dX9_statement_104 : decode cX9_statement 104 = .ok (.ldc 232, 2) := by decide +kernel
theorem dX9_statement_106 : decode cX9_statement 106 = .ok (.invokevirtual 211, 3) := by decide +kernel
theorem dX9_statement_109 : decode cX9_statement 109 = .ok (.ifCond .eq 11, 3) := by decide +kernel
theorem dX9_statement_112 : decode cX9_statement 112 = .ok (.aload_n 0, 1) := by decide +kernel
theorem dX9_statement_113 : decode cX9_statement 113 = .ok (.iconst 2, 1) := by decide +kernel
theorem dX9_statement_114 : decode cX9_statement 114 = .ok (.iconst 0, 1) := by decide +kernel
theorem dX9_statement_115 : decode cX9_statement 115 = .ok (.iconst 3, 1) := by decide +kernel
theorem dX9_statement_116 : decode cX9_statement 116 = .ok (.invokevirtual 228, 3) := by decide +kernel
theorem dX9_statement_119 : decode cX9_statement 119 = .ok (.ireturn, 1) := by decide +kernel
theorem dX9_statement_120 : decode cX9_statement 120 = .ok (.aload_n 0, 1) := by decide +kernel
theorem dX9_statement_121 : decode cX9_statement 121 = .ok (.ldc 233, 2) := by decide +kernel
theorem dX9_statement_123 : decode cX9_statement 123 = .ok (.invokevirtual 211, 3) := by decide +kernel
theorem dX9_statement_126 : decode cX9_statement 126 = .ok (.ifCond .eq 12, 3) := by decide +kernel
theorem dX9_statement_129 : decode cX9_statement 129 = .ok (.aload_n 0, 1) := by decide +kernel
theorem dX9_statement_130 : decode cX9_statement 130 = .ok (.iconst 3, 1) := by decide +kernel
theorem dX9_statement_131 : decode cX9_statement 131 = .ok (.iconst 0, 1) := by decide +kernel
theorem dX9_statement_132 : decode cX9_statement 132 = .ok (.bipush 9, 2) := by decide +kernel
theorem dX9_statement_134 : decode cX9_statement 134 = .ok (.invokevirtual 228, 3) := by decide +kernel
theorem dX9_statement_137 : decode cX9_statement 137 = .ok (.ireturn, 1) := by decide +kernel
theorem dX9_statement_138 : decode cX9_statement 138 = .ok (.aload_n 0, 1) := by decide +kernel
theorem dX9_statement_139 : decode cX9_statement 139 = .ok (.ldc 234, 2) := by decide +kernel
theorem dX9_statement_141 : decode cX9_statement 141 = .ok (.invokevirtual 211, 3) := by decide +kernel
theorem dX9_statement_144 : decode cX9_statement 144 = .ok (.ifCond .eq 12, 3) := by decide +kernel
theorem dX9_statement_147 : decode cX9_statement 147 = .ok (.aload_n 0, 1) := by decide +kernel
theorem dX9_statement_148 : decode cX9_statement 148 = .ok (.iconst 4, 1) := by decide +kernel
theorem dX9_statement_149 : decode cX9_statement 149 = .ok (.iconst 0, 1) := by decide +kernel
theorem dX9_statement_150 : decode cX9_statement 150 = .ok (.bipush 9, 2) := by decide +kernel
theorem dX9_statement_152 : decode cX9_statement 152 = .ok (.invokevirtual 228, 3) := by decide +kernel
theorem dX9_statement_155 : decode cX9_statement 155 = .ok (.ireturn, 1) := by decide +kernel
theorem dX9_statement_156 : decode cX9_statement 156 = .ok (.aload_n 0, 1) := by decide +kernel
theorem dX9_statement_157 : decode cX9_statement 157 = .ok (.invokevirtual 195, 3) := by decide +kernel
theorem dX9_statement_160 : decode cX9_statement 160 = .ok (.ireturn, 1) := by decide +kernel
set_option maxRecDepth 20000 in
theorem ggX9_readAll_X9_look : GoodIn wsX9_readAll wsX9_look := goodIn_r _ [8, 2, 9, 10, 11, 12, 3, 13, 14, 7, 15, 16, 17, 18, 130, 131, 132, 133, 134, 135, 136, 137, 138, 139, 140, 141, 142, 143, 144, 145, 146, 147, 148, 149, 150, 151, 152, 153, 154, 155, 156, 157, 158, 159, 160, 161, 162, 163, 164, 165, 166, 167, 168, 169, 170, 171] (by decide +kernel) (by decide +kernel)
set_option maxRecDepth 20000 in
theorem gX9_readAll_X9_look : GoodIn wsX9_readAll (wsV RX9 199 RX9 yX9_look wsX9_look) := goodIn_app (goodIn_of _ (by decide +kernel)) ggX9_readAll_X9_look
set_option maxRecDepth 20000 in
theorem ggX9_readAll_X9_statement : GoodIn wsX9_readAll wsX9_statement := goodIn_r _ [22, 23, 24, 25, 26, 7, 27, 3, 2, 11, 10, 28, 29, 30, 31, 32, 33, 34, 35, 36, 37, 38, 39, 40, 41, 42, 43, 44, 45, 46, 47, 48, 49, 50, 51, 52, 53, 54, 55, 56, 57, 58, 59, 60, 61, 62, 63, 64, 65, 66, 67, 68, 69, 70, 71, 72, 73, 74, 75, 76, 77, 78, 79, 80, 81, 82, 83, 84, 85, 4, 5, 6, 8, 9, 12, 13, 14, 15, 16, 17, 18, 86, 87, 88, 89, 90, 91, 92, 93, 94, 95, 96, 97, 98, 99, 100, 101, 102, 103, 104, 105, 106, 107, 108, 109, 110, 111, 112, 113, 114, 115, 116, 117, 118, 119, 120, 121, 122, 123, 124, 125, 126, 127, 128, 129, 130, 131, 132, 133, 134, 135, 136, 137, 138, 139, 140, 141, 142, 143, 144, 145, 146, 147, 148, 149, 150, 151, 152, 153, 154, 155, 156, 157, 158, 159, 160, 161, 162, 163, 164, 165, 166, 167, 168, 169, 170, 171] (by decide +kernel) (by decide +kernel)
set_option maxRecDepth 20000 in
theorem gX9_readAll_X9_statement : GoodIn wsX9_readAll (wsV RX9 238 RX9 yX9_statement wsX9_statement) := goodIn_app (goodIn_of _ (by decide +kernel)) ggX9_readAll_X9_statement
set_option maxRecDepth 20000 in
theorem ggX9_readAll_X9_wrong : GoodIn wsX9_readAll wsX9_wrong := goodIn_r _ [96, 11, 97, 130, 131, 132, 133, 134, 135, 136, 137, 138, 139, 140, 141, 142, 143, 144, 145, 146, 147, 148, 149, 150, 151, 152, 153, 154, 155, 156, 157, 158, 159, 160, 161, 162, 163, 164, 165, 166, 167, 168, 169, 170, 171] (by decide +kernel) (by decide +kernel)
set_option maxRecDepth 20000 in
theorem gX9_readAll_X9_wrong : GoodIn wsX9_readAll (wsV RX9 195 RX9 yX9_wrong wsX9_wrong) := goodIn_app (goodIn_of _ (by decide +kernel)) ggX9_readAll_X9_wrong
theorem dX9_readAll_0 : decode cX9_readAll 0 = .ok (.aload_n 0, 1) := by decide +kernel
theorem dX9_readAll_1 : decode cX9_readAll 1 = .ok (.iconst 1, 1) := by decide +kernel
theorem dX9_readAll_2 : decode cX9_readAll 2 = .ok (.putfield 235, 3) := by decide +kernel
theorem dX9_readAll_5 : decode cX9_readAll 5 = .ok (.aload_n 0, 1) := by decide +kernel
theorem dX9_readAll_6 : decode cX9_readAll 6 = .ok (.iconst 0, 1) := by decide +kernel
theorem dX9_readAll_7 : decode cX9_readAll 7 = .ok (.putfield 164, 3) := by decide +kernel
theorem dX9_readAll_10 : decode cX9_readAll 10 = .ok (.aload_n 0, 1) := by decide +kernel
theorem dX9_readAll_11 : decode cX9_readAll 11 = .ok (.invokevirtual 199, 3) := by decide +kernel
theorem dX9_readAll_14 : decode cX9_readAll 14 = .ok (.aload_n 0, 1) := by decide +kernel
theorem dX9_readAll_15 : decode cX9_readAll 15 = .ok (.invokevirtual 238, 3) := by decide +kernel
theorem dX9_readAll_18 : decode cX9_readAll 18 = .ok (.ifCond .ne 5, 3) := by decide +kernel
theorem dX9_readAll_21 : decode cX9_readAll 21 = .ok (.iconst 0, 1) := by decide +kernel
theorem dX9_readAll_22 : decode cX9_readAll 22 = .ok (.ireturn, 1) := by decide +kernel
theorem dX9_readAll_23 : decode cX9_readAll 23 = .ok (.aload_n 0, 1) := by decide +kernel
theorem dX9_readAll_24 : decode cX9_readAll 24 = .ok (.getfield 173, 3) := by decide +kernel
theorem dX9_readAll_27 : decode cX9_readAll 27 = .ok (.ifCond .eq 42, 3) := by decide +kernel
theorem dX9_readAll_30 : decode cX9_readAll 30 = .ok (.aload_n 0, 1) := by decide +kernel
theorem dX9_readAll_31 : decode cX9_readAll 31 = .ok (.getfield 173, 3) := by decide +kernel
theorem dX9_readAll_34 : decode cX9_readAll 34 = .ok (.iconst 3, 1) := by decide +kernel
theorem dX9_readAll_35 : decode cX9_readAll 35 = .ok (.if_icmp .eq 8, 3) := by decide +kernel
theorem dX9_readAll_38 : decode cX9_readAll 38 = .ok (.aload_n 0, 1) := by decide +kernel
theorem dX9_readAll_39 : decode cX9_readAll 39 = .ok (.invokevirtual 195, 3) := by decide +kernel
theorem dX9_readAll_42 : decode cX9_readAll 42 = .ok (.ireturn, 1) := by decide +kernel
theorem dX9_readAll_43 : decode cX9_readAll 43 = .ok (.aload_n 0, 1) := by decide +kernel
theorem dX9_readAll_44 : decode cX9_readAll 44 = .ok (.invokevirtual 199, 3) := by decide +kernel
theorem dX9_readAll_47 : decode cX9_readAll 47 = .ok (.aload_n 0, 1) := by decide +kernel
theorem dX9_readAll_48 : decode cX9_readAll 48 = .ok (.invokevirtual 238, 3) := by decide +kernel
theorem dX9_readAll_51 : decode cX9_readAll 51 = .ok (.ifCond .ne 5, 3) := by decide +kernel
theorem dX9_readAll_54 : decode cX9_readAll 54 = .ok (.iconst 0, 1) := by decide +kernel
theorem dX9_readAll_55 : decode cX9_readAll 55 = .ok (.ireturn, 1) := by decide +kernel
theorem dX9_readAll_56 : decode cX9_readAll 56 = .ok (.aload_n 0, 1) := by decide +kernel
theorem dX9_readAll_57 : decode cX9_readAll 57 = .ok (.dup, 1) := by decide +kernel
theorem dX9_readAll_58 : decode cX9_readAll 58 = .ok (.getfield 235, 3) := by decide +kernel
theorem dX9_readAll_61 : decode cX9_readAll 61 = .ok (.iconst 1, 1) := by decide +kernel
theorem dX9_readAll_62 : decode cX9_readAll 62 = .ok (.iadd, 1) := by decide +kernel
theorem dX9_readAll_63 : decode cX9_readAll 63 = .ok (.putfield 235, 3) := by decide +kernel
theorem dX9_readAll_66 : decode cX9_readAll 66 = .ok (.goto (-43), 3) := by decide +kernel
theorem dX9_readAll_69 : decode cX9_readAll 69 = .ok (.iconst 1, 1) := by decide +kernel
theorem dX9_readAll_70 : decode cX9_readAll 70 = .ok (.ireturn, 1) := by decide +kernel
set_option maxRecDepth 20000 in
theorem ggX9_bank_X9_init : GoodIn wsX9_bank wsX9_init := goodIn_r _ [10, 11, 12, 13, 14, 15, 16, 17, 18, 19, 20, 21, 22, 23, 24, 25, 26, 27, 28, 29, 30, 31, 32, 33, 34, 35, 36, 37, 38, 39, 40, 41, 42, 43, 44, 176, 177, 178, 179, 180, 181, 182, 183, 184, 185, 186, 187, 188, 189, 190, 191, 192, 193, 194, 195, 196, 197, 198, 199, 200, 201, 202, 203, 204, 205, 206, 207, 208, 209, 210, 211, 212, 213, 214, 215, 216, 217] (by decide +kernel) (by decide +kernel)
set_option maxRecDepth 20000 in
theorem gX9_bank_X9_init : GoodIn wsX9_bank (wsX9_init) := ggX9_bank_X9_init
set_option maxRecDepth 20000 in
theorem ggX9_bank_X9_takeFrom : GoodIn wsX9_bank wsX9_takeFrom := goodIn_r _ [48, 25, 49, 26, 27, 28, 50, 51, 52, 53, 54, 29, 30, 31, 32, 33, 34, 35, 55, 56, 4, 57, 176, 177, 178, 179, 180, 181, 182, 183, 184, 185, 186, 187, 188, 189, 190, 191, 192, 193, 194, 195, 196, 197, 198, 199, 200, 201, 202, 203, 204, 205, 206, 207, 208, 209, 210, 211, 212, 213, 214, 215, 216, 217] (by decide +kernel) (by decide +kernel)
set_option maxRecDepth 20000 in
theorem gX9_bank_X9_takeFrom : GoodIn wsX9_bank (wsV RX9 246 RX9 yX9_takeFrom wsX9_takeFrom) := goodIn_app (goodIn_of _ (by decide +kernel)) ggX9_bank_X9_takeFrom
set_option maxRecDepth 20000 in
theorem ggX9_bank_X9_readAll : GoodIn wsX9_bank wsX9_readAll := goodIn_r _ [61, 7, 62, 63, 64, 65, 66, 4, 67, 5, 23, 68, 69, 70, 71, 72, 73, 74, 75, 76, 77, 78, 79, 53, 80, 81, 82, 83, 84, 85, 86, 87, 88, 89, 90, 91, 92, 93, 94, 95, 96, 97, 98, 99, 100, 101, 102, 103, 104, 105, 106, 107, 108, 109, 110, 111, 112, 113, 114, 115, 116, 117, 118, 119, 120, 121, 122, 123, 124, 125, 126, 127, 128, 129, 130, 131, 132, 133, 134, 135, 136, 36, 137, 138, 139, 140, 141, 142, 143, 144, 145, 146, 147, 148, 149, 150, 151, 6, 152, 153, 154, 155, 29, 30, 31, 32, 33, 34, 54, 156, 157, 158, 159, 160, 161, 162, 163, 164, 165, 166, 167, 168, 169, 170, 171, 25, 49, 26, 27, 28, 176, 177, 178, 179, 180, 181, 182, 183, 184, 185, 186, 187, 188, 189, 190, 191, 192, 193, 194, 195, 196, 197, 198, 199, 200, 201, 202, 203, 204, 205, 206, 207, 208, 209, 210, 211, 212, 213, 214, 215, 216, 217] (by decide +kernel) (by decide +kernel)
set_option maxRecDepth 20000 in
theorem gX9_bank_X9_readAll : GoodIn wsX9_bank (wsV RX9 250 RX9 yX9_readAll wsX9_readAll) := goodIn_app (goodIn_of _ (by decide +kernel)) ggX9_bank_X9_readAll
set_option maxRecDepth 20000 in
theorem ggX9_bank_X9_refuse : GoodIn wsX9_bank wsX9_refuse := goodIn_r _ [175, 24, 176, 177, 178, 179, 180, 181, 182, 183, 184, 185, 186, 187, 188, 189, 190, 191, 192, 193, 194, 195, 196, 197, 198, 199, 200, 201, 202, 203, 204, 205, 206, 207, 208, 209, 210, 211, 212, 213, 214, 215, 216, 217] (by decide +kernel) (by decide +kernel)
set_option maxRecDepth 20000 in
theorem gX9_bank_X9_refuse : GoodIn wsX9_bank (wsV RX9 109 RX9 yX9_refuse wsX9_refuse) := goodIn_app (goodIn_of _ (by decide +kernel)) ggX9_bank_X9_refuse
theorem dX9_bank_0 : decode cX9_bank 0 = .ok (.aload_n 0, 1) := by decide +kernel
theorem dX9_bank_1 : decode cX9_bank 1 = .ok (.getfield 241, 3) := by decide +kernel
theorem dX9_bank_4 : decode cX9_bank 4 = .ok (.ifnonnull 14, 3) := by decide +kernel
theorem dX9_bank_7 : decode cX9_bank 7 = .ok (.aload_n 0, 1) := by decide +kernel
theorem dX9_bank_8 : decode cX9_bank 8 = .ok (.new 8, 3) := by decide +kernel
theorem dX9_bank_11 : decode cX9_bank 11 = .ok (.dup, 1) := by decide +kernel
theorem dX9_bank_12 : decode cX9_bank 12 = .ok (.invokespecial 245, 3) := by decide +kernel
theorem dX9_bank_15 : decode cX9_bank 15 = .ok (.putfield 241, 3) := by decide +kernel
theorem dX9_bank_18 : decode cX9_bank 18 = .ok (.aload_n 0, 1) := by decide +kernel
theorem dX9_bank_19 : decode cX9_bank 19 = .ok (.getfield 241, 3) := by decide +kernel
theorem dX9_bank_22 : decode cX9_bank 22 = .ok (.aload_n 0, 1) := by decide +kernel
theorem dX9_bank_23 : decode cX9_bank 23 = .ok (.invokevirtual 246, 3) := by decide +kernel
theorem dX9_bank_26 : decode cX9_bank 26 = .ok (.aload_n 0, 1) := by decide +kernel
theorem dX9_bank_27 : decode cX9_bank 27 = .ok (.invokevirtual 250, 3) := by decide +kernel
theorem dX9_bank_30 : decode cX9_bank 30 = .ok (.istore_n 1, 1) := by decide +kernel
theorem dX9_bank_31 : decode cX9_bank 31 = .ok (.aload_n 0, 1) := by decide +kernel
theorem dX9_bank_32 : decode cX9_bank 32 = .ok (.iconst 0, 1) := by decide +kernel
theorem dX9_bank_33 : decode cX9_bank 33 = .ok (.putfield 161, 3) := by decide +kernel
theorem dX9_bank_36 : decode cX9_bank 36 = .ok (.iload_n 1, 1) := by decide +kernel
theorem dX9_bank_37 : decode cX9_bank 37 = .ok (.ifCond .ne 28, 3) := by decide +kernel
theorem dX9_bank_40 : decode cX9_bank 40 = .ok (.aload_n 0, 1) := by decide +kernel
theorem dX9_bank_41 : decode cX9_bank 41 = .ok (.aload_n 0, 1) := by decide +kernel
theorem dX9_bank_42 : decode cX9_bank 42 = .ok (.getfield 241, 3) := by decide +kernel
theorem dX9_bank_45 : decode cX9_bank 45 = .ok (.invokevirtual 246, 3) := by decide +kernel
theorem dX9_bank_48 : decode cX9_bank 48 = .ok (.aload_n 0, 1) := by decide +kernel
theorem dX9_bank_49 : decode cX9_bank 49 = .ok (.sipush (-1002), 3) := by decide +kernel
theorem dX9_bank_52 : decode cX9_bank 52 = .ok (.invokevirtual 109, 3) := by decide +kernel
theorem dX9_bank_55 : decode cX9_bank 55 = .ok (.pop, 1) := by decide +kernel
theorem dX9_bank_56 : decode cX9_bank 56 = .ok (.sipush (-2000), 3) := by decide +kernel
theorem dX9_bank_59 : decode cX9_bank 59 = .ok (.aload_n 0, 1) := by decide +kernel
theorem dX9_bank_60 : decode cX9_bank 60 = .ok (.getfield 182, 3) := by decide +kernel
theorem dX9_bank_63 : decode cX9_bank 63 = .ok (.isub, 1) := by decide +kernel
theorem dX9_bank_64 : decode cX9_bank 64 = .ok (.ireturn, 1) := by decide +kernel
theorem dX9_bank_65 : decode cX9_bank 65 = .ok (.aload_n 0, 1) := by decide +kernel
theorem dX9_bank_66 : decode cX9_bank 66 = .ok (.getfield 235, 3) := by decide +kernel
theorem dX9_bank_69 : decode cX9_bank 69 = .ok (.ireturn, 1) := by decide +kernel
theorem dX9_isPrime_0 : decode cX9_isPrime 0 = .ok (.iconst 2, 1) := by decide +kernel
theorem dX9_isPrime_1 : decode cX9_isPrime 1 = .ok (.istore_n 1, 1) := by decide +kernel
theorem dX9_isPrime_2 : decode cX9_isPrime 2 = .ok (.iload_n 1, 1) := by decide +kernel
theorem dX9_isPrime_3 : decode cX9_isPrime 3 = .ok (.iload_n 1, 1) := by decide +kernel
theorem dX9_isPrime_4 : decode cX9_isPrime 4 = .ok (.imul, 1) := by decide +kernel
theorem dX9_isPrime_5 : decode cX9_isPrime 5 = .ok (.iload_n 0, 1) := by decide +kernel
theorem dX9_isPrime_6 : decode cX9_isPrime 6 = .ok (.if_icmp .gt 17, 3) := by decide +kernel
theorem dX9_isPrime_9 : decode cX9_isPrime 9 = .ok (.iload_n 0, 1) := by decide +kernel
theorem dX9_isPrime_10 : decode cX9_isPrime 10 = .ok (.iload_n 1, 1) := by decide +kernel
theorem dX9_isPrime_11 : decode cX9_isPrime 11 = .ok (.irem, 1) := by decide +kernel
theorem dX9_isPrime_12 : decode cX9_isPrime 12 = .ok (.ifCond .ne 5, 3) := by decide +kernel
theorem dX9_isPrime_15 : decode cX9_isPrime 15 = .ok (.iconst 0, 1) := by decide +kernel
theorem dX9_isPrime_16 : decode cX9_isPrime 16 = .ok (.ireturn, 1) := by decide +kernel
theorem dX9_isPrime_17 : decode cX9_isPrime 17 = .ok (.iinc 1 1, 3) := by decide +kernel
theorem dX9_isPrime_20 : decode cX9_isPrime 20 = .ok (.goto (-18), 3) := by decide +kernel
theorem dX9_isPrime_23 : decode cX9_isPrime 23 = .ok (.iload_n 0, 1) := by decide +kernel
theorem dX9_isPrime_24 : decode cX9_isPrime 24 = .ok (.iconst 1, 1) := by decide +kernel
theorem dX9_isPrime_25 : decode cX9_isPrime 25 = .ok (.if_icmp .le 7, 3) := by decide +kernel
theorem dX9_isPrime_28 : decode cX9_isPrime 28 = .ok (.iconst 1, 1) := by decide +kernel
theorem dX9_isPrime_29 : decode cX9_isPrime 29 = .ok (.goto 4, 3) := by decide +kernel
theorem dX9_isPrime_32 : decode cX9_isPrime 32 = .ok (.iconst 0, 1) := by decide +kernel
theorem dX9_isPrime_33 : decode cX9_isPrime 33 = .ok (.ireturn, 1) := by decide +kernel
theorem dX9_isSquare_0 : decode cX9_isSquare 0 = .ok (.iconst 1, 1) := by decide +kernel
theorem dX9_isSquare_1 : decode cX9_isSquare 1 = .ok (.istore_n 1, 1) := by decide +kernel
theorem dX9_isSquare_2 : decode cX9_isSquare 2 = .ok (.iload_n 1, 1) := by decide +kernel
theorem dX9_isSquare_3 : decode cX9_isSquare 3 = .ok (.iload_n 1, 1) := by decide +kernel
theorem dX9_isSquare_4 : decode cX9_isSquare 4 = .ok (.imul, 1) := by decide +kernel
theorem dX9_isSquare_5 : decode cX9_isSquare 5 = .ok (.iload_n 0, 1) := by decide +kernel
theorem dX9_isSquare_6 : decode cX9_isSquare 6 = .ok (.if_icmp .ge 9, 3) := by decide +kernel
theorem dX9_isSquare_9 : decode cX9_isSquare 9 = .ok (.iinc 1 1, 3) := by decide +kernel
theorem dX9_isSquare_12 : decode cX9_isSquare 12 = .ok (.goto (-10), 3) := by decide +kernel
theorem dX9_isSquare_15 : decode cX9_isSquare 15 = .ok (.iload_n 1, 1) := by decide +kernel
theorem dX9_isSquare_16 : decode cX9_isSquare 16 = .ok (.iload_n 1, 1) := by decide +kernel
theorem dX9_isSquare_17 : decode cX9_isSquare 17 = .ok (.imul, 1) := by decide +kernel
theorem dX9_isSquare_18 : decode cX9_isSquare 18 = .ok (.iload_n 0, 1) := by decide +kernel
theorem dX9_isSquare_19 : decode cX9_isSquare 19 = .ok (.if_icmp .ne 7, 3) := by decide +kernel
theorem dX9_isSquare_22 : decode cX9_isSquare 22 = .ok (.iconst 1, 1) := by decide +kernel
theorem dX9_isSquare_23 : decode cX9_isSquare 23 = .ok (.goto 4, 3) := by decide +kernel
theorem dX9_isSquare_26 : decode cX9_isSquare 26 = .ok (.iconst 0, 1) := by decide +kernel
theorem dX9_isSquare_27 : decode cX9_isSquare 27 = .ok (.ireturn, 1) := by decide +kernel
set_option maxRecDepth 20000 in
theorem ggX9_goesNow_X9_in : GoodIn wsX9_goesNow wsX9_in := goodIn_r _ [6] (by decide +kernel) (by decide +kernel)
set_option maxRecDepth 20000 in
theorem gX9_goesNow_X9_in : GoodIn wsX9_goesNow (va_wsS RX9 96 yX9_in wsX9_in) := goodIn_app (goodIn_of _ (by decide +kernel)) ggX9_goesNow_X9_in
set_option maxRecDepth 20000 in
theorem ggX9_goesNow_X9_isPrime : GoodIn wsX9_goesNow wsX9_isPrime := goodIn_r _ [9] (by decide +kernel) (by decide +kernel)
set_option maxRecDepth 20000 in
theorem gX9_goesNow_X9_isPrime : GoodIn wsX9_goesNow (va_wsS RX9 253 yX9_isPrime wsX9_isPrime) := goodIn_app (goodIn_of _ (by decide +kernel)) ggX9_goesNow_X9_isPrime
set_option maxRecDepth 20000 in
theorem ggX9_goesNow_X9_isSquare : GoodIn wsX9_goesNow wsX9_isSquare := goodIn_r _ [12] (by decide +kernel) (by decide +kernel)
set_option maxRecDepth 20000 in
theorem gX9_goesNow_X9_isSquare : GoodIn wsX9_goesNow (va_wsS RX9 256 yX9_isSquare wsX9_isSquare) := goodIn_app (goodIn_of _ (by decide +kernel)) ggX9_goesNow_X9_isSquare
theorem dX9_goesNow_0 : decode cX9_goesNow 0 = .ok (.lload_n 1, 1) := by decide +kernel
theorem dX9_goesNow_1 : decode cX9_goesNow 1 = .ok (.lconst 1, 1) := by decide +kernel
theorem dX9_goesNow_2 : decode cX9_goesNow 2 = .ok (.aload_n 0, 1) := by decide +kernel
theorem dX9_goesNow_3 : decode cX9_goesNow 3 = .ok (.getfield 37, 3) := by decide +kernel
theorem dX9_goesNow_6 : decode cX9_goesNow 6 = .ok (.i2l, 1) := by decide +kernel
theorem dX9_goesNow_7 : decode cX9_goesNow 7 = .ok (.invokestatic 96, 3) := by decide +kernel
theorem dX9_goesNow_10 : decode cX9_goesNow 10 = .ok (.ifCond .ne 5, 3) := by decide +kernel
theorem dX9_goesNow_13 : decode cX9_goesNow 13 = .ok (.iconst 0, 1) := by decide +kernel
theorem dX9_goesNow_14 : decode cX9_goesNow 14 = .ok (.ireturn, 1) := by decide +kernel
theorem dX9_goesNow_15 : decode cX9_goesNow 15 = .ok (.lload_n 1, 1) := by decide +kernel
theorem dX9_goesNow_16 : decode cX9_goesNow 16 = .ok (.l2i, 1) := by decide +kernel
theorem dX9_goesNow_17 : decode cX9_goesNow 17 = .ok (.istore_n 3, 1) := by decide +kernel
theorem dX9_goesNow_18 : decode cX9_goesNow 18 = .ok (.aload_n 0, 1) := by decide +kernel
theorem dX9_goesNow_19 : decode cX9_goesNow 19 = .ok (.getfield 151, 3) := by decide +kernel
theorem dX9_goesNow_22 : decode cX9_goesNow 22 = .ok (.ifCond .ne 10, 3) := by decide +kernel
theorem dX9_goesNow_25 : decode cX9_goesNow 25 = .ok (.iload_n 3, 1) := by decide +kernel
theorem dX9_goesNow_26 : decode cX9_goesNow 26 = .ok (.invokestatic 253, 3) := by decide +kernel
theorem dX9_goesNow_29 : decode cX9_goesNow 29 = .ok (.goto 52, 3) := by decide +kernel
theorem dX9_goesNow_32 : decode cX9_goesNow 32 = .ok (.aload_n 0, 1) := by decide +kernel
theorem dX9_goesNow_33 : decode cX9_goesNow 33 = .ok (.getfield 151, 3) := by decide +kernel
theorem dX9_goesNow_36 : decode cX9_goesNow 36 = .ok (.iconst 1, 1) := by decide +kernel
theorem dX9_goesNow_37 : decode cX9_goesNow 37 = .ok (.if_icmp .ne 17, 3) := by decide +kernel
theorem dX9_goesNow_40 : decode cX9_goesNow 40 = .ok (.iload_n 3, 1) := by decide +kernel
theorem dX9_goesNow_41 : decode cX9_goesNow 41 = .ok (.iconst 2, 1) := by decide +kernel
theorem dX9_goesNow_42 : decode cX9_goesNow 42 = .ok (.irem, 1) := by decide +kernel
theorem dX9_goesNow_43 : decode cX9_goesNow 43 = .ok (.ifCond .ne 7, 3) := by decide +kernel
theorem dX9_goesNow_46 : decode cX9_goesNow 46 = .ok (.iconst 1, 1) := by decide +kernel
theorem dX9_goesNow_47 : decode cX9_goesNow 47 = .ok (.goto 34, 3) := by decide +kernel
theorem dX9_goesNow_50 : decode cX9_goesNow 50 = .ok (.iconst 0, 1) := by decide +kernel
theorem dX9_goesNow_51 : decode cX9_goesNow 51 = .ok (.goto 30, 3) := by decide +kernel
theorem dX9_goesNow_54 : decode cX9_goesNow 54 = .ok (.aload_n 0, 1) := by decide +kernel
theorem dX9_goesNow_55 : decode cX9_goesNow 55 = .ok (.getfield 151, 3) := by decide +kernel
theorem dX9_goesNow_58 : decode cX9_goesNow 58 = .ok (.iconst 2, 1) := by decide +kernel
theorem dX9_goesNow_59 : decode cX9_goesNow 59 = .ok (.if_icmp .ne 18, 3) := by decide +kernel
theorem dX9_goesNow_62 : decode cX9_goesNow 62 = .ok (.iload_n 3, 1) := by decide +kernel
theorem dX9_goesNow_63 : decode cX9_goesNow 63 = .ok (.iconst 2, 1) := by decide +kernel
theorem dX9_goesNow_64 : decode cX9_goesNow 64 = .ok (.irem, 1) := by decide +kernel
theorem dX9_goesNow_65 : decode cX9_goesNow 65 = .ok (.iconst 1, 1) := by decide +kernel
theorem dX9_goesNow_66 : decode cX9_goesNow 66 = .ok (.if_icmp .ne 7, 3) := by decide +kernel
theorem dX9_goesNow_69 : decode cX9_goesNow 69 = .ok (.iconst 1, 1) := by decide +kernel
theorem dX9_goesNow_70 : decode cX9_goesNow 70 = .ok (.goto 11, 3) := by decide +kernel
theorem dX9_goesNow_73 : decode cX9_goesNow 73 = .ok (.iconst 0, 1) := by decide +kernel
theorem dX9_goesNow_74 : decode cX9_goesNow 74 = .ok (.goto 7, 3) := by decide +kernel
theorem dX9_goesNow_77 : decode cX9_goesNow 77 = .ok (.iload_n 3, 1) := by decide +kernel
theorem dX9_goesNow_78 : decode cX9_goesNow 78 = .ok (.invokestatic 256, 3) := by decide +kernel
theorem dX9_goesNow_81 : decode cX9_goesNow 81 = .ok (.ireturn, 1) := by decide +kernel
set_option maxRecDepth 20000 in
theorem ggX9_goes_X9_in : GoodIn wsX9_goes wsX9_in := goodIn_r _ [5] (by decide +kernel) (by decide +kernel)
set_option maxRecDepth 20000 in
theorem gX9_goes_X9_in : GoodIn wsX9_goes (va_wsS RX9 96 yX9_in wsX9_in) := goodIn_app (goodIn_of _ (by decide +kernel)) ggX9_goes_X9_in
set_option maxRecDepth 20000 in
theorem ggX9_goes_X9_goesNow : GoodIn wsX9_goes wsX9_goesNow := goodIn_r _ [9, 10, 11, 2, 3, 4, 5, 12, 13, 14, 15, 16, 17, 23, 24, 25, 26, 27, 28, 29, 30, 31, 32, 33, 34, 35, 36, 37, 38, 39, 40, 41, 42, 43, 44, 45, 46, 47, 48, 49, 50, 51, 52, 53, 54, 55, 56, 57, 58, 59, 60, 61, 62, 63, 64] (by decide +kernel) (by decide +kernel)
set_option maxRecDepth 20000 in
theorem gX9_goes_X9_goesNow : GoodIn wsX9_goes (wsV RX9 261 RX9 yX9_goesNow wsX9_goesNow) := goodIn_app (goodIn_of _ (by decide +kernel)) ggX9_goes_X9_goesNow
set_option maxRecDepth 20000 in
theorem ggX9_goes_X9_refuse : GoodIn wsX9_goes wsX9_refuse := goodIn_r _ [21, 22, 23, 24, 25, 26, 27, 28, 29, 30, 31, 32, 33, 34, 35, 36, 37, 38, 39, 40, 41, 42, 43, 44, 45, 46, 47, 48, 49, 50, 51, 52, 53, 54, 55, 56, 57, 58, 59, 60, 61, 62, 63, 64] (by decide +kernel) (by decide +kernel)
set_option maxRecDepth 20000 in
theorem gX9_goes_X9_refuse : GoodIn wsX9_goes (wsV RX9 109 RX9 yX9_refuse wsX9_refuse) := goodIn_app (goodIn_of _ (by decide +kernel)) ggX9_goes_X9_refuse
theorem dX9_goes_0 : decode cX9_goes 0 = .ok (.iload_n 1, 1) := by decide +kernel
theorem dX9_goes_1 : decode cX9_goes 1 = .ok (.i2l, 1) := by decide +kernel
theorem dX9_goes_2 : decode cX9_goes 2 = .ok (.lconst 0, 1) := by decide +kernel
theorem dX9_goes_3 : decode cX9_goes 3 = .ok (.ldc2_w 259, 3) := by decide +kernel
theorem dX9_goes_6 : decode cX9_goes 6 = .ok (.invokestatic 96, 3) := by decide +kernel
theorem dX9_goes_9 : decode cX9_goes 9 = .ok (.ifCond .eq 20, 3) := by decide +kernel
theorem dX9_goes_12 : decode cX9_goes 12 = .ok (.aload_n 0, 1) := by decide +kernel
theorem dX9_goes_13 : decode cX9_goes 13 = .ok (.iload_n 1, 1) := by decide +kernel
theorem dX9_goes_14 : decode cX9_goes 14 = .ok (.i2l, 1) := by decide +kernel
theorem dX9_goes_15 : decode cX9_goes 15 = .ok (.invokevirtual 261, 3) := by decide +kernel
theorem dX9_goes_18 : decode cX9_goes 18 = .ok (.ifCond .eq 7, 3) := by decide +kernel
theorem dX9_goes_21 : decode cX9_goes 21 = .ok (.iconst 1, 1) := by decide +kernel
theorem dX9_goes_22 : decode cX9_goes 22 = .ok (.goto 14, 3) := by decide +kernel
theorem dX9_goes_25 : decode cX9_goes 25 = .ok (.iconst 0, 1) := by decide +kernel
theorem dX9_goes_26 : decode cX9_goes 26 = .ok (.goto 10, 3) := by decide +kernel
theorem dX9_goes_29 : decode cX9_goes 29 = .ok (.aload_n 0, 1) := by decide +kernel
theorem dX9_goes_30 : decode cX9_goes 30 = .ok (.sipush (-1002), 3) := by decide +kernel
theorem dX9_goes_33 : decode cX9_goes 33 = .ok (.invokevirtual 109, 3) := by decide +kernel
theorem dX9_goes_36 : decode cX9_goes 36 = .ok (.ireturn, 1) := by decide +kernel
set_option maxRecDepth 20000 in
theorem ggX9_next_X9_in : GoodIn wsX9_next wsX9_in := goodIn_r _ [5] (by decide +kernel) (by decide +kernel)
set_option maxRecDepth 20000 in
theorem gX9_next_X9_in : GoodIn wsX9_next (va_wsS RX9 96 yX9_in wsX9_in) := goodIn_app (goodIn_of _ (by decide +kernel)) ggX9_next_X9_in
set_option maxRecDepth 20000 in
theorem ggX9_next_X9_refuse : GoodIn wsX9_next wsX9_refuse := goodIn_r _ [9, 10, 23, 24, 25, 26, 27, 28, 29, 30, 31, 32, 33, 34, 35, 36, 37, 38, 39, 40, 41, 42, 43, 44, 45, 46, 47, 48, 49, 50, 51, 52, 53, 54, 55, 56, 57, 58, 59, 60, 61, 62, 63, 64] (by decide +kernel) (by decide +kernel)
set_option maxRecDepth 20000 in
theorem gX9_next_X9_refuse : GoodIn wsX9_next (wsV RX9 109 RX9 yX9_refuse wsX9_refuse) := goodIn_app (goodIn_of _ (by decide +kernel)) ggX9_next_X9_refuse
set_option maxRecDepth 20000 in
theorem ggX9_next_X9_goesNow : GoodIn wsX9_next wsX9_goesNow := goodIn_r _ [14, 15, 16, 2, 3, 4, 5, 17, 18, 19, 20, 21, 22, 23, 24, 25, 26, 27, 28, 29, 30, 31, 32, 33, 34, 35, 36, 37, 38, 39, 40, 41, 42, 43, 44, 45, 46, 47, 48, 49, 50, 51, 52, 53, 54, 55, 56, 57, 58, 59, 60, 61, 62, 63, 64] (by decide +kernel) (by decide +kernel)
set_option maxRecDepth 20000 in
theorem gX9_next_X9_goesNow : GoodIn wsX9_next (wsV RX9 261 RX9 yX9_goesNow wsX9_goesNow) := goodIn_app (goodIn_of _ (by decide +kernel)) ggX9_next_X9_goesNow
theorem dX9_next_0 : decode cX9_next 0 = .ok (.iload_n 1, 1) := by decide +kernel
theorem dX9_next_1 : decode cX9_next 1 = .ok (.i2l, 1) := by decide +kernel
theorem dX9_next_2 : decode cX9_next 2 = .ok (.lconst 0, 1) := by decide +kernel
theorem dX9_next_3 : decode cX9_next 3 = .ok (.ldc2_w 135, 3) := by decide +kernel
theorem dX9_next_6 : decode cX9_next 6 = .ok (.invokestatic 96, 3) := by decide +kernel
theorem dX9_next_9 : decode cX9_next 9 = .ok (.ifCond .ne 11, 3) := by decide +kernel
theorem dX9_next_12 : decode cX9_next 12 = .ok (.aload_n 0, 1) := by decide +kernel
theorem dX9_next_13 : decode cX9_next 13 = .ok (.sipush (-1002), 3) := by decide +kernel
theorem dX9_next_16 : decode cX9_next 16 = .ok (.invokevirtual 109, 3) := by decide +kernel
theorem dX9_next_19 : decode cX9_next 19 = .ok (.ireturn, 1) := by decide +kernel
theorem dX9_next_20 : decode cX9_next 20 = .ok (.iload_n 1, 1) := by decide +kernel
theorem dX9_next_21 : decode cX9_next 21 = .ok (.istore_n 2, 1) := by decide +kernel
theorem dX9_next_22 : decode cX9_next 22 = .ok (.iload_n 2, 1) := by decide +kernel
theorem dX9_next_23 : decode cX9_next 23 = .ok (.bipush 99, 2) := by decide +kernel
theorem dX9_next_25 : decode cX9_next 25 = .ok (.if_icmp .gt 18, 3) := by decide +kernel
theorem dX9_next_28 : decode cX9_next 28 = .ok (.aload_n 0, 1) := by decide +kernel
theorem dX9_next_29 : decode cX9_next 29 = .ok (.iload_n 2, 1) := by decide +kernel
theorem dX9_next_30 : decode cX9_next 30 = .ok (.i2l, 1) := by decide +kernel
theorem dX9_next_31 : decode cX9_next 31 = .ok (.invokevirtual 261, 3) := by decide +kernel
theorem dX9_next_34 : decode cX9_next 34 = .ok (.ifCond .ne 9, 3) := by decide +kernel
theorem dX9_next_37 : decode cX9_next 37 = .ok (.iinc 2 1, 3) := by decide +kernel
theorem dX9_next_40 : decode cX9_next 40 = .ok (.goto (-18), 3) := by decide +kernel
theorem dX9_next_43 : decode cX9_next 43 = .ok (.iload_n 2, 1) := by decide +kernel
theorem dX9_next_44 : decode cX9_next 44 = .ok (.bipush 99, 2) := by decide +kernel
theorem dX9_next_46 : decode cX9_next 46 = .ok (.if_icmp .gt 7, 3) := by decide +kernel
theorem dX9_next_49 : decode cX9_next 49 = .ok (.iload_n 2, 1) := by decide +kernel
theorem dX9_next_50 : decode cX9_next 50 = .ok (.goto 4, 3) := by decide +kernel
theorem dX9_next_53 : decode cX9_next 53 = .ok (.iconst (-1), 1) := by decide +kernel
theorem dX9_next_54 : decode cX9_next 54 = .ok (.ireturn, 1) := by decide +kernel
set_option maxRecDepth 20000 in
theorem ggX9_before_X9_in : GoodIn wsX9_before wsX9_in := goodIn_r _ [5] (by decide +kernel) (by decide +kernel)
set_option maxRecDepth 20000 in
theorem gX9_before_X9_in : GoodIn wsX9_before (va_wsS RX9 96 yX9_in wsX9_in) := goodIn_app (goodIn_of _ (by decide +kernel)) ggX9_before_X9_in
set_option maxRecDepth 20000 in
theorem ggX9_before_X9_refuse : GoodIn wsX9_before wsX9_refuse := goodIn_r _ [9, 10, 23, 24, 25, 26, 27, 28, 29, 30, 31, 32, 33, 34, 35, 36, 37, 38, 39, 40, 41, 42, 43, 44, 45, 46, 47, 48, 49, 50, 51, 52, 53, 54, 55, 56, 57, 58, 59, 60, 61, 62, 63, 64] (by decide +kernel) (by decide +kernel)
set_option maxRecDepth 20000 in
theorem gX9_before_X9_refuse : GoodIn wsX9_before (wsV RX9 109 RX9 yX9_refuse wsX9_refuse) := goodIn_app (goodIn_of _ (by decide +kernel)) ggX9_before_X9_refuse
set_option maxRecDepth 20000 in
theorem ggX9_before_X9_goesNow : GoodIn wsX9_before wsX9_goesNow := goodIn_r _ [14, 15, 16, 2, 3, 4, 5, 17, 18, 19, 20, 21, 22, 23, 24, 25, 26, 27, 28, 29, 30, 31, 32, 33, 34, 35, 36, 37, 38, 39, 40, 41, 42, 43, 44, 45, 46, 47, 48, 49, 50, 51, 52, 53, 54, 55, 56, 57, 58, 59, 60, 61, 62, 63, 64] (by decide +kernel) (by decide +kernel)
set_option maxRecDepth 20000 in
theorem gX9_before_X9_goesNow : GoodIn wsX9_before (wsV RX9 261 RX9 yX9_goesNow wsX9_goesNow) := goodIn_app (goodIn_of _ (by decide +kernel)) ggX9_before_X9_goesNow
theorem dX9_before_0 : decode cX9_before 0 = .ok (.iload_n 1, 1) := by decide +kernel
theorem dX9_before_1 : decode cX9_before 1 = .ok (.i2l, 1) := by decide +kernel
theorem dX9_before_2 : decode cX9_before 2 = .ok (.lconst 0, 1) := by decide +kernel
theorem dX9_before_3 : decode cX9_before 3 = .ok (.ldc2_w 135, 3) := by decide +kernel
theorem dX9_before_6 : decode cX9_before 6 = .ok (.invokestatic 96, 3) := by decide +kernel
theorem dX9_before_9 : decode cX9_before 9 = .ok (.ifCond .ne 11, 3) := by decide +kernel
theorem dX9_before_12 : decode cX9_before 12 = .ok (.aload_n 0, 1) := by decide +kernel
theorem dX9_before_13 : decode cX9_before 13 = .ok (.sipush (-1002), 3) := by decide +kernel
theorem dX9_before_16 : decode cX9_before 16 = .ok (.invokevirtual 109, 3) := by decide +kernel
theorem dX9_before_19 : decode cX9_before 19 = .ok (.ireturn, 1) := by decide +kernel
theorem dX9_before_20 : decode cX9_before 20 = .ok (.iload_n 1, 1) := by decide +kernel
theorem dX9_before_21 : decode cX9_before 21 = .ok (.istore_n 2, 1) := by decide +kernel
theorem dX9_before_22 : decode cX9_before 22 = .ok (.iload_n 2, 1) := by decide +kernel
theorem dX9_before_23 : decode cX9_before 23 = .ok (.ifCond .lt 18, 3) := by decide +kernel
theorem dX9_before_26 : decode cX9_before 26 = .ok (.aload_n 0, 1) := by decide +kernel
theorem dX9_before_27 : decode cX9_before 27 = .ok (.iload_n 2, 1) := by decide +kernel
theorem dX9_before_28 : decode cX9_before 28 = .ok (.i2l, 1) := by decide +kernel
theorem dX9_before_29 : decode cX9_before 29 = .ok (.invokevirtual 261, 3) := by decide +kernel
theorem dX9_before_32 : decode cX9_before 32 = .ok (.ifCond .ne 9, 3) := by decide +kernel
theorem dX9_before_35 : decode cX9_before 35 = .ok (.iinc 2 (-1), 3) := by decide +kernel
theorem dX9_before_38 : decode cX9_before 38 = .ok (.goto (-16), 3) := by decide +kernel
theorem dX9_before_41 : decode cX9_before 41 = .ok (.iload_n 2, 1) := by decide +kernel
theorem dX9_before_42 : decode cX9_before 42 = .ok (.ireturn, 1) := by decide +kernel
set_option maxRecDepth 20000 in
theorem ggX9_numbers_X9_goesNow : GoodIn wsX9_numbers wsX9_goesNow := goodIn_r _ [5, 6, 7, 8, 9, 4, 10, 11, 12, 13, 14, 15, 16, 17, 18, 19, 20, 21, 22, 23, 24, 25, 26, 27, 28, 29, 30, 31, 32, 33, 34, 35, 36, 37, 38, 39, 40, 41, 42, 43, 44, 45, 46, 47, 48, 49, 50, 51, 52, 53, 54, 55, 56, 57, 58] (by decide +kernel) (by decide +kernel)
set_option maxRecDepth 20000 in
theorem gX9_numbers_X9_goesNow : GoodIn wsX9_numbers (wsV RX9 261 RX9 yX9_goesNow wsX9_goesNow) := goodIn_app (goodIn_of _ (by decide +kernel)) ggX9_numbers_X9_goesNow
theorem dX9_numbers_0 : decode cX9_numbers 0 = .ok (.iconst 0, 1) := by decide +kernel
theorem dX9_numbers_1 : decode cX9_numbers 1 = .ok (.istore_n 1, 1) := by decide +kernel
theorem dX9_numbers_2 : decode cX9_numbers 2 = .ok (.iconst 1, 1) := by decide +kernel
theorem dX9_numbers_3 : decode cX9_numbers 3 = .ok (.istore_n 2, 1) := by decide +kernel
theorem dX9_numbers_4 : decode cX9_numbers 4 = .ok (.iload_n 2, 1) := by decide +kernel
theorem dX9_numbers_5 : decode cX9_numbers 5 = .ok (.bipush 99, 2) := by decide +kernel
theorem dX9_numbers_7 : decode cX9_numbers 7 = .ok (.if_icmp .gt 26, 3) := by decide +kernel
theorem dX9_numbers_10 : decode cX9_numbers 10 = .ok (.iload_n 1, 1) := by decide +kernel
theorem dX9_numbers_11 : decode cX9_numbers 11 = .ok (.aload_n 0, 1) := by decide +kernel
theorem dX9_numbers_12 : decode cX9_numbers 12 = .ok (.iload_n 2, 1) := by decide +kernel
theorem dX9_numbers_13 : decode cX9_numbers 13 = .ok (.i2l, 1) := by decide +kernel
theorem dX9_numbers_14 : decode cX9_numbers 14 = .ok (.invokevirtual 261, 3) := by decide +kernel
theorem dX9_numbers_17 : decode cX9_numbers 17 = .ok (.ifCond .eq 7, 3) := by decide +kernel
theorem dX9_numbers_20 : decode cX9_numbers 20 = .ok (.iconst 1, 1) := by decide +kernel
theorem dX9_numbers_21 : decode cX9_numbers 21 = .ok (.goto 4, 3) := by decide +kernel
theorem dX9_numbers_24 : decode cX9_numbers 24 = .ok (.iconst 0, 1) := by decide +kernel
theorem dX9_numbers_25 : decode cX9_numbers 25 = .ok (.iadd, 1) := by decide +kernel
theorem dX9_numbers_26 : decode cX9_numbers 26 = .ok (.istore_n 1, 1) := by decide +kernel
theorem dX9_numbers_27 : decode cX9_numbers 27 = .ok (.iinc 2 1, 3) := by decide +kernel
theorem dX9_numbers_30 : decode cX9_numbers 30 = .ok (.goto (-26), 3) := by decide +kernel
theorem dX9_numbers_33 : decode cX9_numbers 33 = .ok (.iload_n 1, 1) := by decide +kernel
theorem dX9_numbers_34 : decode cX9_numbers 34 = .ok (.ireturn, 1) := by decide +kernel
set_option maxRecDepth 20000 in
theorem ggX9_left_X9_in : GoodIn wsX9_left wsX9_in := goodIn_r _ [6] (by decide +kernel) (by decide +kernel)
set_option maxRecDepth 20000 in
theorem gX9_left_X9_in : GoodIn wsX9_left (va_wsS RX9 96 yX9_in wsX9_in) := goodIn_app (goodIn_of _ (by decide +kernel)) ggX9_left_X9_in
set_option maxRecDepth 20000 in
theorem ggX9_left_X9_refuse : GoodIn wsX9_left wsX9_refuse := goodIn_r _ [10, 11, 24, 25, 26, 27, 28, 29, 30, 31, 32, 33, 34, 35, 36, 37, 38, 39, 40, 41, 42, 43, 44, 45, 46, 47, 48, 49, 50, 51, 52, 53, 54, 55, 56, 57, 58, 59, 60, 61, 62, 63, 64, 65] (by decide +kernel) (by decide +kernel)
set_option maxRecDepth 20000 in
theorem gX9_left_X9_refuse : GoodIn wsX9_left (wsV RX9 109 RX9 yX9_refuse wsX9_refuse) := goodIn_app (goodIn_of _ (by decide +kernel)) ggX9_left_X9_refuse
set_option maxRecDepth 20000 in
theorem ggX9_left_X9_goesNow : GoodIn wsX9_left wsX9_goesNow := goodIn_r _ [15, 16, 17, 3, 4, 5, 6, 18, 19, 20, 21, 22, 23, 24, 25, 26, 27, 28, 29, 30, 31, 32, 33, 34, 35, 36, 37, 38, 39, 40, 41, 42, 43, 44, 45, 46, 47, 48, 49, 50, 51, 52, 53, 54, 55, 56, 57, 58, 59, 60, 61, 62, 63, 64, 65] (by decide +kernel) (by decide +kernel)
set_option maxRecDepth 20000 in
theorem gX9_left_X9_goesNow : GoodIn wsX9_left (wsV RX9 261 RX9 yX9_goesNow wsX9_goesNow) := goodIn_app (goodIn_of _ (by decide +kernel)) ggX9_left_X9_goesNow
theorem dX9_left_0 : decode cX9_left 0 = .ok (.iload_n 1, 1) := by decide +kernel
theorem dX9_left_1 : decode cX9_left 1 = .ok (.i2l, 1) := by decide +kernel
theorem dX9_left_2 : decode cX9_left 2 = .ok (.lconst 0, 1) := by decide +kernel
theorem dX9_left_3 : decode cX9_left 3 = .ok (.ldc2_w 265, 3) := by decide +kernel
theorem dX9_left_6 : decode cX9_left 6 = .ok (.invokestatic 96, 3) := by decide +kernel
theorem dX9_left_9 : decode cX9_left 9 = .ok (.ifCond .ne 11, 3) := by decide +kernel
theorem dX9_left_12 : decode cX9_left 12 = .ok (.aload_n 0, 1) := by decide +kernel
theorem dX9_left_13 : decode cX9_left 13 = .ok (.sipush (-1002), 3) := by decide +kernel
theorem dX9_left_16 : decode cX9_left 16 = .ok (.invokevirtual 109, 3) := by decide +kernel
theorem dX9_left_19 : decode cX9_left 19 = .ok (.ireturn, 1) := by decide +kernel
theorem dX9_left_20 : decode cX9_left 20 = .ok (.iconst 0, 1) := by decide +kernel
theorem dX9_left_21 : decode cX9_left 21 = .ok (.istore_n 2, 1) := by decide +kernel
theorem dX9_left_22 : decode cX9_left 22 = .ok (.aload_n 0, 1) := by decide +kernel
theorem dX9_left_23 : decode cX9_left 23 = .ok (.getfield 74, 3) := by decide +kernel
theorem dX9_left_26 : decode cX9_left 26 = .ok (.iconst 0, 1) := by decide +kernel
theorem dX9_left_27 : decode cX9_left 27 = .ok (.iconst 1, 1) := by decide +kernel
theorem dX9_left_28 : decode cX9_left 28 = .ok (.iastore, 1) := by decide +kernel
theorem dX9_left_29 : decode cX9_left 29 = .ok (.iconst 1, 1) := by decide +kernel
theorem dX9_left_30 : decode cX9_left 30 = .ok (.istore_n 3, 1) := by decide +kernel
theorem dX9_left_31 : decode cX9_left 31 = .ok (.iload_n 3, 1) := by decide +kernel
theorem dX9_left_32 : decode cX9_left 32 = .ok (.iload_n 1, 1) := by decide +kernel
theorem dX9_left_33 : decode cX9_left 33 = .ok (.if_icmp .gt 86, 3) := by decide +kernel
theorem dX9_left_36 : decode cX9_left 36 = .ok (.aload_n 0, 1) := by decide +kernel
theorem dX9_left_37 : decode cX9_left 37 = .ok (.getfield 74, 3) := by decide +kernel
theorem dX9_left_40 : decode cX9_left 40 = .ok (.iload_n 3, 1) := by decide +kernel
theorem dX9_left_41 : decode cX9_left 41 = .ok (.iconst 0, 1) := by decide +kernel
theorem dX9_left_42 : decode cX9_left 42 = .ok (.iastore, 1) := by decide +kernel
theorem dX9_left_43 : decode cX9_left 43 = .ok (.iconst 1, 1) := by decide +kernel
theorem dX9_left_44 : decode cX9_left 44 = .ok (.istore 4, 2) := by decide +kernel
theorem dX9_left_46 : decode cX9_left 46 = .ok (.iload 4, 2) := by decide +kernel
theorem dX9_left_48 : decode cX9_left 48 = .ok (.iload_n 3, 1) := by decide +kernel
theorem dX9_left_49 : decode cX9_left 49 = .ok (.if_icmp .gt 48, 3) := by decide +kernel
theorem dX9_left_52 : decode cX9_left 52 = .ok (.iload 4, 2) := by decide +kernel
theorem dX9_left_54 : decode cX9_left 54 = .ok (.bipush 99, 2) := by decide +kernel
theorem dX9_left_56 : decode cX9_left 56 = .ok (.if_icmp .gt 41, 3) := by decide +kernel
theorem dX9_left_59 : decode cX9_left 59 = .ok (.aload_n 0, 1) := by decide +kernel
theorem dX9_left_60 : decode cX9_left 60 = .ok (.getfield 74, 3) := by decide +kernel
theorem dX9_left_63 : decode cX9_left 63 = .ok (.iload_n 3, 1) := by decide +kernel
theorem dX9_left_64 : decode cX9_left 64 = .ok (.dup2, 1) := by decide +kernel
theorem dX9_left_65 : decode cX9_left 65 = .ok (.iaload, 1) := by decide +kernel
theorem dX9_left_66 : decode cX9_left 66 = .ok (.aload_n 0, 1) := by decide +kernel
theorem dX9_left_67 : decode cX9_left 67 = .ok (.iload 4, 2) := by decide +kernel
theorem dX9_left_69 : decode cX9_left 69 = .ok (.i2l, 1) := by decide +kernel
theorem dX9_left_70 : decode cX9_left 70 = .ok (.invokevirtual 261, 3) := by decide +kernel
theorem dX9_left_73 : decode cX9_left 73 = .ok (.ifCond .eq 15, 3) := by decide +kernel
theorem dX9_left_76 : decode cX9_left 76 = .ok (.aload_n 0, 1) := by decide +kernel
theorem dX9_left_77 : decode cX9_left 77 = .ok (.getfield 74, 3) := by decide +kernel
theorem dX9_left_80 : decode cX9_left 80 = .ok (.iload_n 3, 1) := by decide +kernel
theorem dX9_left_81 : decode cX9_left 81 = .ok (.iload 4, 2) := by decide +kernel
theorem dX9_left_83 : decode cX9_left 83 = .ok (.isub, 1) := by decide +kernel
theorem dX9_left_84 : decode cX9_left 84 = .ok (.iaload, 1) := by decide +kernel
theorem dX9_left_85 : decode cX9_left 85 = .ok (.goto 4, 3) := by decide +kernel
theorem dX9_left_88 : decode cX9_left 88 = .ok (.iconst 0, 1) := by decide +kernel
theorem dX9_left_89 : decode cX9_left 89 = .ok (.ior, 1) := by decide +kernel
theorem dX9_left_90 : decode cX9_left 90 = .ok (.iastore, 1) := by decide +kernel
theorem dX9_left_91 : decode cX9_left 91 = .ok (.iinc 4 1, 3) := by decide +kernel
theorem dX9_left_94 : decode cX9_left 94 = .ok (.goto (-48), 3) := by decide +kernel
theorem dX9_left_97 : decode cX9_left 97 = .ok (.aload_n 0, 1) := by decide +kernel
theorem dX9_left_98 : decode cX9_left 98 = .ok (.getfield 74, 3) := by decide +kernel
theorem dX9_left_101 : decode cX9_left 101 = .ok (.iload_n 3, 1) := by decide +kernel
theorem dX9_left_102 : decode cX9_left 102 = .ok (.iaload, 1) := by decide +kernel
theorem dX9_left_103 : decode cX9_left 103 = .ok (.iconst 1, 1) := by decide +kernel
theorem dX9_left_104 : decode cX9_left 104 = .ok (.if_icmp .ne 7, 3) := by decide +kernel
theorem dX9_left_107 : decode cX9_left 107 = .ok (.iload_n 3, 1) := by decide +kernel
theorem dX9_left_108 : decode cX9_left 108 = .ok (.goto 4, 3) := by decide +kernel
theorem dX9_left_111 : decode cX9_left 111 = .ok (.iload_n 2, 1) := by decide +kernel
theorem dX9_left_112 : decode cX9_left 112 = .ok (.istore_n 2, 1) := by decide +kernel
theorem dX9_left_113 : decode cX9_left 113 = .ok (.iinc 3 1, 3) := by decide +kernel
theorem dX9_left_116 : decode cX9_left 116 = .ok (.goto (-85), 3) := by decide +kernel
theorem dX9_left_119 : decode cX9_left 119 = .ok (.iload_n 1, 1) := by decide +kernel
theorem dX9_left_120 : decode cX9_left 120 = .ok (.iload_n 2, 1) := by decide +kernel
theorem dX9_left_121 : decode cX9_left 121 = .ok (.isub, 1) := by decide +kernel
theorem dX9_left_122 : decode cX9_left 122 = .ok (.ireturn, 1) := by decide +kernel
set_option maxRecDepth 20000 in
theorem ggX9_ways_X9_in : GoodIn wsX9_ways wsX9_in := goodIn_r _ [6] (by decide +kernel) (by decide +kernel)
set_option maxRecDepth 20000 in
theorem gX9_ways_X9_in : GoodIn wsX9_ways (va_wsS RX9 96 yX9_in wsX9_in) := goodIn_app (goodIn_of _ (by decide +kernel)) ggX9_ways_X9_in
set_option maxRecDepth 20000 in
theorem ggX9_ways_X9_refuse : GoodIn wsX9_ways wsX9_refuse := goodIn_r _ [10, 11, 24, 25, 26, 27, 28, 29, 30, 31, 32, 33, 34, 35, 36, 37, 38, 39, 40, 41, 42, 43, 44, 45, 46, 47, 48, 49, 50, 51, 52, 53, 54, 55, 56, 57, 58, 59, 60, 61, 62, 63, 64, 65] (by decide +kernel) (by decide +kernel)
set_option maxRecDepth 20000 in
theorem gX9_ways_X9_refuse : GoodIn wsX9_ways (wsV RX9 109 RX9 yX9_refuse wsX9_refuse) := goodIn_app (goodIn_of _ (by decide +kernel)) ggX9_ways_X9_refuse
set_option maxRecDepth 20000 in
theorem ggX9_ways_X9_goesNow : GoodIn wsX9_ways wsX9_goesNow := goodIn_r _ [15, 16, 17, 3, 4, 5, 6, 18, 19, 20, 21, 22, 23, 24, 25, 26, 27, 28, 29, 30, 31, 32, 33, 34, 35, 36, 37, 38, 39, 40, 41, 42, 43, 44, 45, 46, 47, 48, 49, 50, 51, 52, 53, 54, 55, 56, 57, 58, 59, 60, 61, 62, 63, 64, 65] (by decide +kernel) (by decide +kernel)
set_option maxRecDepth 20000 in
theorem gX9_ways_X9_goesNow : GoodIn wsX9_ways (wsV RX9 261 RX9 yX9_goesNow wsX9_goesNow) := goodIn_app (goodIn_of _ (by decide +kernel)) ggX9_ways_X9_goesNow
theorem dX9_ways_0 : decode cX9_ways 0 = .ok (.iload_n 1, 1) := by decide +kernel
theorem dX9_ways_1 : decode cX9_ways 1 = .ok (.i2l, 1) := by decide +kernel
theorem dX9_ways_2 : decode cX9_ways 2 = .ok (.lconst 0, 1) := by decide +kernel
theorem dX9_ways_3 : decode cX9_ways 3 = .ok (.ldc2_w 267, 3) := by decide +kernel
theorem dX9_ways_6 : decode cX9_ways 6 = .ok (.invokestatic 96, 3) := by decide +kernel
theorem dX9_ways_9 : decode cX9_ways 9 = .ok (.ifCond .ne 11, 3) := by decide +kernel
theorem dX9_ways_12 : decode cX9_ways 12 = .ok (.aload_n 0, 1) := by decide +kernel
theorem dX9_ways_13 : decode cX9_ways 13 = .ok (.sipush (-1002), 3) := by decide +kernel
theorem dX9_ways_16 : decode cX9_ways 16 = .ok (.invokevirtual 109, 3) := by decide +kernel
theorem dX9_ways_19 : decode cX9_ways 19 = .ok (.ireturn, 1) := by decide +kernel
theorem dX9_ways_20 : decode cX9_ways 20 = .ok (.iconst 0, 1) := by decide +kernel
theorem dX9_ways_21 : decode cX9_ways 21 = .ok (.istore_n 2, 1) := by decide +kernel
theorem dX9_ways_22 : decode cX9_ways 22 = .ok (.iload_n 2, 1) := by decide +kernel
theorem dX9_ways_23 : decode cX9_ways 23 = .ok (.iload_n 1, 1) := by decide +kernel
theorem dX9_ways_24 : decode cX9_ways 24 = .ok (.if_icmp .gt 24, 3) := by decide +kernel
theorem dX9_ways_27 : decode cX9_ways 27 = .ok (.aload_n 0, 1) := by decide +kernel
theorem dX9_ways_28 : decode cX9_ways 28 = .ok (.getfield 74, 3) := by decide +kernel
theorem dX9_ways_31 : decode cX9_ways 31 = .ok (.iload_n 2, 1) := by decide +kernel
theorem dX9_ways_32 : decode cX9_ways 32 = .ok (.iload_n 2, 1) := by decide +kernel
theorem dX9_ways_33 : decode cX9_ways 33 = .ok (.ifCond .ne 7, 3) := by decide +kernel
theorem dX9_ways_36 : decode cX9_ways 36 = .ok (.iconst 1, 1) := by decide +kernel
theorem dX9_ways_37 : decode cX9_ways 37 = .ok (.goto 4, 3) := by decide +kernel
theorem dX9_ways_40 : decode cX9_ways 40 = .ok (.iconst 0, 1) := by decide +kernel
theorem dX9_ways_41 : decode cX9_ways 41 = .ok (.iastore, 1) := by decide +kernel
theorem dX9_ways_42 : decode cX9_ways 42 = .ok (.iinc 2 1, 3) := by decide +kernel
theorem dX9_ways_45 : decode cX9_ways 45 = .ok (.goto (-23), 3) := by decide +kernel
theorem dX9_ways_48 : decode cX9_ways 48 = .ok (.iconst 1, 1) := by decide +kernel
theorem dX9_ways_49 : decode cX9_ways 49 = .ok (.istore_n 2, 1) := by decide +kernel
theorem dX9_ways_50 : decode cX9_ways 50 = .ok (.iload_n 2, 1) := by decide +kernel
theorem dX9_ways_51 : decode cX9_ways 51 = .ok (.iload_n 1, 1) := by decide +kernel
theorem dX9_ways_52 : decode cX9_ways 52 = .ok (.if_icmp .gt 48, 3) := by decide +kernel
theorem dX9_ways_55 : decode cX9_ways 55 = .ok (.iload_n 2, 1) := by decide +kernel
theorem dX9_ways_56 : decode cX9_ways 56 = .ok (.istore_n 3, 1) := by decide +kernel
theorem dX9_ways_57 : decode cX9_ways 57 = .ok (.iload_n 3, 1) := by decide +kernel
theorem dX9_ways_58 : decode cX9_ways 58 = .ok (.iload_n 1, 1) := by decide +kernel
theorem dX9_ways_59 : decode cX9_ways 59 = .ok (.if_icmp .gt 35, 3) := by decide +kernel
theorem dX9_ways_62 : decode cX9_ways 62 = .ok (.aload_n 0, 1) := by decide +kernel
theorem dX9_ways_63 : decode cX9_ways 63 = .ok (.iload_n 2, 1) := by decide +kernel
theorem dX9_ways_64 : decode cX9_ways 64 = .ok (.i2l, 1) := by decide +kernel
theorem dX9_ways_65 : decode cX9_ways 65 = .ok (.invokevirtual 261, 3) := by decide +kernel
theorem dX9_ways_68 : decode cX9_ways 68 = .ok (.ifCond .eq 26, 3) := by decide +kernel
theorem dX9_ways_71 : decode cX9_ways 71 = .ok (.aload_n 0, 1) := by decide +kernel
theorem dX9_ways_72 : decode cX9_ways 72 = .ok (.getfield 74, 3) := by decide +kernel
theorem dX9_ways_75 : decode cX9_ways 75 = .ok (.iload_n 3, 1) := by decide +kernel
theorem dX9_ways_76 : decode cX9_ways 76 = .ok (.dup2, 1) := by decide +kernel
theorem dX9_ways_77 : decode cX9_ways 77 = .ok (.iaload, 1) := by decide +kernel
theorem dX9_ways_78 : decode cX9_ways 78 = .ok (.aload_n 0, 1) := by decide +kernel
theorem dX9_ways_79 : decode cX9_ways 79 = .ok (.getfield 74, 3) := by decide +kernel
theorem dX9_ways_82 : decode cX9_ways 82 = .ok (.iload_n 3, 1) := by decide +kernel
theorem dX9_ways_83 : decode cX9_ways 83 = .ok (.iload_n 2, 1) := by decide +kernel
theorem dX9_ways_84 : decode cX9_ways 84 = .ok (.isub, 1) := by decide +kernel
theorem dX9_ways_85 : decode cX9_ways 85 = .ok (.iaload, 1) := by decide +kernel
theorem dX9_ways_86 : decode cX9_ways 86 = .ok (.iadd, 1) := by decide +kernel
theorem dX9_ways_87 : decode cX9_ways 87 = .ok (.iastore, 1) := by decide +kernel
theorem dX9_ways_88 : decode cX9_ways 88 = .ok (.iinc 3 1, 3) := by decide +kernel
theorem dX9_ways_91 : decode cX9_ways 91 = .ok (.goto (-34), 3) := by decide +kernel
theorem dX9_ways_94 : decode cX9_ways 94 = .ok (.iinc 2 1, 3) := by decide +kernel
theorem dX9_ways_97 : decode cX9_ways 97 = .ok (.goto (-47), 3) := by decide +kernel
theorem dX9_ways_100 : decode cX9_ways 100 = .ok (.aload_n 0, 1) := by decide +kernel
theorem dX9_ways_101 : decode cX9_ways 101 = .ok (.getfield 74, 3) := by decide +kernel
theorem dX9_ways_104 : decode cX9_ways 104 = .ok (.iload_n 1, 1) := by decide +kernel
theorem dX9_ways_105 : decode cX9_ways 105 = .ok (.iaload, 1) := by decide +kernel
theorem dX9_ways_106 : decode cX9_ways 106 = .ok (.ireturn, 1) := by decide +kernel
theorem dX9_headsOf_0 : decode cX9_headsOf 0 = .ok (.aload_n 0, 1) := by decide +kernel
theorem dX9_headsOf_1 : decode cX9_headsOf 1 = .ok (.getfield 56, 3) := by decide +kernel
theorem dX9_headsOf_4 : decode cX9_headsOf 4 = .ok (.iload_n 1, 1) := by decide +kernel
theorem dX9_headsOf_5 : decode cX9_headsOf 5 = .ok (.iaload, 1) := by decide +kernel
theorem dX9_headsOf_6 : decode cX9_headsOf 6 = .ok (.aload_n 0, 1) := by decide +kernel
theorem dX9_headsOf_7 : decode cX9_headsOf 7 = .ok (.getfield 41, 3) := by decide +kernel
theorem dX9_headsOf_10 : decode cX9_headsOf 10 = .ok (.iconst 1, 1) := by decide +kernel
theorem dX9_headsOf_11 : decode cX9_headsOf 11 = .ok (.iand, 1) := by decide +kernel
theorem dX9_headsOf_12 : decode cX9_headsOf 12 = .ok (.iconst 1, 1) := by decide +kernel
theorem dX9_headsOf_13 : decode cX9_headsOf 13 = .ok (.if_icmp .ne 12, 3) := by decide +kernel
theorem dX9_headsOf_16 : decode cX9_headsOf 16 = .ok (.aload_n 0, 1) := by decide +kernel
theorem dX9_headsOf_17 : decode cX9_headsOf 17 = .ok (.getfield 53, 3) := by decide +kernel
theorem dX9_headsOf_20 : decode cX9_headsOf 20 = .ok (.iload_n 1, 1) := by decide +kernel
theorem dX9_headsOf_21 : decode cX9_headsOf 21 = .ok (.iaload, 1) := by decide +kernel
theorem dX9_headsOf_22 : decode cX9_headsOf 22 = .ok (.goto 4, 3) := by decide +kernel
theorem dX9_headsOf_25 : decode cX9_headsOf 25 = .ok (.iconst 0, 1) := by decide +kernel
theorem dX9_headsOf_26 : decode cX9_headsOf 26 = .ok (.iadd, 1) := by decide +kernel
theorem dX9_headsOf_27 : decode cX9_headsOf 27 = .ok (.istore_n 2, 1) := by decide +kernel
theorem dX9_headsOf_28 : decode cX9_headsOf 28 = .ok (.aload_n 0, 1) := by decide +kernel
theorem dX9_headsOf_29 : decode cX9_headsOf 29 = .ok (.getfield 41, 3) := by decide +kernel
theorem dX9_headsOf_32 : decode cX9_headsOf 32 = .ok (.iconst 2, 1) := by decide +kernel
theorem dX9_headsOf_33 : decode cX9_headsOf 33 = .ok (.iand, 1) := by decide +kernel
theorem dX9_headsOf_34 : decode cX9_headsOf 34 = .ok (.iconst 2, 1) := by decide +kernel
theorem dX9_headsOf_35 : decode cX9_headsOf 35 = .ok (.if_icmp .ne 12, 3) := by decide +kernel
theorem dX9_headsOf_38 : decode cX9_headsOf 38 = .ok (.aload_n 0, 1) := by decide +kernel
theorem dX9_headsOf_39 : decode cX9_headsOf 39 = .ok (.getfield 56, 3) := by decide +kernel
theorem dX9_headsOf_42 : decode cX9_headsOf 42 = .ok (.iload_n 1, 1) := by decide +kernel
theorem dX9_headsOf_43 : decode cX9_headsOf 43 = .ok (.iaload, 1) := by decide +kernel
theorem dX9_headsOf_44 : decode cX9_headsOf 44 = .ok (.goto 9, 3) := by decide +kernel
theorem dX9_headsOf_47 : decode cX9_headsOf 47 = .ok (.aload_n 0, 1) := by decide +kernel
theorem dX9_headsOf_48 : decode cX9_headsOf 48 = .ok (.getfield 53, 3) := by decide +kernel
theorem dX9_headsOf_51 : decode cX9_headsOf 51 = .ok (.iload_n 1, 1) := by decide +kernel
theorem dX9_headsOf_52 : decode cX9_headsOf 52 = .ok (.iaload, 1) := by decide +kernel
theorem dX9_headsOf_53 : decode cX9_headsOf 53 = .ok (.istore_n 3, 1) := by decide +kernel
theorem dX9_headsOf_54 : decode cX9_headsOf 54 = .ok (.aload_n 0, 1) := by decide +kernel
theorem dX9_headsOf_55 : decode cX9_headsOf 55 = .ok (.getfield 50, 3) := by decide +kernel
theorem dX9_headsOf_58 : decode cX9_headsOf 58 = .ok (.iload_n 1, 1) := by decide +kernel
theorem dX9_headsOf_59 : decode cX9_headsOf 59 = .ok (.iaload, 1) := by decide +kernel
theorem dX9_headsOf_60 : decode cX9_headsOf 60 = .ok (.tableswitch 64 1 5 #[36, 44, 38, 46, 50], 36) := by decide +kernel
theorem dX9_headsOf_96 : decode cX9_headsOf 96 = .ok (.iload_n 2, 1) := by decide +kernel
theorem dX9_headsOf_97 : decode cX9_headsOf 97 = .ok (.ireturn, 1) := by decide +kernel
theorem dX9_headsOf_98 : decode cX9_headsOf 98 = .ok (.iload_n 2, 1) := by decide +kernel
theorem dX9_headsOf_99 : decode cX9_headsOf 99 = .ok (.iconst 1, 1) := by decide +kernel
theorem dX9_headsOf_100 : decode cX9_headsOf 100 = .ok (.iadd, 1) := by decide +kernel
theorem dX9_headsOf_101 : decode cX9_headsOf 101 = .ok (.iconst 2, 1) := by decide +kernel
theorem dX9_headsOf_102 : decode cX9_headsOf 102 = .ok (.idiv, 1) := by decide +kernel
theorem dX9_headsOf_103 : decode cX9_headsOf 103 = .ok (.ireturn, 1) := by decide +kernel
theorem dX9_headsOf_104 : decode cX9_headsOf 104 = .ok (.iload_n 3, 1) := by decide +kernel
theorem dX9_headsOf_105 : decode cX9_headsOf 105 = .ok (.ireturn, 1) := by decide +kernel
theorem dX9_headsOf_106 : decode cX9_headsOf 106 = .ok (.iload_n 3, 1) := by decide +kernel
theorem dX9_headsOf_107 : decode cX9_headsOf 107 = .ok (.iconst 1, 1) := by decide +kernel
theorem dX9_headsOf_108 : decode cX9_headsOf 108 = .ok (.iadd, 1) := by decide +kernel
theorem dX9_headsOf_109 : decode cX9_headsOf 109 = .ok (.ireturn, 1) := by decide +kernel
theorem dX9_headsOf_110 : decode cX9_headsOf 110 = .ok (.aload_n 0, 1) := by decide +kernel
theorem dX9_headsOf_111 : decode cX9_headsOf 111 = .ok (.getfield 56, 3) := by decide +kernel
theorem dX9_headsOf_114 : decode cX9_headsOf 114 = .ok (.iload_n 1, 1) := by decide +kernel
theorem dX9_headsOf_115 : decode cX9_headsOf 115 = .ok (.iaload, 1) := by decide +kernel
theorem dX9_headsOf_116 : decode cX9_headsOf 116 = .ok (.aload_n 0, 1) := by decide +kernel
theorem dX9_headsOf_117 : decode cX9_headsOf 117 = .ok (.getfield 53, 3) := by decide +kernel
theorem dX9_headsOf_120 : decode cX9_headsOf 120 = .ok (.iload_n 1, 1) := by decide +kernel
theorem dX9_headsOf_121 : decode cX9_headsOf 121 = .ok (.iaload, 1) := by decide +kernel
theorem dX9_headsOf_122 : decode cX9_headsOf 122 = .ok (.iadd, 1) := by decide +kernel
theorem dX9_headsOf_123 : decode cX9_headsOf 123 = .ok (.ireturn, 1) := by decide +kernel
theorem dX9_headsOf_124 : decode cX9_headsOf 124 = .ok (.aload_n 0, 1) := by decide +kernel
theorem dX9_headsOf_125 : decode cX9_headsOf 125 = .ok (.getfield 56, 3) := by decide +kernel
theorem dX9_headsOf_128 : decode cX9_headsOf 128 = .ok (.iload_n 1, 1) := by decide +kernel
theorem dX9_headsOf_129 : decode cX9_headsOf 129 = .ok (.iaload, 1) := by decide +kernel
theorem dX9_headsOf_130 : decode cX9_headsOf 130 = .ok (.ireturn, 1) := by decide +kernel
set_option maxRecDepth 20000 in
theorem ggX9_isGroup_X9_in : GoodIn wsX9_isGroup wsX9_in := goodIn_r _ [5] (by decide +kernel) (by decide +kernel)
set_option maxRecDepth 20000 in
theorem gX9_isGroup_X9_in : GoodIn wsX9_isGroup (va_wsS RX9 96 yX9_in wsX9_in) := goodIn_app (goodIn_of _ (by decide +kernel)) ggX9_isGroup_X9_in
theorem dX9_isGroup_0 : decode cX9_isGroup 0 = .ok (.lload_n 1, 1) := by decide +kernel
theorem dX9_isGroup_1 : decode cX9_isGroup 1 = .ok (.lconst 0, 1) := by decide +kernel
theorem dX9_isGroup_2 : decode cX9_isGroup 2 = .ok (.iconst 1, 1) := by decide +kernel
theorem dX9_isGroup_3 : decode cX9_isGroup 3 = .ok (.aload_n 0, 1) := by decide +kernel
theorem dX9_isGroup_4 : decode cX9_isGroup 4 = .ok (.getfield 93, 3) := by decide +kernel
theorem dX9_isGroup_7 : decode cX9_isGroup 7 = .ok (.ishl, 1) := by decide +kernel
theorem dX9_isGroup_8 : decode cX9_isGroup 8 = .ok (.iconst 1, 1) := by decide +kernel
theorem dX9_isGroup_9 : decode cX9_isGroup 9 = .ok (.isub, 1) := by decide +kernel
theorem dX9_isGroup_10 : decode cX9_isGroup 10 = .ok (.i2l, 1) := by decide +kernel
theorem dX9_isGroup_11 : decode cX9_isGroup 11 = .ok (.invokestatic 96, 3) := by decide +kernel
theorem dX9_isGroup_14 : decode cX9_isGroup 14 = .ok (.ireturn, 1) := by decide +kernel
set_option maxRecDepth 20000 in
theorem ggX9_headsTogether_X9_headsOf : GoodIn wsX9_headsTogether wsX9_headsOf := goodIn_r _ [6, 7, 8, 9, 10, 11, 12, 13, 14, 15, 16, 17, 18, 19, 20, 21, 22, 23, 24, 25, 26, 27, 28, 29, 30, 31, 32, 33, 34, 35, 36, 37, 38, 39, 40, 41, 42, 43, 44, 45, 46, 47, 48, 49, 50, 51, 52] (by decide +kernel) (by decide +kernel)
set_option maxRecDepth 20000 in
theorem gX9_headsTogether_X9_headsOf : GoodIn wsX9_headsTogether (wsV RX9 130 RX9 yX9_headsOf wsX9_headsOf) := goodIn_app (goodIn_of _ (by decide +kernel)) ggX9_headsTogether_X9_headsOf
theorem dX9_headsTogether_0 : decode cX9_headsTogether 0 = .ok (.iconst 0, 1) := by decide +kernel
theorem dX9_headsTogether_1 : decode cX9_headsTogether 1 = .ok (.istore_n 2, 1) := by decide +kernel
theorem dX9_headsTogether_2 : decode cX9_headsTogether 2 = .ok (.iconst 0, 1) := by decide +kernel
theorem dX9_headsTogether_3 : decode cX9_headsTogether 3 = .ok (.istore_n 3, 1) := by decide +kernel
theorem dX9_headsTogether_4 : decode cX9_headsTogether 4 = .ok (.iload_n 3, 1) := by decide +kernel
theorem dX9_headsTogether_5 : decode cX9_headsTogether 5 = .ok (.aload_n 0, 1) := by decide +kernel
theorem dX9_headsTogether_6 : decode cX9_headsTogether 6 = .ok (.getfield 93, 3) := by decide +kernel
theorem dX9_headsTogether_9 : decode cX9_headsTogether 9 = .ok (.if_icmp .ge 30, 3) := by decide +kernel
theorem dX9_headsTogether_12 : decode cX9_headsTogether 12 = .ok (.iload_n 2, 1) := by decide +kernel
theorem dX9_headsTogether_13 : decode cX9_headsTogether 13 = .ok (.iload_n 1, 1) := by decide +kernel
theorem dX9_headsTogether_14 : decode cX9_headsTogether 14 = .ok (.iload_n 3, 1) := by decide +kernel
theorem dX9_headsTogether_15 : decode cX9_headsTogether 15 = .ok (.ishr, 1) := by decide +kernel
theorem dX9_headsTogether_16 : decode cX9_headsTogether 16 = .ok (.iconst 1, 1) := by decide +kernel
theorem dX9_headsTogether_17 : decode cX9_headsTogether 17 = .ok (.iand, 1) := by decide +kernel
theorem dX9_headsTogether_18 : decode cX9_headsTogether 18 = .ok (.iconst 1, 1) := by decide +kernel
theorem dX9_headsTogether_19 : decode cX9_headsTogether 19 = .ok (.if_icmp .ne 11, 3) := by decide +kernel
theorem dX9_headsTogether_22 : decode cX9_headsTogether 22 = .ok (.aload_n 0, 1) := by decide +kernel
theorem dX9_headsTogether_23 : decode cX9_headsTogether 23 = .ok (.iload_n 3, 1) := by decide +kernel
theorem dX9_headsTogether_24 : decode cX9_headsTogether 24 = .ok (.invokevirtual 130, 3) := by decide +kernel
theorem dX9_headsTogether_27 : decode cX9_headsTogether 27 = .ok (.goto 4, 3) := by decide +kernel
theorem dX9_headsTogether_30 : decode cX9_headsTogether 30 = .ok (.iconst 0, 1) := by decide +kernel
theorem dX9_headsTogether_31 : decode cX9_headsTogether 31 = .ok (.iadd, 1) := by decide +kernel
theorem dX9_headsTogether_32 : decode cX9_headsTogether 32 = .ok (.istore_n 2, 1) := by decide +kernel
theorem dX9_headsTogether_33 : decode cX9_headsTogether 33 = .ok (.iinc 3 1, 3) := by decide +kernel
theorem dX9_headsTogether_36 : decode cX9_headsTogether 36 = .ok (.goto (-32), 3) := by decide +kernel
theorem dX9_headsTogether_39 : decode cX9_headsTogether 39 = .ok (.iload_n 2, 1) := by decide +kernel
theorem dX9_headsTogether_40 : decode cX9_headsTogether 40 = .ok (.ireturn, 1) := by decide +kernel
theorem dX9_maySit_0 : decode cX9_maySit 0 = .ok (.iload_n 1, 1) := by decide +kernel
theorem dX9_maySit_1 : decode cX9_maySit 1 = .ok (.ifCond .eq 12, 3) := by decide +kernel
theorem dX9_maySit_4 : decode cX9_maySit 4 = .ok (.iload_n 1, 1) := by decide +kernel
theorem dX9_maySit_5 : decode cX9_maySit 5 = .ok (.aload_n 0, 1) := by decide +kernel
theorem dX9_maySit_6 : decode cX9_maySit 6 = .ok (.getfield 100, 3) := by decide +kernel
theorem dX9_maySit_9 : decode cX9_maySit 9 = .ok (.iand, 1) := by decide +kernel
theorem dX9_maySit_10 : decode cX9_maySit 10 = .ok (.ifCond .eq 5, 3) := by decide +kernel
theorem dX9_maySit_13 : decode cX9_maySit 13 = .ok (.iconst 0, 1) := by decide +kernel
theorem dX9_maySit_14 : decode cX9_maySit 14 = .ok (.ireturn, 1) := by decide +kernel
theorem dX9_maySit_15 : decode cX9_maySit 15 = .ok (.iconst 0, 1) := by decide +kernel
theorem dX9_maySit_16 : decode cX9_maySit 16 = .ok (.istore_n 2, 1) := by decide +kernel
theorem dX9_maySit_17 : decode cX9_maySit 17 = .ok (.iload_n 2, 1) := by decide +kernel
theorem dX9_maySit_18 : decode cX9_maySit 18 = .ok (.aload_n 0, 1) := by decide +kernel
theorem dX9_maySit_19 : decode cX9_maySit 19 = .ok (.getfield 93, 3) := by decide +kernel
theorem dX9_maySit_22 : decode cX9_maySit 22 = .ok (.if_icmp .ge 61, 3) := by decide +kernel
theorem dX9_maySit_25 : decode cX9_maySit 25 = .ok (.iload_n 1, 1) := by decide +kernel
theorem dX9_maySit_26 : decode cX9_maySit 26 = .ok (.iload_n 2, 1) := by decide +kernel
theorem dX9_maySit_27 : decode cX9_maySit 27 = .ok (.ishr, 1) := by decide +kernel
theorem dX9_maySit_28 : decode cX9_maySit 28 = .ok (.iconst 1, 1) := by decide +kernel
theorem dX9_maySit_29 : decode cX9_maySit 29 = .ok (.iand, 1) := by decide +kernel
theorem dX9_maySit_30 : decode cX9_maySit 30 = .ok (.iconst 1, 1) := by decide +kernel
theorem dX9_maySit_31 : decode cX9_maySit 31 = .ok (.if_icmp .ne 7, 3) := by decide +kernel
theorem dX9_maySit_34 : decode cX9_maySit 34 = .ok (.iconst 1, 1) := by decide +kernel
theorem dX9_maySit_35 : decode cX9_maySit 35 = .ok (.goto 4, 3) := by decide +kernel
theorem dX9_maySit_38 : decode cX9_maySit 38 = .ok (.iconst 0, 1) := by decide +kernel
theorem dX9_maySit_39 : decode cX9_maySit 39 = .ok (.istore_n 3, 1) := by decide +kernel
theorem dX9_maySit_40 : decode cX9_maySit 40 = .ok (.iload_n 3, 1) := by decide +kernel
theorem dX9_maySit_41 : decode cX9_maySit 41 = .ok (.ifCond .eq 36, 3) := by decide +kernel
theorem dX9_maySit_44 : decode cX9_maySit 44 = .ok (.aload_n 0, 1) := by decide +kernel
theorem dX9_maySit_45 : decode cX9_maySit 45 = .ok (.getfield 65, 3) := by decide +kernel
theorem dX9_maySit_48 : decode cX9_maySit 48 = .ok (.iload_n 2, 1) := by decide +kernel
theorem dX9_maySit_49 : decode cX9_maySit 49 = .ok (.iaload, 1) := by decide +kernel
theorem dX9_maySit_50 : decode cX9_maySit 50 = .ok (.iload_n 1, 1) := by decide +kernel
theorem dX9_maySit_51 : decode cX9_maySit 51 = .ok (.iand, 1) := by decide +kernel
theorem dX9_maySit_52 : decode cX9_maySit 52 = .ok (.ifCond .ne 23, 3) := by decide +kernel
theorem dX9_maySit_55 : decode cX9_maySit 55 = .ok (.aload_n 0, 1) := by decide +kernel
theorem dX9_maySit_56 : decode cX9_maySit 56 = .ok (.getfield 62, 3) := by decide +kernel
theorem dX9_maySit_59 : decode cX9_maySit 59 = .ok (.iload_n 2, 1) := by decide +kernel
theorem dX9_maySit_60 : decode cX9_maySit 60 = .ok (.iaload, 1) := by decide +kernel
theorem dX9_maySit_61 : decode cX9_maySit 61 = .ok (.iload_n 1, 1) := by decide +kernel
theorem dX9_maySit_62 : decode cX9_maySit 62 = .ok (.iconst (-1), 1) := by decide +kernel
theorem dX9_maySit_63 : decode cX9_maySit 63 = .ok (.ixor, 1) := by decide +kernel
theorem dX9_maySit_64 : decode cX9_maySit 64 = .ok (.iand, 1) := by decide +kernel
theorem dX9_maySit_65 : decode cX9_maySit 65 = .ok (.aload_n 0, 1) := by decide +kernel
theorem dX9_maySit_66 : decode cX9_maySit 66 = .ok (.getfield 100, 3) := by decide +kernel
theorem dX9_maySit_69 : decode cX9_maySit 69 = .ok (.iconst (-1), 1) := by decide +kernel
theorem dX9_maySit_70 : decode cX9_maySit 70 = .ok (.ixor, 1) := by decide +kernel
theorem dX9_maySit_71 : decode cX9_maySit 71 = .ok (.iand, 1) := by decide +kernel
theorem dX9_maySit_72 : decode cX9_maySit 72 = .ok (.ifCond .eq 5, 3) := by decide +kernel
theorem dX9_maySit_75 : decode cX9_maySit 75 = .ok (.iconst 0, 1) := by decide +kernel
theorem dX9_maySit_76 : decode cX9_maySit 76 = .ok (.ireturn, 1) := by decide +kernel
theorem dX9_maySit_77 : decode cX9_maySit 77 = .ok (.iinc 2 1, 3) := by decide +kernel
theorem dX9_maySit_80 : decode cX9_maySit 80 = .ok (.goto (-63), 3) := by decide +kernel
theorem dX9_maySit_83 : decode cX9_maySit 83 = .ok (.iconst 1, 1) := by decide +kernel
theorem dX9_maySit_84 : decode cX9_maySit 84 = .ok (.ireturn, 1) := by decide +kernel
set_option maxRecDepth 20000 in
theorem ggX9_hireUpTo_X9_maySit : GoodIn wsX9_hireUpTo wsX9_maySit := goodIn_r _ [5, 6, 7, 8, 9, 37, 38, 39, 40, 41, 42, 43, 44, 45, 46, 47, 48, 49, 50, 51, 52, 53, 54, 55, 56, 57, 58, 59, 60, 61, 62, 63, 64, 65, 66, 67, 68, 69, 70, 71, 72, 73, 74, 75, 76, 77, 78] (by decide +kernel) (by decide +kernel)
set_option maxRecDepth 20000 in
theorem gX9_hireUpTo_X9_maySit : GoodIn wsX9_hireUpTo (wsV RX9 269 RX9 yX9_maySit wsX9_maySit) := goodIn_app (goodIn_of _ (by decide +kernel)) ggX9_hireUpTo_X9_maySit
set_option maxRecDepth 20000 in
theorem ggX9_hireUpTo_X9_headsTogether : GoodIn wsX9_hireUpTo wsX9_headsTogether := goodIn_r _ [13, 7, 14, 15, 16, 4, 17, 18, 19, 20, 21, 37, 38, 39, 40, 41, 42, 43, 44, 45, 46, 47, 48, 49, 50, 51, 52, 53, 54, 55, 56, 57, 58, 59, 60, 61, 62, 63, 64, 65, 66, 67, 68, 69, 70, 71, 72, 73, 74, 75, 76, 77, 78] (by decide +kernel) (by decide +kernel)
set_option maxRecDepth 20000 in
theorem gX9_hireUpTo_X9_headsTogether : GoodIn wsX9_hireUpTo (wsV RX9 272 RX9 yX9_headsTogether wsX9_headsTogether) := goodIn_app (goodIn_of _ (by decide +kernel)) ggX9_hireUpTo_X9_headsTogether
set_option maxRecDepth 20000 in
theorem ggX9_hireUpTo_X9_goesNow : GoodIn wsX9_hireUpTo wsX9_goesNow := goodIn_r _ [25, 26, 27, 28, 29, 4, 30, 31, 32, 33, 34, 35, 36, 37, 38, 39, 40, 41, 42, 43, 44, 45, 46, 47, 48, 49, 50, 51, 52, 53, 54, 55, 56, 57, 58, 59, 60, 61, 62, 63, 64, 65, 66, 67, 68, 69, 70, 71, 72, 73, 74, 75, 76, 77, 78] (by decide +kernel) (by decide +kernel)
set_option maxRecDepth 20000 in
theorem gX9_hireUpTo_X9_goesNow : GoodIn wsX9_hireUpTo (wsV RX9 261 RX9 yX9_goesNow wsX9_goesNow) := goodIn_app (goodIn_of _ (by decide +kernel)) ggX9_hireUpTo_X9_goesNow
theorem dX9_hireUpTo_0 : decode cX9_hireUpTo 0 = .ok (.aload_n 0, 1) := by decide +kernel
theorem dX9_hireUpTo_1 : decode cX9_hireUpTo 1 = .ok (.iload_n 1, 1) := by decide +kernel
theorem dX9_hireUpTo_2 : decode cX9_hireUpTo 2 = .ok (.invokevirtual 269, 3) := by decide +kernel
theorem dX9_hireUpTo_5 : decode cX9_hireUpTo 5 = .ok (.ifCond .ne 5, 3) := by decide +kernel
theorem dX9_hireUpTo_8 : decode cX9_hireUpTo 8 = .ok (.iconst (-1), 1) := by decide +kernel
theorem dX9_hireUpTo_9 : decode cX9_hireUpTo 9 = .ok (.ireturn, 1) := by decide +kernel
theorem dX9_hireUpTo_10 : decode cX9_hireUpTo 10 = .ok (.aload_n 0, 1) := by decide +kernel
theorem dX9_hireUpTo_11 : decode cX9_hireUpTo 11 = .ok (.iload_n 1, 1) := by decide +kernel
theorem dX9_hireUpTo_12 : decode cX9_hireUpTo 12 = .ok (.invokevirtual 272, 3) := by decide +kernel
theorem dX9_hireUpTo_15 : decode cX9_hireUpTo 15 = .ok (.istore_n 3, 1) := by decide +kernel
theorem dX9_hireUpTo_16 : decode cX9_hireUpTo 16 = .ok (.iconst 0, 1) := by decide +kernel
theorem dX9_hireUpTo_17 : decode cX9_hireUpTo 17 = .ok (.istore 4, 2) := by decide +kernel
theorem dX9_hireUpTo_19 : decode cX9_hireUpTo 19 = .ok (.iload 4, 2) := by decide +kernel
theorem dX9_hireUpTo_21 : decode cX9_hireUpTo 21 = .ok (.iload_n 2, 1) := by decide +kernel
theorem dX9_hireUpTo_22 : decode cX9_hireUpTo 22 = .ok (.if_icmp .gt 24, 3) := by decide +kernel
theorem dX9_hireUpTo_25 : decode cX9_hireUpTo 25 = .ok (.aload_n 0, 1) := by decide +kernel
theorem dX9_hireUpTo_26 : decode cX9_hireUpTo 26 = .ok (.iload_n 3, 1) := by decide +kernel
theorem dX9_hireUpTo_27 : decode cX9_hireUpTo 27 = .ok (.iload 4, 2) := by decide +kernel
theorem dX9_hireUpTo_29 : decode cX9_hireUpTo 29 = .ok (.iadd, 1) := by decide +kernel
theorem dX9_hireUpTo_30 : decode cX9_hireUpTo 30 = .ok (.i2l, 1) := by decide +kernel
theorem dX9_hireUpTo_31 : decode cX9_hireUpTo 31 = .ok (.invokevirtual 261, 3) := by decide +kernel
theorem dX9_hireUpTo_34 : decode cX9_hireUpTo 34 = .ok (.ifCond .eq 6, 3) := by decide +kernel
theorem dX9_hireUpTo_37 : decode cX9_hireUpTo 37 = .ok (.iload 4, 2) := by decide +kernel
theorem dX9_hireUpTo_39 : decode cX9_hireUpTo 39 = .ok (.ireturn, 1) := by decide +kernel
theorem dX9_hireUpTo_40 : decode cX9_hireUpTo 40 = .ok (.iinc 4 1, 3) := by decide +kernel
theorem dX9_hireUpTo_43 : decode cX9_hireUpTo 43 = .ok (.goto (-24), 3) := by decide +kernel
theorem dX9_hireUpTo_46 : decode cX9_hireUpTo 46 = .ok (.iconst (-1), 1) := by decide +kernel
theorem dX9_hireUpTo_47 : decode cX9_hireUpTo 47 = .ok (.ireturn, 1) := by decide +kernel
set_option maxRecDepth 20000 in
theorem ggX9_hireOf_X9_hireUpTo : GoodIn wsX9_hireOf wsX9_hireUpTo := goodIn_r _ [6, 7, 8, 9, 5, 10, 11, 12, 13, 14, 15, 16, 17, 18, 19, 20, 21, 22, 23, 24, 25, 26, 27, 28, 29, 30, 31, 32, 33, 34, 35, 36, 37, 38, 39, 40, 41, 42, 43, 44, 45, 46, 47, 48, 49, 50, 51, 52, 53, 54, 55, 56, 57, 58, 59, 60, 61, 62, 63, 64, 65, 66, 67, 68, 69, 70, 71, 72, 73, 74, 75, 76, 77, 78, 79, 80, 81, 82, 83] (by decide +kernel) (by decide +kernel)
set_option maxRecDepth 20000 in
theorem gX9_hireOf_X9_hireUpTo : GoodIn wsX9_hireOf (wsV RX9 275 RX9 yX9_hireUpTo wsX9_hireUpTo) := goodIn_app (goodIn_of _ (by decide +kernel)) ggX9_hireOf_X9_hireUpTo
theorem dX9_hireOf_0 : decode cX9_hireOf 0 = .ok (.aload_n 0, 1) := by decide +kernel
theorem dX9_hireOf_1 : decode cX9_hireOf 1 = .ok (.iload_n 1, 1) := by decide +kernel
theorem dX9_hireOf_2 : decode cX9_hireOf 2 = .ok (.aload_n 0, 1) := by decide +kernel
theorem dX9_hireOf_3 : decode cX9_hireOf 3 = .ok (.getfield 44, 3) := by decide +kernel
theorem dX9_hireOf_6 : decode cX9_hireOf 6 = .ok (.invokevirtual 275, 3) := by decide +kernel
theorem dX9_hireOf_9 : decode cX9_hireOf 9 = .ok (.ireturn, 1) := by decide +kernel
set_option maxRecDepth 20000 in
theorem ggX9_partyOf_X9_isParty : GoodIn wsX9_partyOf wsX9_isParty := goodIn_r _ [12, 13, 14, 15, 11, 16, 32, 33, 34, 35, 36, 37, 38, 39, 40, 41, 42, 43, 44, 45, 46, 47, 48, 49, 50, 51, 52, 53, 54, 55, 56, 57, 58, 59, 60, 61, 62, 63, 64, 65, 66, 67, 68, 69, 70, 71, 72, 73] (by decide +kernel) (by decide +kernel)
set_option maxRecDepth 20000 in
theorem gX9_partyOf_X9_isParty : GoodIn wsX9_partyOf (wsV RX9 120 RX9 yX9_isParty wsX9_isParty) := goodIn_app (goodIn_of _ (by decide +kernel)) ggX9_partyOf_X9_isParty
set_option maxRecDepth 20000 in
theorem ggX9_partyOf_X9_in : GoodIn wsX9_partyOf wsX9_in := goodIn_r _ [16] (by decide +kernel) (by decide +kernel)
set_option maxRecDepth 20000 in
theorem gX9_partyOf_X9_in : GoodIn wsX9_partyOf (va_wsS RX9 96 yX9_in wsX9_in) := goodIn_app (goodIn_of _ (by decide +kernel)) ggX9_partyOf_X9_in
set_option maxRecDepth 20000 in
theorem ggX9_partyOf_X9_refuse : GoodIn wsX9_partyOf wsX9_refuse := goodIn_r _ [20, 21, 32, 33, 34, 35, 36, 37, 38, 39, 40, 41, 42, 43, 44, 45, 46, 47, 48, 49, 50, 51, 52, 53, 54, 55, 56, 57, 58, 59, 60, 61, 62, 63, 64, 65, 66, 67, 68, 69, 70, 71, 72, 73] (by decide +kernel) (by decide +kernel)
set_option maxRecDepth 20000 in
theorem gX9_partyOf_X9_refuse : GoodIn wsX9_partyOf (wsV RX9 109 RX9 yX9_refuse wsX9_refuse) := goodIn_app (goodIn_of _ (by decide +kernel)) ggX9_partyOf_X9_refuse
set_option maxRecDepth 20000 in
theorem ggX9_partyOf_X9_headsOf : GoodIn wsX9_partyOf wsX9_headsOf := goodIn_r _ [25, 4, 26, 3, 2, 32, 33, 34, 35, 36, 37, 38, 39, 40, 41, 42, 43, 44, 45, 46, 47, 48, 49, 50, 51, 52, 53, 54, 55, 56, 57, 58, 59, 60, 61, 62, 63, 64, 65, 66, 67, 68, 69, 70, 71, 72, 73] (by decide +kernel) (by decide +kernel)
set_option maxRecDepth 20000 in
theorem gX9_partyOf_X9_headsOf : GoodIn wsX9_partyOf (wsV RX9 130 RX9 yX9_headsOf wsX9_headsOf) := goodIn_app (goodIn_of _ (by decide +kernel)) ggX9_partyOf_X9_headsOf
set_option maxRecDepth 20000 in
theorem ggX9_partyOf_X9_isOver : GoodIn wsX9_partyOf wsX9_isOver := goodIn_r _ [30, 31, 32, 33, 34, 35, 36, 37, 38, 39, 40, 41, 42, 43, 44, 45, 46, 47, 48, 49, 50, 51, 52, 53, 54, 55, 56, 57, 58, 59, 60, 61, 62, 63, 64, 65, 66, 67, 68, 69, 70, 71, 72, 73] (by decide +kernel) (by decide +kernel)
set_option maxRecDepth 20000 in
theorem gX9_partyOf_X9_isOver : GoodIn wsX9_partyOf (wsV RX9 278 RX9 yX9_isOver wsX9_isOver) := goodIn_app (goodIn_of _ (by decide +kernel)) ggX9_partyOf_X9_isOver
theorem dX9_partyOf_0 : decode cX9_partyOf 0 = .ok (.aload_n 0, 1) := by decide +kernel
theorem dX9_partyOf_1 : decode cX9_partyOf 1 = .ok (.iload_n 1, 1) := by decide +kernel
theorem dX9_partyOf_2 : decode cX9_partyOf 2 = .ok (.invokevirtual 120, 3) := by decide +kernel
theorem dX9_partyOf_5 : decode cX9_partyOf 5 = .ok (.ifCond .eq 15, 3) := by decide +kernel
theorem dX9_partyOf_8 : decode cX9_partyOf 8 = .ok (.iload_n 2, 1) := by decide +kernel
theorem dX9_partyOf_9 : decode cX9_partyOf 9 = .ok (.i2l, 1) := by decide +kernel
theorem dX9_partyOf_10 : decode cX9_partyOf 10 = .ok (.lconst 0, 1) := by decide +kernel
theorem dX9_partyOf_11 : decode cX9_partyOf 11 = .ok (.ldc2_w 103, 3) := by decide +kernel
theorem dX9_partyOf_14 : decode cX9_partyOf 14 = .ok (.invokestatic 96, 3) := by decide +kernel
theorem dX9_partyOf_17 : decode cX9_partyOf 17 = .ok (.ifCond .ne 11, 3) := by decide +kernel
theorem dX9_partyOf_20 : decode cX9_partyOf 20 = .ok (.aload_n 0, 1) := by decide +kernel
theorem dX9_partyOf_21 : decode cX9_partyOf 21 = .ok (.sipush (-1002), 3) := by decide +kernel
theorem dX9_partyOf_24 : decode cX9_partyOf 24 = .ok (.invokevirtual 109, 3) := by decide +kernel
theorem dX9_partyOf_27 : decode cX9_partyOf 27 = .ok (.ireturn, 1) := by decide +kernel
theorem dX9_partyOf_28 : decode cX9_partyOf 28 = .ok (.iload_n 2, 1) := by decide +kernel
theorem dX9_partyOf_29 : decode cX9_partyOf 29 = .ok (.tableswitch 98 0 6 #[43, 50, 57, 64, 71, 77, 91], 43) := by decide +kernel
theorem dX9_partyOf_72 : decode cX9_partyOf 72 = .ok (.aload_n 0, 1) := by decide +kernel
theorem dX9_partyOf_73 : decode cX9_partyOf 73 = .ok (.getfield 50, 3) := by decide +kernel
theorem dX9_partyOf_76 : decode cX9_partyOf 76 = .ok (.iload_n 1, 1) := by decide +kernel
theorem dX9_partyOf_77 : decode cX9_partyOf 77 = .ok (.iaload, 1) := by decide +kernel
theorem dX9_partyOf_78 : decode cX9_partyOf 78 = .ok (.ireturn, 1) := by decide +kernel
theorem dX9_partyOf_79 : decode cX9_partyOf 79 = .ok (.aload_n 0, 1) := by decide +kernel
theorem dX9_partyOf_80 : decode cX9_partyOf 80 = .ok (.getfield 53, 3) := by decide +kernel
theorem dX9_partyOf_83 : decode cX9_partyOf 83 = .ok (.iload_n 1, 1) := by decide +kernel
theorem dX9_partyOf_84 : decode cX9_partyOf 84 = .ok (.iaload, 1) := by decide +kernel
theorem dX9_partyOf_85 : decode cX9_partyOf 85 = .ok (.ireturn, 1) := by decide +kernel
theorem dX9_partyOf_86 : decode cX9_partyOf 86 = .ok (.aload_n 0, 1) := by decide +kernel
theorem dX9_partyOf_87 : decode cX9_partyOf 87 = .ok (.getfield 56, 3) := by decide +kernel
theorem dX9_partyOf_90 : decode cX9_partyOf 90 = .ok (.iload_n 1, 1) := by decide +kernel
theorem dX9_partyOf_91 : decode cX9_partyOf 91 = .ok (.iaload, 1) := by decide +kernel
theorem dX9_partyOf_92 : decode cX9_partyOf 92 = .ok (.ireturn, 1) := by decide +kernel
theorem dX9_partyOf_93 : decode cX9_partyOf 93 = .ok (.aload_n 0, 1) := by decide +kernel
theorem dX9_partyOf_94 : decode cX9_partyOf 94 = .ok (.getfield 59, 3) := by decide +kernel
theorem dX9_partyOf_97 : decode cX9_partyOf 97 = .ok (.iload_n 1, 1) := by decide +kernel
theorem dX9_partyOf_98 : decode cX9_partyOf 98 = .ok (.iaload, 1) := by decide +kernel
theorem dX9_partyOf_99 : decode cX9_partyOf 99 = .ok (.ireturn, 1) := by decide +kernel
theorem dX9_partyOf_100 : decode cX9_partyOf 100 = .ok (.aload_n 0, 1) := by decide +kernel
theorem dX9_partyOf_101 : decode cX9_partyOf 101 = .ok (.iload_n 1, 1) := by decide +kernel
theorem dX9_partyOf_102 : decode cX9_partyOf 102 = .ok (.invokevirtual 130, 3) := by decide +kernel
theorem dX9_partyOf_105 : decode cX9_partyOf 105 = .ok (.ireturn, 1) := by decide +kernel
