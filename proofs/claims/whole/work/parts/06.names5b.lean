theorem dX5_brown_0 : decode cX5_brown 0 = .ok (.aload_n 0, 1) := by decide +kernel
theorem dX5_brown_1 : decode cX5_brown 1 = .ok (.getfield 23, 3) := by decide +kernel
theorem dX5_brown_4 : decode cX5_brown 4 = .ok (.bipush 65, 2) := by decide +kernel
theorem dX5_brown_6 : decode cX5_brown 6 = .ok (.iaload, 1) := by decide +kernel
theorem dX5_brown_7 : decode cX5_brown 7 = .ok (.istore_n 2, 1) := by decide +kernel
theorem dX5_brown_8 : decode cX5_brown 8 = .ok (.iconst 1, 1) := by decide +kernel
theorem dX5_brown_9 : decode cX5_brown 9 = .ok (.istore_n 3, 1) := by decide +kernel
theorem dX5_brown_10 : decode cX5_brown 10 = .ok (.iload_n 3, 1) := by decide +kernel
theorem dX5_brown_11 : decode cX5_brown 11 = .ok (.iconst 4, 1) := by decide +kernel
theorem dX5_brown_12 : decode cX5_brown 12 = .ok (.if_icmp .ge 48, 3) := by decide +kernel
theorem dX5_brown_15 : decode cX5_brown 15 = .ok (.aload_n 0, 1) := by decide +kernel
theorem dX5_brown_16 : decode cX5_brown 16 = .ok (.getfield 23, 3) := by decide +kernel
theorem dX5_brown_19 : decode cX5_brown 19 = .ok (.bipush 65, 2) := by decide +kernel
theorem dX5_brown_21 : decode cX5_brown 21 = .ok (.iload_n 3, 1) := by decide +kernel
theorem dX5_brown_22 : decode cX5_brown 22 = .ok (.iadd, 1) := by decide +kernel
theorem dX5_brown_23 : decode cX5_brown 23 = .ok (.iaload, 1) := by decide +kernel
theorem dX5_brown_24 : decode cX5_brown 24 = .ok (.istore 4, 2) := by decide +kernel
theorem dX5_brown_26 : decode cX5_brown 26 = .ok (.iload 4, 2) := by decide +kernel
theorem dX5_brown_28 : decode cX5_brown 28 = .ok (.iload_n 2, 1) := by decide +kernel
theorem dX5_brown_29 : decode cX5_brown 29 = .ok (.if_icmp .le 7, 3) := by decide +kernel
theorem dX5_brown_32 : decode cX5_brown 32 = .ok (.iconst 1, 1) := by decide +kernel
theorem dX5_brown_33 : decode cX5_brown 33 = .ok (.goto 4, 3) := by decide +kernel
theorem dX5_brown_36 : decode cX5_brown 36 = .ok (.iconst 0, 1) := by decide +kernel
theorem dX5_brown_37 : decode cX5_brown 37 = .ok (.iload_n 1, 1) := by decide +kernel
theorem dX5_brown_38 : decode cX5_brown 38 = .ok (.if_icmp .ne 14, 3) := by decide +kernel
theorem dX5_brown_41 : decode cX5_brown 41 = .ok (.iload 4, 2) := by decide +kernel
theorem dX5_brown_43 : decode cX5_brown 43 = .ok (.iload_n 2, 1) := by decide +kernel
theorem dX5_brown_44 : decode cX5_brown 44 = .ok (.if_icmp .eq 8, 3) := by decide +kernel
theorem dX5_brown_47 : decode cX5_brown 47 = .ok (.iload 4, 2) := by decide +kernel
theorem dX5_brown_49 : decode cX5_brown 49 = .ok (.goto 4, 3) := by decide +kernel
theorem dX5_brown_52 : decode cX5_brown 52 = .ok (.iload_n 2, 1) := by decide +kernel
theorem dX5_brown_53 : decode cX5_brown 53 = .ok (.istore_n 2, 1) := by decide +kernel
theorem dX5_brown_54 : decode cX5_brown 54 = .ok (.iinc 3 1, 3) := by decide +kernel
theorem dX5_brown_57 : decode cX5_brown 57 = .ok (.goto (-47), 3) := by decide +kernel
theorem dX5_brown_60 : decode cX5_brown 60 = .ok (.iload_n 2, 1) := by decide +kernel
theorem dX5_brown_61 : decode cX5_brown 61 = .ok (.ireturn, 1) := by decide +kernel
set_option maxRecDepth 20000 in
theorem ggX5_run_X5_in : GoodIn wsX5_run wsX5_in := goodIn_r _ [11] (by decide +kernel) (by decide +kernel)
set_option maxRecDepth 20000 in
theorem gX5_run_X5_in : GoodIn wsX5_run (va_wsS RX5 58 yX5_in wsX5_in) := goodIn_app (goodIn_of _ (by decide +kernel)) ggX5_run_X5_in
set_option maxRecDepth 20000 in
theorem ggX5_run_X5_fresh : GoodIn wsX5_run wsX5_fresh := goodIn_r _ [15, 4, 3, 5, 6, 7, 16, 17, 18, 10, 19, 20, 59, 60, 61, 62, 63, 64, 65, 66, 67, 68, 69, 70, 71, 72, 73, 74, 75, 76, 77, 78, 79, 80, 81, 82, 83] (by decide +kernel) (by decide +kernel)
set_option maxRecDepth 20000 in
theorem gX5_run_X5_fresh : GoodIn wsX5_run (wsV RX5 198 RX5 yX5_fresh wsX5_fresh) := goodIn_app (goodIn_of _ (by decide +kernel)) ggX5_run_X5_fresh
set_option maxRecDepth 20000 in
theorem ggX5_run_X5_plan : GoodIn wsX5_run wsX5_plan := goodIn_r _ [24, 25, 26, 27, 28, 29, 10, 30, 4, 3, 7, 6, 5, 31, 32, 33, 34, 20, 35, 36, 37, 38, 39, 40, 41, 42, 43, 44, 45, 46, 47, 48, 49, 50, 51, 52, 53, 54, 59, 60, 61, 62, 63, 64, 65, 66, 67, 68, 69, 70, 71, 72, 73, 74, 75, 76, 77, 78, 79, 80, 81, 82, 83] (by decide +kernel) (by decide +kernel)
set_option maxRecDepth 20000 in
theorem gX5_run_X5_plan : GoodIn wsX5_run (wsV RX5 201 RX5 yX5_plan wsX5_plan) := goodIn_app (goodIn_of _ (by decide +kernel)) ggX5_run_X5_plan
set_option maxRecDepth 20000 in
theorem ggX5_run_X5_brown : GoodIn wsX5_run wsX5_brown := goodIn_r _ [58, 4, 59, 60, 61, 62, 63, 64, 65, 66, 67, 68, 69, 70, 71, 72, 73, 74, 75, 76, 77, 78, 79, 80, 81, 82, 83] (by decide +kernel) (by decide +kernel)
set_option maxRecDepth 20000 in
theorem gX5_run_X5_brown : GoodIn wsX5_run (wsV RX5 204 RX5 yX5_brown wsX5_brown) := goodIn_app (goodIn_of _ (by decide +kernel)) ggX5_run_X5_brown
theorem dX5_run_0 : decode cX5_run 0 = .ok (.iload_n 1, 1) := by decide +kernel
theorem dX5_run_1 : decode cX5_run 1 = .ok (.i2l, 1) := by decide +kernel
theorem dX5_run_2 : decode cX5_run 2 = .ok (.lconst 0, 1) := by decide +kernel
theorem dX5_run_3 : decode cX5_run 3 = .ok (.ldc2_w 183, 3) := by decide +kernel
theorem dX5_run_6 : decode cX5_run 6 = .ok (.invokestatic 58, 3) := by decide +kernel
theorem dX5_run_9 : decode cX5_run 9 = .ok (.ifCond .eq 15, 3) := by decide +kernel
theorem dX5_run_12 : decode cX5_run 12 = .ok (.iload_n 2, 1) := by decide +kernel
theorem dX5_run_13 : decode cX5_run 13 = .ok (.i2l, 1) := by decide +kernel
theorem dX5_run_14 : decode cX5_run 14 = .ok (.lconst 0, 1) := by decide +kernel
theorem dX5_run_15 : decode cX5_run 15 = .ok (.ldc2_w 143, 3) := by decide +kernel
theorem dX5_run_18 : decode cX5_run 18 = .ok (.invokestatic 58, 3) := by decide +kernel
theorem dX5_run_21 : decode cX5_run 21 = .ok (.ifCond .ne 5, 3) := by decide +kernel
theorem dX5_run_24 : decode cX5_run 24 = .ok (.iconst (-1), 1) := by decide +kernel
theorem dX5_run_25 : decode cX5_run 25 = .ok (.ireturn, 1) := by decide +kernel
theorem dX5_run_26 : decode cX5_run 26 = .ok (.aload_n 0, 1) := by decide +kernel
theorem dX5_run_27 : decode cX5_run 27 = .ok (.iload_n 1, 1) := by decide +kernel
theorem dX5_run_28 : decode cX5_run 28 = .ok (.invokevirtual 198, 3) := by decide +kernel
theorem dX5_run_31 : decode cX5_run 31 = .ok (.aload_n 0, 1) := by decide +kernel
theorem dX5_run_32 : decode cX5_run 32 = .ok (.iconst 0, 1) := by decide +kernel
theorem dX5_run_33 : decode cX5_run 33 = .ok (.invokevirtual 201, 3) := by decide +kernel
theorem dX5_run_36 : decode cX5_run 36 = .ok (.bipush 60, 2) := by decide +kernel
theorem dX5_run_38 : decode cX5_run 38 = .ok (.istore_n 3, 1) := by decide +kernel
theorem dX5_run_39 : decode cX5_run 39 = .ok (.iload_n 2, 1) := by decide +kernel
theorem dX5_run_40 : decode cX5_run 40 = .ok (.tableswitch 127 0 9 #[56, 61, 71, 81, 87, 93, 102, 112, 117, 122], 56) := by decide +kernel
theorem dX5_run_96 : decode cX5_run 96 = .ok (.aload_n 0, 1) := by decide +kernel
theorem dX5_run_97 : decode cX5_run 97 = .ok (.getfield 30, 3) := by decide +kernel
theorem dX5_run_100 : decode cX5_run 100 = .ok (.ireturn, 1) := by decide +kernel
theorem dX5_run_101 : decode cX5_run 101 = .ok (.aload_n 0, 1) := by decide +kernel
theorem dX5_run_102 : decode cX5_run 102 = .ok (.getfield 23, 3) := by decide +kernel
theorem dX5_run_105 : decode cX5_run 105 = .ok (.iload_n 3, 1) := by decide +kernel
theorem dX5_run_106 : decode cX5_run 106 = .ok (.bipush 13, 2) := by decide +kernel
theorem dX5_run_108 : decode cX5_run 108 = .ok (.iadd, 1) := by decide +kernel
theorem dX5_run_109 : decode cX5_run 109 = .ok (.iaload, 1) := by decide +kernel
theorem dX5_run_110 : decode cX5_run 110 = .ok (.ireturn, 1) := by decide +kernel
theorem dX5_run_111 : decode cX5_run 111 = .ok (.aload_n 0, 1) := by decide +kernel
theorem dX5_run_112 : decode cX5_run 112 = .ok (.getfield 23, 3) := by decide +kernel
theorem dX5_run_115 : decode cX5_run 115 = .ok (.iload_n 3, 1) := by decide +kernel
theorem dX5_run_116 : decode cX5_run 116 = .ok (.bipush 14, 2) := by decide +kernel
theorem dX5_run_118 : decode cX5_run 118 = .ok (.iadd, 1) := by decide +kernel
theorem dX5_run_119 : decode cX5_run 119 = .ok (.iaload, 1) := by decide +kernel
theorem dX5_run_120 : decode cX5_run 120 = .ok (.ireturn, 1) := by decide +kernel
theorem dX5_run_121 : decode cX5_run 121 = .ok (.aload_n 0, 1) := by decide +kernel
theorem dX5_run_122 : decode cX5_run 122 = .ok (.iconst 0, 1) := by decide +kernel
theorem dX5_run_123 : decode cX5_run 123 = .ok (.invokevirtual 204, 3) := by decide +kernel
theorem dX5_run_126 : decode cX5_run 126 = .ok (.ireturn, 1) := by decide +kernel
theorem dX5_run_127 : decode cX5_run 127 = .ok (.aload_n 0, 1) := by decide +kernel
theorem dX5_run_128 : decode cX5_run 128 = .ok (.iconst 1, 1) := by decide +kernel
theorem dX5_run_129 : decode cX5_run 129 = .ok (.invokevirtual 204, 3) := by decide +kernel
theorem dX5_run_132 : decode cX5_run 132 = .ok (.ireturn, 1) := by decide +kernel
theorem dX5_run_133 : decode cX5_run 133 = .ok (.aload_n 0, 1) := by decide +kernel
theorem dX5_run_134 : decode cX5_run 134 = .ok (.getfield 23, 3) := by decide +kernel
theorem dX5_run_137 : decode cX5_run 137 = .ok (.iload_n 3, 1) := by decide +kernel
theorem dX5_run_138 : decode cX5_run 138 = .ok (.iconst 4, 1) := by decide +kernel
theorem dX5_run_139 : decode cX5_run 139 = .ok (.iadd, 1) := by decide +kernel
theorem dX5_run_140 : decode cX5_run 140 = .ok (.iaload, 1) := by decide +kernel
theorem dX5_run_141 : decode cX5_run 141 = .ok (.ireturn, 1) := by decide +kernel
theorem dX5_run_142 : decode cX5_run 142 = .ok (.aload_n 0, 1) := by decide +kernel
theorem dX5_run_143 : decode cX5_run 143 = .ok (.getfield 23, 3) := by decide +kernel
theorem dX5_run_146 : decode cX5_run 146 = .ok (.iload_n 3, 1) := by decide +kernel
theorem dX5_run_147 : decode cX5_run 147 = .ok (.bipush 9, 2) := by decide +kernel
theorem dX5_run_149 : decode cX5_run 149 = .ok (.iadd, 1) := by decide +kernel
theorem dX5_run_150 : decode cX5_run 150 = .ok (.iaload, 1) := by decide +kernel
theorem dX5_run_151 : decode cX5_run 151 = .ok (.ireturn, 1) := by decide +kernel
theorem dX5_run_152 : decode cX5_run 152 = .ok (.aload_n 0, 1) := by decide +kernel
theorem dX5_run_153 : decode cX5_run 153 = .ok (.getfield 191, 3) := by decide +kernel
theorem dX5_run_156 : decode cX5_run 156 = .ok (.ireturn, 1) := by decide +kernel
theorem dX5_run_157 : decode cX5_run 157 = .ok (.aload_n 0, 1) := by decide +kernel
theorem dX5_run_158 : decode cX5_run 158 = .ok (.getfield 188, 3) := by decide +kernel
theorem dX5_run_161 : decode cX5_run 161 = .ok (.ireturn, 1) := by decide +kernel
theorem dX5_run_162 : decode cX5_run 162 = .ok (.aload_n 0, 1) := by decide +kernel
theorem dX5_run_163 : decode cX5_run 163 = .ok (.getfield 185, 3) := by decide +kernel
theorem dX5_run_166 : decode cX5_run 166 = .ok (.ireturn, 1) := by decide +kernel
theorem dX5_run_167 : decode cX5_run 167 = .ok (.aload_n 0, 1) := by decide +kernel
theorem dX5_run_168 : decode cX5_run 168 = .ok (.getfield 30, 3) := by decide +kernel
theorem dX5_run_171 : decode cX5_run 171 = .ok (.ifCond .lt 21, 3) := by decide +kernel
theorem dX5_run_174 : decode cX5_run 174 = .ok (.aload_n 0, 1) := by decide +kernel
theorem dX5_run_175 : decode cX5_run 175 = .ok (.getfield 185, 3) := by decide +kernel
theorem dX5_run_178 : decode cX5_run 178 = .ok (.ifCond .lt 14, 3) := by decide +kernel
theorem dX5_run_181 : decode cX5_run 181 = .ok (.aload_n 0, 1) := by decide +kernel
theorem dX5_run_182 : decode cX5_run 182 = .ok (.getfield 185, 3) := by decide +kernel
theorem dX5_run_185 : decode cX5_run 185 = .ok (.aload_n 0, 1) := by decide +kernel
theorem dX5_run_186 : decode cX5_run 186 = .ok (.getfield 30, 3) := by decide +kernel
theorem dX5_run_189 : decode cX5_run 189 = .ok (.if_icmp .le 8, 3) := by decide +kernel
theorem dX5_run_192 : decode cX5_run 192 = .ok (.bipush (-9), 2) := by decide +kernel
theorem dX5_run_194 : decode cX5_run 194 = .ok (.goto 12, 3) := by decide +kernel
theorem dX5_run_197 : decode cX5_run 197 = .ok (.aload_n 0, 1) := by decide +kernel
theorem dX5_run_198 : decode cX5_run 198 = .ok (.getfield 30, 3) := by decide +kernel
theorem dX5_run_201 : decode cX5_run 201 = .ok (.aload_n 0, 1) := by decide +kernel
theorem dX5_run_202 : decode cX5_run 202 = .ok (.getfield 185, 3) := by decide +kernel
theorem dX5_run_205 : decode cX5_run 205 = .ok (.isub, 1) := by decide +kernel
theorem dX5_run_206 : decode cX5_run 206 = .ok (.ireturn, 1) := by decide +kernel
set_option maxRecDepth 20000 in
theorem ggX5_odds_X5_fresh : GoodIn wsX5_odds wsX5_fresh := goodIn_r _ [7, 8, 1, 9, 10, 11, 12, 13, 14, 6, 15, 2, 50, 51, 52, 53, 54, 55, 56, 57, 58, 59, 60, 61, 62, 63, 64, 65, 66, 67, 68, 69, 70, 71, 72, 73, 74] (by decide +kernel) (by decide +kernel)
set_option maxRecDepth 20000 in
theorem gX5_odds_X5_fresh : GoodIn wsX5_odds (wsV RX5 198 RX5 yX5_fresh wsX5_fresh) := goodIn_app (goodIn_of _ (by decide +kernel)) ggX5_odds_X5_fresh
set_option maxRecDepth 20000 in
theorem ggX5_odds_X5_plan : GoodIn wsX5_odds wsX5_plan := goodIn_r _ [19, 20, 21, 22, 23, 24, 6, 25, 8, 1, 11, 10, 9, 26, 27, 28, 29, 2, 30, 31, 32, 33, 34, 35, 36, 37, 38, 39, 40, 41, 42, 43, 44, 45, 46, 47, 48, 49, 50, 51, 52, 53, 54, 55, 56, 57, 58, 59, 60, 61, 62, 63, 64, 65, 66, 67, 68, 69, 70, 71, 72, 73, 74] (by decide +kernel) (by decide +kernel)
set_option maxRecDepth 20000 in
theorem gX5_odds_X5_plan : GoodIn wsX5_odds (wsV RX5 201 RX5 yX5_plan wsX5_plan) := goodIn_app (goodIn_of _ (by decide +kernel)) ggX5_odds_X5_plan
theorem dX5_odds_0 : decode cX5_odds 0 = .ok (.iconst 0, 1) := by decide +kernel
theorem dX5_odds_1 : decode cX5_odds 1 = .ok (.istore_n 1, 1) := by decide +kernel
theorem dX5_odds_2 : decode cX5_odds 2 = .ok (.iconst 0, 1) := by decide +kernel
theorem dX5_odds_3 : decode cX5_odds 3 = .ok (.istore_n 2, 1) := by decide +kernel
theorem dX5_odds_4 : decode cX5_odds 4 = .ok (.iload_n 2, 1) := by decide +kernel
theorem dX5_odds_5 : decode cX5_odds 5 = .ok (.bipush 16, 2) := by decide +kernel
theorem dX5_odds_7 : decode cX5_odds 7 = .ok (.if_icmp .ge 84, 3) := by decide +kernel
theorem dX5_odds_10 : decode cX5_odds 10 = .ok (.aload_n 0, 1) := by decide +kernel
theorem dX5_odds_11 : decode cX5_odds 11 = .ok (.iload_n 2, 1) := by decide +kernel
theorem dX5_odds_12 : decode cX5_odds 12 = .ok (.invokevirtual 198, 3) := by decide +kernel
theorem dX5_odds_15 : decode cX5_odds 15 = .ok (.aload_n 0, 1) := by decide +kernel
theorem dX5_odds_16 : decode cX5_odds 16 = .ok (.iconst 0, 1) := by decide +kernel
theorem dX5_odds_17 : decode cX5_odds 17 = .ok (.invokevirtual 201, 3) := by decide +kernel
theorem dX5_odds_20 : decode cX5_odds 20 = .ok (.aload_n 0, 1) := by decide +kernel
theorem dX5_odds_21 : decode cX5_odds 21 = .ok (.getfield 30, 3) := by decide +kernel
theorem dX5_odds_24 : decode cX5_odds 24 = .ok (.ifCond .ge 7, 3) := by decide +kernel
theorem dX5_odds_27 : decode cX5_odds 27 = .ok (.iconst 0, 1) := by decide +kernel
theorem dX5_odds_28 : decode cX5_odds 28 = .ok (.goto 4, 3) := by decide +kernel
theorem dX5_odds_31 : decode cX5_odds 31 = .ok (.iconst 1, 1) := by decide +kernel
theorem dX5_odds_32 : decode cX5_odds 32 = .ok (.istore_n 3, 1) := by decide +kernel
theorem dX5_odds_33 : decode cX5_odds 33 = .ok (.iconst 0, 1) := by decide +kernel
theorem dX5_odds_34 : decode cX5_odds 34 = .ok (.istore 4, 2) := by decide +kernel
theorem dX5_odds_36 : decode cX5_odds 36 = .ok (.iload 4, 2) := by decide +kernel
theorem dX5_odds_38 : decode cX5_odds 38 = .ok (.iconst 4, 1) := by decide +kernel
theorem dX5_odds_39 : decode cX5_odds 39 = .ok (.if_icmp .ge 42, 3) := by decide +kernel
theorem dX5_odds_42 : decode cX5_odds 42 = .ok (.iload_n 3, 1) := by decide +kernel
theorem dX5_odds_43 : decode cX5_odds 43 = .ok (.iload_n 2, 1) := by decide +kernel
theorem dX5_odds_44 : decode cX5_odds 44 = .ok (.iload 4, 2) := by decide +kernel
theorem dX5_odds_46 : decode cX5_odds 46 = .ok (.ishr, 1) := by decide +kernel
theorem dX5_odds_47 : decode cX5_odds 47 = .ok (.iconst 1, 1) := by decide +kernel
theorem dX5_odds_48 : decode cX5_odds 48 = .ok (.iand, 1) := by decide +kernel
theorem dX5_odds_49 : decode cX5_odds 49 = .ok (.iconst 1, 1) := by decide +kernel
theorem dX5_odds_50 : decode cX5_odds 50 = .ok (.if_icmp .ne 13, 3) := by decide +kernel
theorem dX5_odds_53 : decode cX5_odds 53 = .ok (.aload_n 0, 1) := by decide +kernel
theorem dX5_odds_54 : decode cX5_odds 54 = .ok (.getfield 13, 3) := by decide +kernel
theorem dX5_odds_57 : decode cX5_odds 57 = .ok (.bipush 6, 2) := by decide +kernel
theorem dX5_odds_59 : decode cX5_odds 59 = .ok (.iaload, 1) := by decide +kernel
theorem dX5_odds_60 : decode cX5_odds 60 = .ok (.goto 13, 3) := by decide +kernel
theorem dX5_odds_63 : decode cX5_odds 63 = .ok (.bipush 10, 2) := by decide +kernel
theorem dX5_odds_65 : decode cX5_odds 65 = .ok (.aload_n 0, 1) := by decide +kernel
theorem dX5_odds_66 : decode cX5_odds 66 = .ok (.getfield 13, 3) := by decide +kernel
theorem dX5_odds_69 : decode cX5_odds 69 = .ok (.bipush 6, 2) := by decide +kernel
theorem dX5_odds_71 : decode cX5_odds 71 = .ok (.iaload, 1) := by decide +kernel
theorem dX5_odds_72 : decode cX5_odds 72 = .ok (.isub, 1) := by decide +kernel
theorem dX5_odds_73 : decode cX5_odds 73 = .ok (.imul, 1) := by decide +kernel
theorem dX5_odds_74 : decode cX5_odds 74 = .ok (.istore_n 3, 1) := by decide +kernel
theorem dX5_odds_75 : decode cX5_odds 75 = .ok (.iinc 4 1, 3) := by decide +kernel
theorem dX5_odds_78 : decode cX5_odds 78 = .ok (.goto (-42), 3) := by decide +kernel
theorem dX5_odds_81 : decode cX5_odds 81 = .ok (.iload_n 1, 1) := by decide +kernel
theorem dX5_odds_82 : decode cX5_odds 82 = .ok (.iload_n 3, 1) := by decide +kernel
theorem dX5_odds_83 : decode cX5_odds 83 = .ok (.iadd, 1) := by decide +kernel
theorem dX5_odds_84 : decode cX5_odds 84 = .ok (.istore_n 1, 1) := by decide +kernel
theorem dX5_odds_85 : decode cX5_odds 85 = .ok (.iinc 2 1, 3) := by decide +kernel
theorem dX5_odds_88 : decode cX5_odds 88 = .ok (.goto (-84), 3) := by decide +kernel
theorem dX5_odds_91 : decode cX5_odds 91 = .ok (.iload_n 1, 1) := by decide +kernel
theorem dX5_odds_92 : decode cX5_odds 92 = .ok (.ireturn, 1) := by decide +kernel
set_option maxRecDepth 20000 in
theorem ggX5_holdsAll_X5_fresh : GoodIn wsX5_holdsAll wsX5_fresh := goodIn_r _ [6, 7, 1, 8, 9, 10, 11, 12, 13, 5, 14, 15, 50, 51, 52, 53, 54, 55, 56, 57, 58, 59, 60, 61, 62, 63, 64, 65, 66, 67, 68, 69, 70, 71, 72, 73, 74] (by decide +kernel) (by decide +kernel)
set_option maxRecDepth 20000 in
theorem gX5_holdsAll_X5_fresh : GoodIn wsX5_holdsAll (wsV RX5 198 RX5 yX5_fresh wsX5_fresh) := goodIn_app (goodIn_of _ (by decide +kernel)) ggX5_holdsAll_X5_fresh
set_option maxRecDepth 20000 in
theorem ggX5_holdsAll_X5_pricked : GoodIn wsX5_holdsAll wsX5_pricked := goodIn_r _ [19, 7, 50, 51, 52, 53, 54, 55, 56, 57, 58, 59, 60, 61, 62, 63, 64, 65, 66, 67, 68, 69, 70, 71, 72, 73, 74] (by decide +kernel) (by decide +kernel)
set_option maxRecDepth 20000 in
theorem gX5_holdsAll_X5_pricked : GoodIn wsX5_holdsAll (wsV RX5 180 RX5 yX5_pricked wsX5_pricked) := goodIn_app (goodIn_of _ (by decide +kernel)) ggX5_holdsAll_X5_pricked
set_option maxRecDepth 20000 in
theorem ggX5_holdsAll_X5_tried : GoodIn wsX5_holdsAll wsX5_tried := goodIn_r _ [23, 7, 1, 10, 9, 8, 24, 25, 26, 5, 27, 15, 28, 29, 30, 31, 32, 33, 34, 35, 36, 37, 38, 39, 50, 51, 52, 53, 54, 55, 56, 57, 58, 59, 60, 61, 62, 63, 64, 65, 66, 67, 68, 69, 70, 71, 72, 73, 74] (by decide +kernel) (by decide +kernel)
set_option maxRecDepth 20000 in
theorem gX5_holdsAll_X5_tried : GoodIn wsX5_holdsAll (wsV RX5 194 RX5 yX5_tried wsX5_tried) := goodIn_app (goodIn_of _ (by decide +kernel)) ggX5_holdsAll_X5_tried
set_option maxRecDepth 20000 in
theorem ggX5_holdsAll_X5_plan : GoodIn wsX5_holdsAll wsX5_plan := goodIn_r _ [43, 44, 45, 20, 21, 22, 5, 23, 7, 1, 10, 9, 8, 24, 25, 26, 27, 15, 28, 29, 30, 31, 32, 33, 34, 35, 36, 37, 38, 39, 46, 47, 48, 49, 16, 17, 18, 19, 50, 51, 52, 53, 54, 55, 56, 57, 58, 59, 60, 61, 62, 63, 64, 65, 66, 67, 68, 69, 70, 71, 72, 73, 74] (by decide +kernel) (by decide +kernel)
set_option maxRecDepth 20000 in
theorem gX5_holdsAll_X5_plan : GoodIn wsX5_holdsAll (wsV RX5 201 RX5 yX5_plan wsX5_plan) := goodIn_app (goodIn_of _ (by decide +kernel)) ggX5_holdsAll_X5_plan
theorem dX5_holdsAll_0 : decode cX5_holdsAll 0 = .ok (.iconst 1, 1) := by decide +kernel
theorem dX5_holdsAll_1 : decode cX5_holdsAll 1 = .ok (.istore_n 3, 1) := by decide +kernel
theorem dX5_holdsAll_2 : decode cX5_holdsAll 2 = .ok (.iconst 0, 1) := by decide +kernel
theorem dX5_holdsAll_3 : decode cX5_holdsAll 3 = .ok (.istore 4, 2) := by decide +kernel
theorem dX5_holdsAll_5 : decode cX5_holdsAll 5 = .ok (.iload 4, 2) := by decide +kernel
theorem dX5_holdsAll_7 : decode cX5_holdsAll 7 = .ok (.bipush 16, 2) := by decide +kernel
theorem dX5_holdsAll_9 : decode cX5_holdsAll 9 = .ok (.if_icmp .ge 69, 3) := by decide +kernel
theorem dX5_holdsAll_12 : decode cX5_holdsAll 12 = .ok (.iload_n 3, 1) := by decide +kernel
theorem dX5_holdsAll_13 : decode cX5_holdsAll 13 = .ok (.ifCond .eq 65, 3) := by decide +kernel
theorem dX5_holdsAll_16 : decode cX5_holdsAll 16 = .ok (.aload_n 0, 1) := by decide +kernel
theorem dX5_holdsAll_17 : decode cX5_holdsAll 17 = .ok (.iload 4, 2) := by decide +kernel
theorem dX5_holdsAll_19 : decode cX5_holdsAll 19 = .ok (.invokevirtual 198, 3) := by decide +kernel
theorem dX5_holdsAll_22 : decode cX5_holdsAll 22 = .ok (.aload_n 0, 1) := by decide +kernel
theorem dX5_holdsAll_23 : decode cX5_holdsAll 23 = .ok (.iconst 3, 1) := by decide +kernel
theorem dX5_holdsAll_24 : decode cX5_holdsAll 24 = .ok (.iload_n 1, 1) := by decide +kernel
theorem dX5_holdsAll_25 : decode cX5_holdsAll 25 = .ok (.invokevirtual 180, 3) := by decide +kernel
theorem dX5_holdsAll_28 : decode cX5_holdsAll 28 = .ok (.iconst 0, 1) := by decide +kernel
theorem dX5_holdsAll_29 : decode cX5_holdsAll 29 = .ok (.istore 5, 2) := by decide +kernel
theorem dX5_holdsAll_31 : decode cX5_holdsAll 31 = .ok (.iload 5, 2) := by decide +kernel
theorem dX5_holdsAll_33 : decode cX5_holdsAll 33 = .ok (.bipush 60, 2) := by decide +kernel
theorem dX5_holdsAll_35 : decode cX5_holdsAll 35 = .ok (.if_icmp .ge 19, 3) := by decide +kernel
theorem dX5_holdsAll_38 : decode cX5_holdsAll 38 = .ok (.iload_n 2, 1) := by decide +kernel
theorem dX5_holdsAll_39 : decode cX5_holdsAll 39 = .ok (.ifCond .le 15, 3) := by decide +kernel
theorem dX5_holdsAll_42 : decode cX5_holdsAll 42 = .ok (.aload_n 0, 1) := by decide +kernel
theorem dX5_holdsAll_43 : decode cX5_holdsAll 43 = .ok (.iload_n 2, 1) := by decide +kernel
theorem dX5_holdsAll_44 : decode cX5_holdsAll 44 = .ok (.iconst 1, 1) := by decide +kernel
theorem dX5_holdsAll_45 : decode cX5_holdsAll 45 = .ok (.invokevirtual 194, 3) := by decide +kernel
theorem dX5_holdsAll_48 : decode cX5_holdsAll 48 = .ok (.iinc 5 1, 3) := by decide +kernel
theorem dX5_holdsAll_51 : decode cX5_holdsAll 51 = .ok (.goto (-20), 3) := by decide +kernel
theorem dX5_holdsAll_54 : decode cX5_holdsAll 54 = .ok (.aload_n 0, 1) := by decide +kernel
theorem dX5_holdsAll_55 : decode cX5_holdsAll 55 = .ok (.iconst 0, 1) := by decide +kernel
theorem dX5_holdsAll_56 : decode cX5_holdsAll 56 = .ok (.invokevirtual 201, 3) := by decide +kernel
theorem dX5_holdsAll_59 : decode cX5_holdsAll 59 = .ok (.aload_n 0, 1) := by decide +kernel
theorem dX5_holdsAll_60 : decode cX5_holdsAll 60 = .ok (.getfield 30, 3) := by decide +kernel
theorem dX5_holdsAll_63 : decode cX5_holdsAll 63 = .ok (.ifCond .ge 7, 3) := by decide +kernel
theorem dX5_holdsAll_66 : decode cX5_holdsAll 66 = .ok (.iconst 1, 1) := by decide +kernel
theorem dX5_holdsAll_67 : decode cX5_holdsAll 67 = .ok (.goto 4, 3) := by decide +kernel
theorem dX5_holdsAll_70 : decode cX5_holdsAll 70 = .ok (.iconst 0, 1) := by decide +kernel
theorem dX5_holdsAll_71 : decode cX5_holdsAll 71 = .ok (.istore_n 3, 1) := by decide +kernel
theorem dX5_holdsAll_72 : decode cX5_holdsAll 72 = .ok (.iinc 4 1, 3) := by decide +kernel
theorem dX5_holdsAll_75 : decode cX5_holdsAll 75 = .ok (.goto (-70), 3) := by decide +kernel
theorem dX5_holdsAll_78 : decode cX5_holdsAll 78 = .ok (.iload_n 3, 1) := by decide +kernel
theorem dX5_holdsAll_79 : decode cX5_holdsAll 79 = .ok (.ireturn, 1) := by decide +kernel
set_option maxRecDepth 20000 in
theorem ggX5_pricks_X5_in : GoodIn wsX5_pricks wsX5_in := goodIn_r _ [5] (by decide +kernel) (by decide +kernel)
set_option maxRecDepth 20000 in
theorem gX5_pricks_X5_in : GoodIn wsX5_pricks (va_wsS RX5 58 yX5_in wsX5_in) := goodIn_app (goodIn_of _ (by decide +kernel)) ggX5_pricks_X5_in
set_option maxRecDepth 20000 in
theorem ggX5_pricks_X5_holdsAll : GoodIn wsX5_pricks wsX5_holdsAll := goodIn_r _ [9, 10, 11, 12, 13, 4, 14, 1, 15, 16, 17, 18, 19, 20, 21, 22, 23, 24, 25, 26, 27, 28, 29, 30, 31, 32, 33, 34, 35, 36, 37, 38, 39, 40, 41, 42, 43, 44, 45, 46, 47, 48, 49, 50, 51, 52, 53, 54, 55, 56, 57, 58, 59, 60, 61, 62, 63, 64, 65, 66, 67, 68, 69, 70, 71, 72, 73, 74, 75, 76, 77, 78, 79, 80, 81] (by decide +kernel) (by decide +kernel)
set_option maxRecDepth 20000 in
theorem gX5_pricks_X5_holdsAll : GoodIn wsX5_pricks (wsV RX5 208 RX5 yX5_holdsAll wsX5_holdsAll) := goodIn_app (goodIn_of _ (by decide +kernel)) ggX5_pricks_X5_holdsAll
set_option maxRecDepth 20000 in
theorem ggX5_pricks_X5_fresh : GoodIn wsX5_pricks wsX5_fresh := goodIn_r _ [14, 1, 10, 15, 16, 17, 18, 19, 20, 4, 21, 22, 57, 58, 59, 60, 61, 62, 63, 64, 65, 66, 67, 68, 69, 70, 71, 72, 73, 74, 75, 76, 77, 78, 79, 80, 81] (by decide +kernel) (by decide +kernel)
set_option maxRecDepth 20000 in
theorem gX5_pricks_X5_fresh : GoodIn wsX5_pricks (wsV RX5 198 RX5 yX5_fresh wsX5_fresh) := goodIn_app (goodIn_of _ (by decide +kernel)) ggX5_pricks_X5_fresh
set_option maxRecDepth 20000 in
theorem ggX5_pricks_X5_pricked : GoodIn wsX5_pricks wsX5_pricked := goodIn_r _ [26, 1, 57, 58, 59, 60, 61, 62, 63, 64, 65, 66, 67, 68, 69, 70, 71, 72, 73, 74, 75, 76, 77, 78, 79, 80, 81] (by decide +kernel) (by decide +kernel)
set_option maxRecDepth 20000 in
theorem gX5_pricks_X5_pricked : GoodIn wsX5_pricks (wsV RX5 180 RX5 yX5_pricked wsX5_pricked) := goodIn_app (goodIn_of _ (by decide +kernel)) ggX5_pricks_X5_pricked
set_option maxRecDepth 20000 in
theorem ggX5_pricks_X5_plan : GoodIn wsX5_pricks wsX5_plan := goodIn_r _ [50, 51, 52, 27, 28, 29, 4, 30, 1, 10, 17, 16, 15, 31, 32, 33, 34, 22, 35, 36, 37, 38, 39, 40, 41, 42, 43, 44, 45, 46, 53, 54, 55, 56, 23, 24, 25, 26, 57, 58, 59, 60, 61, 62, 63, 64, 65, 66, 67, 68, 69, 70, 71, 72, 73, 74, 75, 76, 77, 78, 79, 80, 81] (by decide +kernel) (by decide +kernel)
set_option maxRecDepth 20000 in
theorem gX5_pricks_X5_plan : GoodIn wsX5_pricks (wsV RX5 201 RX5 yX5_plan wsX5_plan) := goodIn_app (goodIn_of _ (by decide +kernel)) ggX5_pricks_X5_plan
theorem dX5_pricks_0 : decode cX5_pricks 0 = .ok (.iload_n 1, 1) := by decide +kernel
theorem dX5_pricks_1 : decode cX5_pricks 1 = .ok (.i2l, 1) := by decide +kernel
theorem dX5_pricks_2 : decode cX5_pricks 2 = .ok (.lconst 0, 1) := by decide +kernel
theorem dX5_pricks_3 : decode cX5_pricks 3 = .ok (.lconst 1, 1) := by decide +kernel
theorem dX5_pricks_4 : decode cX5_pricks 4 = .ok (.invokestatic 58, 3) := by decide +kernel
theorem dX5_pricks_7 : decode cX5_pricks 7 = .ok (.ifCond .ne 5, 3) := by decide +kernel
theorem dX5_pricks_10 : decode cX5_pricks 10 = .ok (.iconst (-1), 1) := by decide +kernel
theorem dX5_pricks_11 : decode cX5_pricks 11 = .ok (.ireturn, 1) := by decide +kernel
theorem dX5_pricks_12 : decode cX5_pricks 12 = .ok (.iconst 0, 1) := by decide +kernel
theorem dX5_pricks_13 : decode cX5_pricks 13 = .ok (.istore_n 2, 1) := by decide +kernel
theorem dX5_pricks_14 : decode cX5_pricks 14 = .ok (.iload_n 2, 1) := by decide +kernel
theorem dX5_pricks_15 : decode cX5_pricks 15 = .ok (.bipush 10, 2) := by decide +kernel
theorem dX5_pricks_17 : decode cX5_pricks 17 = .ok (.if_icmp .ge 50, 3) := by decide +kernel
theorem dX5_pricks_20 : decode cX5_pricks 20 = .ok (.aload_n 0, 1) := by decide +kernel
theorem dX5_pricks_21 : decode cX5_pricks 21 = .ok (.iload_n 2, 1) := by decide +kernel
theorem dX5_pricks_22 : decode cX5_pricks 22 = .ok (.iconst 0, 1) := by decide +kernel
theorem dX5_pricks_23 : decode cX5_pricks 23 = .ok (.invokevirtual 208, 3) := by decide +kernel
theorem dX5_pricks_26 : decode cX5_pricks 26 = .ok (.ifCond .eq 35, 3) := by decide +kernel
theorem dX5_pricks_29 : decode cX5_pricks 29 = .ok (.aload_n 0, 1) := by decide +kernel
theorem dX5_pricks_30 : decode cX5_pricks 30 = .ok (.iconst 0, 1) := by decide +kernel
theorem dX5_pricks_31 : decode cX5_pricks 31 = .ok (.invokevirtual 198, 3) := by decide +kernel
theorem dX5_pricks_34 : decode cX5_pricks 34 = .ok (.aload_n 0, 1) := by decide +kernel
theorem dX5_pricks_35 : decode cX5_pricks 35 = .ok (.iconst 3, 1) := by decide +kernel
theorem dX5_pricks_36 : decode cX5_pricks 36 = .ok (.iload_n 2, 1) := by decide +kernel
theorem dX5_pricks_37 : decode cX5_pricks 37 = .ok (.invokevirtual 180, 3) := by decide +kernel
theorem dX5_pricks_40 : decode cX5_pricks 40 = .ok (.aload_n 0, 1) := by decide +kernel
theorem dX5_pricks_41 : decode cX5_pricks 41 = .ok (.iconst 0, 1) := by decide +kernel
theorem dX5_pricks_42 : decode cX5_pricks 42 = .ok (.invokevirtual 201, 3) := by decide +kernel
theorem dX5_pricks_45 : decode cX5_pricks 45 = .ok (.iload_n 1, 1) := by decide +kernel
theorem dX5_pricks_46 : decode cX5_pricks 46 = .ok (.ifCond .ne 7, 3) := by decide +kernel
theorem dX5_pricks_49 : decode cX5_pricks 49 = .ok (.iload_n 2, 1) := by decide +kernel
theorem dX5_pricks_50 : decode cX5_pricks 50 = .ok (.goto 10, 3) := by decide +kernel
theorem dX5_pricks_53 : decode cX5_pricks 53 = .ok (.aload_n 0, 1) := by decide +kernel
theorem dX5_pricks_54 : decode cX5_pricks 54 = .ok (.getfield 23, 3) := by decide +kernel
theorem dX5_pricks_57 : decode cX5_pricks 57 = .ok (.bipush 69, 2) := by decide +kernel
theorem dX5_pricks_59 : decode cX5_pricks 59 = .ok (.iaload, 1) := by decide +kernel
theorem dX5_pricks_60 : decode cX5_pricks 60 = .ok (.ireturn, 1) := by decide +kernel
theorem dX5_pricks_61 : decode cX5_pricks 61 = .ok (.iinc 2 1, 3) := by decide +kernel
theorem dX5_pricks_64 : decode cX5_pricks 64 = .ok (.goto (-50), 3) := by decide +kernel
theorem dX5_pricks_67 : decode cX5_pricks 67 = .ok (.bipush (-9), 2) := by decide +kernel
theorem dX5_pricks_69 : decode cX5_pricks 69 = .ok (.ireturn, 1) := by decide +kernel
set_option maxRecDepth 20000 in
theorem ggX5_simmered_X5_in : GoodIn wsX5_simmered wsX5_in := goodIn_r _ [4] (by decide +kernel) (by decide +kernel)
set_option maxRecDepth 20000 in
theorem gX5_simmered_X5_in : GoodIn wsX5_simmered (va_wsS RX5 58 yX5_in wsX5_in) := goodIn_app (goodIn_of _ (by decide +kernel)) ggX5_simmered_X5_in
set_option maxRecDepth 20000 in
theorem ggX5_simmered_X5_holdsAll : GoodIn wsX5_simmered wsX5_holdsAll := goodIn_r _ [8, 9, 10, 11, 12, 3, 13, 14, 15, 16, 17, 18, 19, 20, 21, 22, 23, 24, 25, 26, 27, 28, 29, 30, 31, 32, 33, 34, 35, 36, 37, 38, 39, 40, 41, 42, 43, 44, 45, 46, 47, 48, 49, 50, 51, 52, 53, 54, 55, 56, 57, 58, 59, 60, 61, 62, 63, 64, 65, 66, 67, 68, 69, 70, 71, 72, 73, 74, 75, 76, 77, 78, 79, 80, 81] (by decide +kernel) (by decide +kernel)
set_option maxRecDepth 20000 in
theorem gX5_simmered_X5_holdsAll : GoodIn wsX5_simmered (wsV RX5 208 RX5 yX5_holdsAll wsX5_holdsAll) := goodIn_app (goodIn_of _ (by decide +kernel)) ggX5_simmered_X5_holdsAll
theorem dX5_simmered_0 : decode cX5_simmered 0 = .ok (.iload_n 1, 1) := by decide +kernel
theorem dX5_simmered_1 : decode cX5_simmered 1 = .ok (.i2l, 1) := by decide +kernel
theorem dX5_simmered_2 : decode cX5_simmered 2 = .ok (.lconst 0, 1) := by decide +kernel
theorem dX5_simmered_3 : decode cX5_simmered 3 = .ok (.lconst 1, 1) := by decide +kernel
theorem dX5_simmered_4 : decode cX5_simmered 4 = .ok (.invokestatic 58, 3) := by decide +kernel
theorem dX5_simmered_7 : decode cX5_simmered 7 = .ok (.ifCond .ne 5, 3) := by decide +kernel
theorem dX5_simmered_10 : decode cX5_simmered 10 = .ok (.iconst (-1), 1) := by decide +kernel
theorem dX5_simmered_11 : decode cX5_simmered 11 = .ok (.ireturn, 1) := by decide +kernel
theorem dX5_simmered_12 : decode cX5_simmered 12 = .ok (.bipush (-9), 2) := by decide +kernel
theorem dX5_simmered_14 : decode cX5_simmered 14 = .ok (.istore_n 2, 1) := by decide +kernel
theorem dX5_simmered_15 : decode cX5_simmered 15 = .ok (.bipush 60, 2) := by decide +kernel
theorem dX5_simmered_17 : decode cX5_simmered 17 = .ok (.istore_n 3, 1) := by decide +kernel
theorem dX5_simmered_18 : decode cX5_simmered 18 = .ok (.iload_n 3, 1) := by decide +kernel
theorem dX5_simmered_19 : decode cX5_simmered 19 = .ok (.bipush 100, 2) := by decide +kernel
theorem dX5_simmered_21 : decode cX5_simmered 21 = .ok (.if_icmp .gt 33, 3) := by decide +kernel
theorem dX5_simmered_24 : decode cX5_simmered 24 = .ok (.iload_n 1, 1) := by decide +kernel
theorem dX5_simmered_25 : decode cX5_simmered 25 = .ok (.iconst 1, 1) := by decide +kernel
theorem dX5_simmered_26 : decode cX5_simmered 26 = .ok (.if_icmp .eq 7, 3) := by decide +kernel
theorem dX5_simmered_29 : decode cX5_simmered 29 = .ok (.iload_n 2, 1) := by decide +kernel
theorem dX5_simmered_30 : decode cX5_simmered 30 = .ok (.ifCond .ge 16, 3) := by decide +kernel
theorem dX5_simmered_33 : decode cX5_simmered 33 = .ok (.aload_n 0, 1) := by decide +kernel
theorem dX5_simmered_34 : decode cX5_simmered 34 = .ok (.iconst 0, 1) := by decide +kernel
theorem dX5_simmered_35 : decode cX5_simmered 35 = .ok (.iload_n 3, 1) := by decide +kernel
theorem dX5_simmered_36 : decode cX5_simmered 36 = .ok (.invokevirtual 208, 3) := by decide +kernel
theorem dX5_simmered_39 : decode cX5_simmered 39 = .ok (.ifCond .eq 7, 3) := by decide +kernel
theorem dX5_simmered_42 : decode cX5_simmered 42 = .ok (.iload_n 3, 1) := by decide +kernel
theorem dX5_simmered_43 : decode cX5_simmered 43 = .ok (.goto 4, 3) := by decide +kernel
theorem dX5_simmered_46 : decode cX5_simmered 46 = .ok (.iload_n 2, 1) := by decide +kernel
theorem dX5_simmered_47 : decode cX5_simmered 47 = .ok (.istore_n 2, 1) := by decide +kernel
theorem dX5_simmered_48 : decode cX5_simmered 48 = .ok (.iinc 3 1, 3) := by decide +kernel
theorem dX5_simmered_51 : decode cX5_simmered 51 = .ok (.goto (-33), 3) := by decide +kernel
theorem dX5_simmered_54 : decode cX5_simmered 54 = .ok (.iload_n 2, 1) := by decide +kernel
theorem dX5_simmered_55 : decode cX5_simmered 55 = .ok (.ireturn, 1) := by decide +kernel
set_option maxRecDepth 20000 in
theorem ggX5_planned_X5_in : GoodIn wsX5_planned wsX5_in := goodIn_r _ [10] (by decide +kernel) (by decide +kernel)
set_option maxRecDepth 20000 in
theorem gX5_planned_X5_in : GoodIn wsX5_planned (va_wsS RX5 58 yX5_in wsX5_in) := goodIn_app (goodIn_of _ (by decide +kernel)) ggX5_planned_X5_in
set_option maxRecDepth 20000 in
theorem ggX5_planned_X5_fresh : GoodIn wsX5_planned wsX5_fresh := goodIn_r _ [14, 15, 6, 16, 17, 18, 19, 20, 21, 9, 22, 23, 52, 53, 54, 55, 56, 57, 58, 59, 60, 61, 62, 63, 64, 65, 66, 67, 68, 69, 70, 71, 72, 73, 74, 75, 76] (by decide +kernel) (by decide +kernel)
set_option maxRecDepth 20000 in
theorem gX5_planned_X5_fresh : GoodIn wsX5_planned (wsV RX5 198 RX5 yX5_fresh wsX5_fresh) := goodIn_app (goodIn_of _ (by decide +kernel)) ggX5_planned_X5_fresh
set_option maxRecDepth 20000 in
theorem ggX5_planned_X5_turns : GoodIn wsX5_planned wsX5_turns := goodIn_r _ [27, 15, 52, 53, 54, 55, 56, 57, 58, 59, 60, 61, 62, 63, 64, 65, 66, 67, 68, 69, 70, 71, 72, 73, 74, 75, 76] (by decide +kernel) (by decide +kernel)
set_option maxRecDepth 20000 in
theorem gX5_planned_X5_turns : GoodIn wsX5_planned (wsV RX5 174 RX5 yX5_turns wsX5_turns) := goodIn_app (goodIn_of _ (by decide +kernel)) ggX5_planned_X5_turns
set_option maxRecDepth 20000 in
theorem ggX5_planned_X5_tried : GoodIn wsX5_planned wsX5_tried := goodIn_r _ [31, 15, 6, 18, 17, 16, 32, 33, 34, 9, 35, 23, 36, 37, 38, 39, 40, 41, 42, 43, 44, 45, 46, 47, 52, 53, 54, 55, 56, 57, 58, 59, 60, 61, 62, 63, 64, 65, 66, 67, 68, 69, 70, 71, 72, 73, 74, 75, 76] (by decide +kernel) (by decide +kernel)
set_option maxRecDepth 20000 in
theorem gX5_planned_X5_tried : GoodIn wsX5_planned (wsV RX5 194 RX5 yX5_tried wsX5_tried) := goodIn_app (goodIn_of _ (by decide +kernel)) ggX5_planned_X5_tried
set_option maxRecDepth 20000 in
theorem ggX5_planned_X5_brown : GoodIn wsX5_planned wsX5_brown := goodIn_r _ [51, 15, 52, 53, 54, 55, 56, 57, 58, 59, 60, 61, 62, 63, 64, 65, 66, 67, 68, 69, 70, 71, 72, 73, 74, 75, 76] (by decide +kernel) (by decide +kernel)
set_option maxRecDepth 20000 in
theorem gX5_planned_X5_brown : GoodIn wsX5_planned (wsV RX5 204 RX5 yX5_brown wsX5_brown) := goodIn_app (goodIn_of _ (by decide +kernel)) ggX5_planned_X5_brown
theorem dX5_planned_0 : decode cX5_planned 0 = .ok (.iload_n 1, 1) := by decide +kernel
theorem dX5_planned_1 : decode cX5_planned 1 = .ok (.i2l, 1) := by decide +kernel
theorem dX5_planned_2 : decode cX5_planned 2 = .ok (.ldc2_w 56, 3) := by decide +kernel
theorem dX5_planned_5 : decode cX5_planned 5 = .ok (.ldc2_w 211, 3) := by decide +kernel
theorem dX5_planned_8 : decode cX5_planned 8 = .ok (.invokestatic 58, 3) := by decide +kernel
theorem dX5_planned_11 : decode cX5_planned 11 = .ok (.ifCond .eq 27, 3) := by decide +kernel
theorem dX5_planned_14 : decode cX5_planned 14 = .ok (.iload_n 2, 1) := by decide +kernel
theorem dX5_planned_15 : decode cX5_planned 15 = .ok (.i2l, 1) := by decide +kernel
theorem dX5_planned_16 : decode cX5_planned 16 = .ok (.lconst 0, 1) := by decide +kernel
theorem dX5_planned_17 : decode cX5_planned 17 = .ok (.ldc2_w 183, 3) := by decide +kernel
theorem dX5_planned_20 : decode cX5_planned 20 = .ok (.invokestatic 58, 3) := by decide +kernel
theorem dX5_planned_23 : decode cX5_planned 23 = .ok (.ifCond .eq 15, 3) := by decide +kernel
theorem dX5_planned_26 : decode cX5_planned 26 = .ok (.iload_n 3, 1) := by decide +kernel
theorem dX5_planned_27 : decode cX5_planned 27 = .ok (.i2l, 1) := by decide +kernel
theorem dX5_planned_28 : decode cX5_planned 28 = .ok (.lconst 0, 1) := by decide +kernel
theorem dX5_planned_29 : decode cX5_planned 29 = .ok (.ldc2_w 148, 3) := by decide +kernel
theorem dX5_planned_32 : decode cX5_planned 32 = .ok (.invokestatic 58, 3) := by decide +kernel
theorem dX5_planned_35 : decode cX5_planned 35 = .ok (.ifCond .ne 5, 3) := by decide +kernel
theorem dX5_planned_38 : decode cX5_planned 38 = .ok (.iconst (-1), 1) := by decide +kernel
theorem dX5_planned_39 : decode cX5_planned 39 = .ok (.ireturn, 1) := by decide +kernel
theorem dX5_planned_40 : decode cX5_planned 40 = .ok (.aload_n 0, 1) := by decide +kernel
theorem dX5_planned_41 : decode cX5_planned 41 = .ok (.getfield 34, 3) := by decide +kernel
theorem dX5_planned_44 : decode cX5_planned 44 = .ok (.iconst 0, 1) := by decide +kernel
theorem dX5_planned_45 : decode cX5_planned 45 = .ok (.bipush (-9), 2) := by decide +kernel
theorem dX5_planned_47 : decode cX5_planned 47 = .ok (.iastore, 1) := by decide +kernel
theorem dX5_planned_48 : decode cX5_planned 48 = .ok (.aload_n 0, 1) := by decide +kernel
theorem dX5_planned_49 : decode cX5_planned 49 = .ok (.getfield 34, 3) := by decide +kernel
theorem dX5_planned_52 : decode cX5_planned 52 = .ok (.iconst 1, 1) := by decide +kernel
theorem dX5_planned_53 : decode cX5_planned 53 = .ok (.bipush (-9), 2) := by decide +kernel
theorem dX5_planned_55 : decode cX5_planned 55 = .ok (.iastore, 1) := by decide +kernel
theorem dX5_planned_56 : decode cX5_planned 56 = .ok (.aload_n 0, 1) := by decide +kernel
theorem dX5_planned_57 : decode cX5_planned 57 = .ok (.getfield 34, 3) := by decide +kernel
theorem dX5_planned_60 : decode cX5_planned 60 = .ok (.iconst 2, 1) := by decide +kernel
theorem dX5_planned_61 : decode cX5_planned 61 = .ok (.bipush (-9), 2) := by decide +kernel
theorem dX5_planned_63 : decode cX5_planned 63 = .ok (.iastore, 1) := by decide +kernel
theorem dX5_planned_64 : decode cX5_planned 64 = .ok (.bipush 80, 2) := by decide +kernel
theorem dX5_planned_66 : decode cX5_planned 66 = .ok (.istore 4, 2) := by decide +kernel
theorem dX5_planned_68 : decode cX5_planned 68 = .ok (.iload 4, 2) := by decide +kernel
theorem dX5_planned_70 : decode cX5_planned 70 = .ok (.sipush 260, 3) := by decide +kernel
theorem dX5_planned_73 : decode cX5_planned 73 = .ok (.if_icmp .gt 119, 3) := by decide +kernel
theorem dX5_planned_76 : decode cX5_planned 76 = .ok (.iconst 5, 1) := by decide +kernel
theorem dX5_planned_77 : decode cX5_planned 77 = .ok (.istore 5, 2) := by decide +kernel
theorem dX5_planned_79 : decode cX5_planned 79 = .ok (.iload 5, 2) := by decide +kernel
theorem dX5_planned_81 : decode cX5_planned 81 = .ok (.bipush 40, 2) := by decide +kernel
theorem dX5_planned_83 : decode cX5_planned 83 = .ok (.if_icmp .gt 103, 3) := by decide +kernel
theorem dX5_planned_86 : decode cX5_planned 86 = .ok (.aload_n 0, 1) := by decide +kernel
theorem dX5_planned_87 : decode cX5_planned 87 = .ok (.iload_n 2, 1) := by decide +kernel
theorem dX5_planned_88 : decode cX5_planned 88 = .ok (.invokevirtual 198, 3) := by decide +kernel
theorem dX5_planned_91 : decode cX5_planned 91 = .ok (.iconst 0, 1) := by decide +kernel
theorem dX5_planned_92 : decode cX5_planned 92 = .ok (.istore 6, 2) := by decide +kernel
theorem dX5_planned_94 : decode cX5_planned 94 = .ok (.iload 6, 2) := by decide +kernel
theorem dX5_planned_96 : decode cX5_planned 96 = .ok (.iload_n 1, 1) := by decide +kernel
theorem dX5_planned_97 : decode cX5_planned 97 = .ok (.if_icmp .ge 35, 3) := by decide +kernel
theorem dX5_planned_100 : decode cX5_planned 100 = .ok (.iload 6, 2) := by decide +kernel
theorem dX5_planned_102 : decode cX5_planned 102 = .ok (.ifCond .le 17, 3) := by decide +kernel
theorem dX5_planned_105 : decode cX5_planned 105 = .ok (.iload 6, 2) := by decide +kernel
theorem dX5_planned_107 : decode cX5_planned 107 = .ok (.iload 5, 2) := by decide +kernel
theorem dX5_planned_109 : decode cX5_planned 109 = .ok (.irem, 1) := by decide +kernel
theorem dX5_planned_110 : decode cX5_planned 110 = .ok (.ifCond .ne 9, 3) := by decide +kernel
theorem dX5_planned_113 : decode cX5_planned 113 = .ok (.aload_n 0, 1) := by decide +kernel
theorem dX5_planned_114 : decode cX5_planned 114 = .ok (.iconst 3, 1) := by decide +kernel
theorem dX5_planned_115 : decode cX5_planned 115 = .ok (.iconst 1, 1) := by decide +kernel
theorem dX5_planned_116 : decode cX5_planned 116 = .ok (.invokevirtual 174, 3) := by decide +kernel
theorem dX5_planned_119 : decode cX5_planned 119 = .ok (.aload_n 0, 1) := by decide +kernel
theorem dX5_planned_120 : decode cX5_planned 120 = .ok (.iload 4, 2) := by decide +kernel
theorem dX5_planned_122 : decode cX5_planned 122 = .ok (.iconst 0, 1) := by decide +kernel
theorem dX5_planned_123 : decode cX5_planned 123 = .ok (.invokevirtual 194, 3) := by decide +kernel
theorem dX5_planned_126 : decode cX5_planned 126 = .ok (.iinc 6 1, 3) := by decide +kernel
theorem dX5_planned_129 : decode cX5_planned 129 = .ok (.goto (-35), 3) := by decide +kernel
theorem dX5_planned_132 : decode cX5_planned 132 = .ok (.aload_n 0, 1) := by decide +kernel
theorem dX5_planned_133 : decode cX5_planned 133 = .ok (.getfield 30, 3) := by decide +kernel
theorem dX5_planned_136 : decode cX5_planned 136 = .ok (.ifCond .ge 44, 3) := by decide +kernel
theorem dX5_planned_139 : decode cX5_planned 139 = .ok (.aload_n 0, 1) := by decide +kernel
theorem dX5_planned_140 : decode cX5_planned 140 = .ok (.iconst 0, 1) := by decide +kernel
theorem dX5_planned_141 : decode cX5_planned 141 = .ok (.invokevirtual 204, 3) := by decide +kernel
theorem dX5_planned_144 : decode cX5_planned 144 = .ok (.aload_n 0, 1) := by decide +kernel
theorem dX5_planned_145 : decode cX5_planned 145 = .ok (.getfield 34, 3) := by decide +kernel
theorem dX5_planned_148 : decode cX5_planned 148 = .ok (.iconst 0, 1) := by decide +kernel
theorem dX5_planned_149 : decode cX5_planned 149 = .ok (.iaload, 1) := by decide +kernel
theorem dX5_planned_150 : decode cX5_planned 150 = .ok (.if_icmp .le 30, 3) := by decide +kernel
theorem dX5_planned_153 : decode cX5_planned 153 = .ok (.aload_n 0, 1) := by decide +kernel
theorem dX5_planned_154 : decode cX5_planned 154 = .ok (.getfield 34, 3) := by decide +kernel
theorem dX5_planned_157 : decode cX5_planned 157 = .ok (.iconst 0, 1) := by decide +kernel
theorem dX5_planned_158 : decode cX5_planned 158 = .ok (.aload_n 0, 1) := by decide +kernel
theorem dX5_planned_159 : decode cX5_planned 159 = .ok (.iconst 0, 1) := by decide +kernel
theorem dX5_planned_160 : decode cX5_planned 160 = .ok (.invokevirtual 204, 3) := by decide +kernel
theorem dX5_planned_163 : decode cX5_planned 163 = .ok (.iastore, 1) := by decide +kernel
theorem dX5_planned_164 : decode cX5_planned 164 = .ok (.aload_n 0, 1) := by decide +kernel
theorem dX5_planned_165 : decode cX5_planned 165 = .ok (.getfield 34, 3) := by decide +kernel
theorem dX5_planned_168 : decode cX5_planned 168 = .ok (.iconst 1, 1) := by decide +kernel
theorem dX5_planned_169 : decode cX5_planned 169 = .ok (.iload 4, 2) := by decide +kernel
theorem dX5_planned_171 : decode cX5_planned 171 = .ok (.iastore, 1) := by decide +kernel
theorem dX5_planned_172 : decode cX5_planned 172 = .ok (.aload_n 0, 1) := by decide +kernel
theorem dX5_planned_173 : decode cX5_planned 173 = .ok (.getfield 34, 3) := by decide +kernel
theorem dX5_planned_176 : decode cX5_planned 176 = .ok (.iconst 2, 1) := by decide +kernel
theorem dX5_planned_177 : decode cX5_planned 177 = .ok (.iload 5, 2) := by decide +kernel
theorem dX5_planned_179 : decode cX5_planned 179 = .ok (.iastore, 1) := by decide +kernel
theorem dX5_planned_180 : decode cX5_planned 180 = .ok (.iinc 5 5, 3) := by decide +kernel
theorem dX5_planned_183 : decode cX5_planned 183 = .ok (.goto (-104), 3) := by decide +kernel
theorem dX5_planned_186 : decode cX5_planned 186 = .ok (.iinc 4 20, 3) := by decide +kernel
theorem dX5_planned_189 : decode cX5_planned 189 = .ok (.goto (-121), 3) := by decide +kernel
theorem dX5_planned_192 : decode cX5_planned 192 = .ok (.aload_n 0, 1) := by decide +kernel
theorem dX5_planned_193 : decode cX5_planned 193 = .ok (.getfield 34, 3) := by decide +kernel
theorem dX5_planned_196 : decode cX5_planned 196 = .ok (.iload_n 3, 1) := by decide +kernel
theorem dX5_planned_197 : decode cX5_planned 197 = .ok (.iaload, 1) := by decide +kernel
theorem dX5_planned_198 : decode cX5_planned 198 = .ok (.ireturn, 1) := by decide +kernel
set_option maxRecDepth 20000 in
theorem ggX5_heat_X5_in : GoodIn wsX5_heat wsX5_in := goodIn_r _ [7] (by decide +kernel) (by decide +kernel)
set_option maxRecDepth 20000 in
theorem gX5_heat_X5_in : GoodIn wsX5_heat (va_wsS RX5 58 yX5_in wsX5_in) := goodIn_app (goodIn_of _ (by decide +kernel)) ggX5_heat_X5_in
theorem dX5_heat_0 : decode cX5_heat 0 = .ok (.iload_n 1, 1) := by decide +kernel
theorem dX5_heat_1 : decode cX5_heat 1 = .ok (.i2l, 1) := by decide +kernel
theorem dX5_heat_2 : decode cX5_heat 2 = .ok (.lconst 0, 1) := by decide +kernel
theorem dX5_heat_3 : decode cX5_heat 3 = .ok (.ldc2_w 172, 3) := by decide +kernel
theorem dX5_heat_6 : decode cX5_heat 6 = .ok (.invokestatic 58, 3) := by decide +kernel
theorem dX5_heat_9 : decode cX5_heat 9 = .ok (.ifCond .eq 15, 3) := by decide +kernel
theorem dX5_heat_12 : decode cX5_heat 12 = .ok (.iload_n 2, 1) := by decide +kernel
theorem dX5_heat_13 : decode cX5_heat 13 = .ok (.i2l, 1) := by decide +kernel
theorem dX5_heat_14 : decode cX5_heat 14 = .ok (.lconst 0, 1) := by decide +kernel
theorem dX5_heat_15 : decode cX5_heat 15 = .ok (.ldc2_w 162, 3) := by decide +kernel
theorem dX5_heat_18 : decode cX5_heat 18 = .ok (.invokestatic 58, 3) := by decide +kernel
theorem dX5_heat_21 : decode cX5_heat 21 = .ok (.ifCond .ne 5, 3) := by decide +kernel
theorem dX5_heat_24 : decode cX5_heat 24 = .ok (.iconst (-1), 1) := by decide +kernel
theorem dX5_heat_25 : decode cX5_heat 25 = .ok (.ireturn, 1) := by decide +kernel
theorem dX5_heat_26 : decode cX5_heat 26 = .ok (.aload_n 0, 1) := by decide +kernel
theorem dX5_heat_27 : decode cX5_heat 27 = .ok (.getfield 37, 3) := by decide +kernel
theorem dX5_heat_30 : decode cX5_heat 30 = .ok (.iload_n 1, 1) := by decide +kernel
theorem dX5_heat_31 : decode cX5_heat 31 = .ok (.iaload, 1) := by decide +kernel
theorem dX5_heat_32 : decode cX5_heat 32 = .ok (.istore_n 3, 1) := by decide +kernel
theorem dX5_heat_33 : decode cX5_heat 33 = .ok (.aload_n 0, 1) := by decide +kernel
theorem dX5_heat_34 : decode cX5_heat 34 = .ok (.getfield 37, 3) := by decide +kernel
theorem dX5_heat_37 : decode cX5_heat 37 = .ok (.iload_n 1, 1) := by decide +kernel
theorem dX5_heat_38 : decode cX5_heat 38 = .ok (.iload_n 2, 1) := by decide +kernel
theorem dX5_heat_39 : decode cX5_heat 39 = .ok (.iastore, 1) := by decide +kernel
theorem dX5_heat_40 : decode cX5_heat 40 = .ok (.iload_n 3, 1) := by decide +kernel
theorem dX5_heat_41 : decode cX5_heat 41 = .ok (.ireturn, 1) := by decide +kernel
set_option maxRecDepth 20000 in
theorem ggX5_even_X5_in : GoodIn wsX5_even wsX5_in := goodIn_r _ [8] (by decide +kernel) (by decide +kernel)
set_option maxRecDepth 20000 in
theorem gX5_even_X5_in : GoodIn wsX5_even (va_wsS RX5 58 yX5_in wsX5_in) := goodIn_app (goodIn_of _ (by decide +kernel)) ggX5_even_X5_in
theorem dX5_even_0 : decode cX5_even 0 = .ok (.iload_n 1, 1) := by decide +kernel
theorem dX5_even_1 : decode cX5_even 1 = .ok (.i2l, 1) := by decide +kernel
theorem dX5_even_2 : decode cX5_even 2 = .ok (.lconst 1, 1) := by decide +kernel
theorem dX5_even_3 : decode cX5_even 3 = .ok (.ldc2_w 172, 3) := by decide +kernel
theorem dX5_even_6 : decode cX5_even 6 = .ok (.invokestatic 58, 3) := by decide +kernel
theorem dX5_even_9 : decode cX5_even 9 = .ok (.ifCond .eq 13, 3) := by decide +kernel
theorem dX5_even_12 : decode cX5_even 12 = .ok (.iload_n 2, 1) := by decide +kernel
theorem dX5_even_13 : decode cX5_even 13 = .ok (.i2l, 1) := by decide +kernel
theorem dX5_even_14 : decode cX5_even 14 = .ok (.lconst 0, 1) := by decide +kernel
theorem dX5_even_15 : decode cX5_even 15 = .ok (.lconst 1, 1) := by decide +kernel
theorem dX5_even_16 : decode cX5_even 16 = .ok (.invokestatic 58, 3) := by decide +kernel
theorem dX5_even_19 : decode cX5_even 19 = .ok (.ifCond .ne 5, 3) := by decide +kernel
theorem dX5_even_22 : decode cX5_even 22 = .ok (.iconst (-1), 1) := by decide +kernel
theorem dX5_even_23 : decode cX5_even 23 = .ok (.ireturn, 1) := by decide +kernel
theorem dX5_even_24 : decode cX5_even 24 = .ok (.iload_n 1, 1) := by decide +kernel
theorem dX5_even_25 : decode cX5_even 25 = .ok (.iconst 1, 1) := by decide +kernel
theorem dX5_even_26 : decode cX5_even 26 = .ok (.if_icmp .ne 8, 3) := by decide +kernel
theorem dX5_even_29 : decode cX5_even 29 = .ok (.bipush 24, 2) := by decide +kernel
theorem dX5_even_31 : decode cX5_even 31 = .ok (.goto 17, 3) := by decide +kernel
theorem dX5_even_34 : decode cX5_even 34 = .ok (.iload_n 1, 1) := by decide +kernel
theorem dX5_even_35 : decode cX5_even 35 = .ok (.iconst 2, 1) := by decide +kernel
theorem dX5_even_36 : decode cX5_even 36 = .ok (.if_icmp .ne 9, 3) := by decide +kernel
theorem dX5_even_39 : decode cX5_even 39 = .ok (.sipush 576, 3) := by decide +kernel
theorem dX5_even_42 : decode cX5_even 42 = .ok (.goto 6, 3) := by decide +kernel
theorem dX5_even_45 : decode cX5_even 45 = .ok (.sipush 13824, 3) := by decide +kernel
theorem dX5_even_48 : decode cX5_even 48 = .ok (.istore_n 3, 1) := by decide +kernel
theorem dX5_even_49 : decode cX5_even 49 = .ok (.iconst 0, 1) := by decide +kernel
theorem dX5_even_50 : decode cX5_even 50 = .ok (.istore 4, 2) := by decide +kernel
theorem dX5_even_52 : decode cX5_even 52 = .ok (.iconst (-1), 1) := by decide +kernel
theorem dX5_even_53 : decode cX5_even 53 = .ok (.istore 5, 2) := by decide +kernel
theorem dX5_even_55 : decode cX5_even 55 = .ok (.iconst 0, 1) := by decide +kernel
theorem dX5_even_56 : decode cX5_even 56 = .ok (.istore 6, 2) := by decide +kernel
theorem dX5_even_58 : decode cX5_even 58 = .ok (.iload 6, 2) := by decide +kernel
theorem dX5_even_60 : decode cX5_even 60 = .ok (.iload_n 3, 1) := by decide +kernel
theorem dX5_even_61 : decode cX5_even 61 = .ok (.if_icmp .ge 184, 3) := by decide +kernel
theorem dX5_even_64 : decode cX5_even 64 = .ok (.iload 6, 2) := by decide +kernel
theorem dX5_even_66 : decode cX5_even 66 = .ok (.istore 7, 2) := by decide +kernel
theorem dX5_even_68 : decode cX5_even 68 = .ok (.iconst 0, 1) := by decide +kernel
theorem dX5_even_69 : decode cX5_even 69 = .ok (.istore 8, 2) := by decide +kernel
theorem dX5_even_71 : decode cX5_even 71 = .ok (.iload 8, 2) := by decide +kernel
theorem dX5_even_73 : decode cX5_even 73 = .ok (.iconst 4, 1) := by decide +kernel
theorem dX5_even_74 : decode cX5_even 74 = .ok (.if_icmp .ge 17, 3) := by decide +kernel
theorem dX5_even_77 : decode cX5_even 77 = .ok (.aload_n 0, 1) := by decide +kernel
theorem dX5_even_78 : decode cX5_even 78 = .ok (.getfield 43, 3) := by decide +kernel
theorem dX5_even_81 : decode cX5_even 81 = .ok (.iload 8, 2) := by decide +kernel
theorem dX5_even_83 : decode cX5_even 83 = .ok (.iconst 0, 1) := by decide +kernel
theorem dX5_even_84 : decode cX5_even 84 = .ok (.iastore, 1) := by decide +kernel
theorem dX5_even_85 : decode cX5_even 85 = .ok (.iinc 8 1, 3) := by decide +kernel
theorem dX5_even_88 : decode cX5_even 88 = .ok (.goto (-17), 3) := by decide +kernel
theorem dX5_even_91 : decode cX5_even 91 = .ok (.iconst 0, 1) := by decide +kernel
theorem dX5_even_92 : decode cX5_even 92 = .ok (.istore 8, 2) := by decide +kernel
theorem dX5_even_94 : decode cX5_even 94 = .ok (.iload 8, 2) := by decide +kernel
theorem dX5_even_96 : decode cX5_even 96 = .ok (.iload_n 1, 1) := by decide +kernel
theorem dX5_even_97 : decode cX5_even 97 = .ok (.if_icmp .ge 61, 3) := by decide +kernel
theorem dX5_even_100 : decode cX5_even 100 = .ok (.iconst 0, 1) := by decide +kernel
theorem dX5_even_101 : decode cX5_even 101 = .ok (.istore 9, 2) := by decide +kernel
theorem dX5_even_103 : decode cX5_even 103 = .ok (.iload 9, 2) := by decide +kernel
theorem dX5_even_105 : decode cX5_even 105 = .ok (.iconst 4, 1) := by decide +kernel
theorem dX5_even_106 : decode cX5_even 106 = .ok (.if_icmp .ge 39, 3) := by decide +kernel
theorem dX5_even_109 : decode cX5_even 109 = .ok (.aload_n 0, 1) := by decide +kernel
theorem dX5_even_110 : decode cX5_even 110 = .ok (.getfield 43, 3) := by decide +kernel
theorem dX5_even_113 : decode cX5_even 113 = .ok (.iload 9, 2) := by decide +kernel
theorem dX5_even_115 : decode cX5_even 115 = .ok (.dup2, 1) := by decide +kernel
theorem dX5_even_116 : decode cX5_even 116 = .ok (.iaload, 1) := by decide +kernel
theorem dX5_even_117 : decode cX5_even 117 = .ok (.aload_n 0, 1) := by decide +kernel
theorem dX5_even_118 : decode cX5_even 118 = .ok (.getfield 37, 3) := by decide +kernel
theorem dX5_even_121 : decode cX5_even 121 = .ok (.aload_n 0, 1) := by decide +kernel
theorem dX5_even_122 : decode cX5_even 122 = .ok (.getfield 40, 3) := by decide +kernel
theorem dX5_even_125 : decode cX5_even 125 = .ok (.iconst 4, 1) := by decide +kernel
theorem dX5_even_126 : decode cX5_even 126 = .ok (.iload 7, 2) := by decide +kernel
theorem dX5_even_128 : decode cX5_even 128 = .ok (.bipush 24, 2) := by decide +kernel
theorem dX5_even_130 : decode cX5_even 130 = .ok (.irem, 1) := by decide +kernel
theorem dX5_even_131 : decode cX5_even 131 = .ok (.imul, 1) := by decide +kernel
theorem dX5_even_132 : decode cX5_even 132 = .ok (.iload 9, 2) := by decide +kernel
theorem dX5_even_134 : decode cX5_even 134 = .ok (.iadd, 1) := by decide +kernel
theorem dX5_even_135 : decode cX5_even 135 = .ok (.iaload, 1) := by decide +kernel
theorem dX5_even_136 : decode cX5_even 136 = .ok (.iaload, 1) := by decide +kernel
theorem dX5_even_137 : decode cX5_even 137 = .ok (.iadd, 1) := by decide +kernel
theorem dX5_even_138 : decode cX5_even 138 = .ok (.iastore, 1) := by decide +kernel
theorem dX5_even_139 : decode cX5_even 139 = .ok (.iinc 9 1, 3) := by decide +kernel
theorem dX5_even_142 : decode cX5_even 142 = .ok (.goto (-39), 3) := by decide +kernel
theorem dX5_even_145 : decode cX5_even 145 = .ok (.iload 7, 2) := by decide +kernel
theorem dX5_even_147 : decode cX5_even 147 = .ok (.bipush 24, 2) := by decide +kernel
theorem dX5_even_149 : decode cX5_even 149 = .ok (.idiv, 1) := by decide +kernel
theorem dX5_even_150 : decode cX5_even 150 = .ok (.istore 7, 2) := by decide +kernel
theorem dX5_even_152 : decode cX5_even 152 = .ok (.iinc 8 1, 3) := by decide +kernel
theorem dX5_even_155 : decode cX5_even 155 = .ok (.goto (-61), 3) := by decide +kernel
theorem dX5_even_158 : decode cX5_even 158 = .ok (.aload_n 0, 1) := by decide +kernel
theorem dX5_even_159 : decode cX5_even 159 = .ok (.getfield 43, 3) := by decide +kernel
theorem dX5_even_162 : decode cX5_even 162 = .ok (.iconst 0, 1) := by decide +kernel
theorem dX5_even_163 : decode cX5_even 163 = .ok (.iaload, 1) := by decide +kernel
theorem dX5_even_164 : decode cX5_even 164 = .ok (.istore 8, 2) := by decide +kernel
theorem dX5_even_166 : decode cX5_even 166 = .ok (.iconst 1, 1) := by decide +kernel
theorem dX5_even_167 : decode cX5_even 167 = .ok (.istore 9, 2) := by decide +kernel
theorem dX5_even_169 : decode cX5_even 169 = .ok (.iload 9, 2) := by decide +kernel
theorem dX5_even_171 : decode cX5_even 171 = .ok (.iconst 4, 1) := by decide +kernel
theorem dX5_even_172 : decode cX5_even 172 = .ok (.if_icmp .ge 35, 3) := by decide +kernel
theorem dX5_even_175 : decode cX5_even 175 = .ok (.aload_n 0, 1) := by decide +kernel
theorem dX5_even_176 : decode cX5_even 176 = .ok (.getfield 43, 3) := by decide +kernel
theorem dX5_even_179 : decode cX5_even 179 = .ok (.iload 9, 2) := by decide +kernel
theorem dX5_even_181 : decode cX5_even 181 = .ok (.iaload, 1) := by decide +kernel
theorem dX5_even_182 : decode cX5_even 182 = .ok (.iload 8, 2) := by decide +kernel
theorem dX5_even_184 : decode cX5_even 184 = .ok (.if_icmp .ge 13, 3) := by decide +kernel
theorem dX5_even_187 : decode cX5_even 187 = .ok (.aload_n 0, 1) := by decide +kernel
theorem dX5_even_188 : decode cX5_even 188 = .ok (.getfield 43, 3) := by decide +kernel
theorem dX5_even_191 : decode cX5_even 191 = .ok (.iload 9, 2) := by decide +kernel
theorem dX5_even_193 : decode cX5_even 193 = .ok (.iaload, 1) := by decide +kernel
theorem dX5_even_194 : decode cX5_even 194 = .ok (.goto 5, 3) := by decide +kernel
theorem dX5_even_197 : decode cX5_even 197 = .ok (.iload 8, 2) := by decide +kernel
theorem dX5_even_199 : decode cX5_even 199 = .ok (.istore 8, 2) := by decide +kernel
theorem dX5_even_201 : decode cX5_even 201 = .ok (.iinc 9 1, 3) := by decide +kernel
theorem dX5_even_204 : decode cX5_even 204 = .ok (.goto (-35), 3) := by decide +kernel
theorem dX5_even_207 : decode cX5_even 207 = .ok (.iload 8, 2) := by decide +kernel
theorem dX5_even_209 : decode cX5_even 209 = .ok (.iload 5, 2) := by decide +kernel
theorem dX5_even_211 : decode cX5_even 211 = .ok (.if_icmp .le 8, 3) := by decide +kernel
theorem dX5_even_214 : decode cX5_even 214 = .ok (.iload 6, 2) := by decide +kernel
theorem dX5_even_216 : decode cX5_even 216 = .ok (.goto 5, 3) := by decide +kernel
theorem dX5_even_219 : decode cX5_even 219 = .ok (.iload 4, 2) := by decide +kernel
theorem dX5_even_221 : decode cX5_even 221 = .ok (.istore 4, 2) := by decide +kernel
theorem dX5_even_223 : decode cX5_even 223 = .ok (.iload 8, 2) := by decide +kernel
theorem dX5_even_225 : decode cX5_even 225 = .ok (.iload 5, 2) := by decide +kernel
theorem dX5_even_227 : decode cX5_even 227 = .ok (.if_icmp .le 8, 3) := by decide +kernel
theorem dX5_even_230 : decode cX5_even 230 = .ok (.iload 8, 2) := by decide +kernel
theorem dX5_even_232 : decode cX5_even 232 = .ok (.goto 5, 3) := by decide +kernel
theorem dX5_even_235 : decode cX5_even 235 = .ok (.iload 5, 2) := by decide +kernel
theorem dX5_even_237 : decode cX5_even 237 = .ok (.istore 5, 2) := by decide +kernel
theorem dX5_even_239 : decode cX5_even 239 = .ok (.iinc 6 1, 3) := by decide +kernel
theorem dX5_even_242 : decode cX5_even 242 = .ok (.goto (-184), 3) := by decide +kernel
theorem dX5_even_245 : decode cX5_even 245 = .ok (.iload_n 2, 1) := by decide +kernel
theorem dX5_even_246 : decode cX5_even 246 = .ok (.ifCond .ne 8, 3) := by decide +kernel
theorem dX5_even_249 : decode cX5_even 249 = .ok (.iload 5, 2) := by decide +kernel
theorem dX5_even_251 : decode cX5_even 251 = .ok (.goto 5, 3) := by decide +kernel
theorem dX5_even_254 : decode cX5_even 254 = .ok (.iload 4, 2) := by decide +kernel
theorem dX5_even_256 : decode cX5_even 256 = .ok (.ireturn, 1) := by decide +kernel
set_option maxRecDepth 20000 in
theorem ggX5_goesSo_X5_fresh : GoodIn wsX5_goesSo wsX5_fresh := goodIn_r _ [8, 3, 2, 9, 10, 11, 12, 13, 14, 7, 15, 1, 50, 51, 52, 53, 54, 55, 56, 57, 58, 59, 60, 61, 62, 63, 64, 65, 66, 67, 68, 69, 70, 71, 72, 73, 74] (by decide +kernel) (by decide +kernel)
set_option maxRecDepth 20000 in
theorem gX5_goesSo_X5_fresh : GoodIn wsX5_goesSo (wsV RX5 198 RX5 yX5_fresh wsX5_fresh) := goodIn_app (goodIn_of _ (by decide +kernel)) ggX5_goesSo_X5_fresh
set_option maxRecDepth 20000 in
theorem ggX5_goesSo_X5_plan : GoodIn wsX5_goesSo wsX5_plan := goodIn_r _ [19, 20, 21, 22, 23, 24, 7, 25, 3, 2, 11, 10, 9, 26, 27, 28, 29, 1, 30, 31, 32, 33, 34, 35, 36, 37, 38, 39, 40, 41, 42, 43, 44, 45, 46, 47, 48, 49, 50, 51, 52, 53, 54, 55, 56, 57, 58, 59, 60, 61, 62, 63, 64, 65, 66, 67, 68, 69, 70, 71, 72, 73, 74] (by decide +kernel) (by decide +kernel)
set_option maxRecDepth 20000 in
theorem gX5_goesSo_X5_plan : GoodIn wsX5_goesSo (wsV RX5 201 RX5 yX5_plan wsX5_plan) := goodIn_app (goodIn_of _ (by decide +kernel)) ggX5_goesSo_X5_plan
theorem dX5_goesSo_0 : decode cX5_goesSo 0 = .ok (.aload_n 0, 1) := by decide +kernel
theorem dX5_goesSo_1 : decode cX5_goesSo 1 = .ok (.getfield 13, 3) := by decide +kernel
theorem dX5_goesSo_4 : decode cX5_goesSo 4 = .ok (.iconst 2, 1) := by decide +kernel
theorem dX5_goesSo_5 : decode cX5_goesSo 5 = .ok (.iaload, 1) := by decide +kernel
theorem dX5_goesSo_6 : decode cX5_goesSo 6 = .ok (.istore 5, 2) := by decide +kernel
theorem dX5_goesSo_8 : decode cX5_goesSo 8 = .ok (.aload_n 0, 1) := by decide +kernel
theorem dX5_goesSo_9 : decode cX5_goesSo 9 = .ok (.getfield 13, 3) := by decide +kernel
theorem dX5_goesSo_12 : decode cX5_goesSo 12 = .ok (.iconst 1, 1) := by decide +kernel
theorem dX5_goesSo_13 : decode cX5_goesSo 13 = .ok (.iaload, 1) := by decide +kernel
theorem dX5_goesSo_14 : decode cX5_goesSo 14 = .ok (.istore 6, 2) := by decide +kernel
theorem dX5_goesSo_16 : decode cX5_goesSo 16 = .ok (.aload_n 0, 1) := by decide +kernel
theorem dX5_goesSo_17 : decode cX5_goesSo 17 = .ok (.getfield 13, 3) := by decide +kernel
theorem dX5_goesSo_20 : decode cX5_goesSo 20 = .ok (.iconst 2, 1) := by decide +kernel
theorem dX5_goesSo_21 : decode cX5_goesSo 21 = .ok (.iload_n 3, 1) := by decide +kernel
theorem dX5_goesSo_22 : decode cX5_goesSo 22 = .ok (.iconst 2, 1) := by decide +kernel
theorem dX5_goesSo_23 : decode cX5_goesSo 23 = .ok (.if_icmp .ne 30, 3) := by decide +kernel
theorem dX5_goesSo_26 : decode cX5_goesSo 26 = .ok (.iload 5, 2) := by decide +kernel
theorem dX5_goesSo_28 : decode cX5_goesSo 28 = .ok (.iconst 4, 1) := by decide +kernel
theorem dX5_goesSo_29 : decode cX5_goesSo 29 = .ok (.iload 4, 2) := by decide +kernel
theorem dX5_goesSo_31 : decode cX5_goesSo 31 = .ok (.imul, 1) := by decide +kernel
theorem dX5_goesSo_32 : decode cX5_goesSo 32 = .ok (.iadd, 1) := by decide +kernel
theorem dX5_goesSo_33 : decode cX5_goesSo 33 = .ok (.bipush 99, 2) := by decide +kernel
theorem dX5_goesSo_35 : decode cX5_goesSo 35 = .ok (.if_icmp .le 8, 3) := by decide +kernel
theorem dX5_goesSo_38 : decode cX5_goesSo 38 = .ok (.bipush 99, 2) := by decide +kernel
theorem dX5_goesSo_40 : decode cX5_goesSo 40 = .ok (.goto 15, 3) := by decide +kernel
theorem dX5_goesSo_43 : decode cX5_goesSo 43 = .ok (.iload 5, 2) := by decide +kernel
theorem dX5_goesSo_45 : decode cX5_goesSo 45 = .ok (.iconst 4, 1) := by decide +kernel
theorem dX5_goesSo_46 : decode cX5_goesSo 46 = .ok (.iload 4, 2) := by decide +kernel
theorem dX5_goesSo_48 : decode cX5_goesSo 48 = .ok (.imul, 1) := by decide +kernel
theorem dX5_goesSo_49 : decode cX5_goesSo 49 = .ok (.iadd, 1) := by decide +kernel
theorem dX5_goesSo_50 : decode cX5_goesSo 50 = .ok (.goto 5, 3) := by decide +kernel
theorem dX5_goesSo_53 : decode cX5_goesSo 53 = .ok (.iload 5, 2) := by decide +kernel
theorem dX5_goesSo_55 : decode cX5_goesSo 55 = .ok (.iastore, 1) := by decide +kernel
theorem dX5_goesSo_56 : decode cX5_goesSo 56 = .ok (.aload_n 0, 1) := by decide +kernel
theorem dX5_goesSo_57 : decode cX5_goesSo 57 = .ok (.getfield 13, 3) := by decide +kernel
theorem dX5_goesSo_60 : decode cX5_goesSo 60 = .ok (.iconst 1, 1) := by decide +kernel
theorem dX5_goesSo_61 : decode cX5_goesSo 61 = .ok (.iload_n 3, 1) := by decide +kernel
theorem dX5_goesSo_62 : decode cX5_goesSo 62 = .ok (.iconst 4, 1) := by decide +kernel
theorem dX5_goesSo_63 : decode cX5_goesSo 63 = .ok (.if_icmp .ne 30, 3) := by decide +kernel
theorem dX5_goesSo_66 : decode cX5_goesSo 66 = .ok (.iload 6, 2) := by decide +kernel
theorem dX5_goesSo_68 : decode cX5_goesSo 68 = .ok (.bipush 10, 2) := by decide +kernel
theorem dX5_goesSo_70 : decode cX5_goesSo 70 = .ok (.iload 4, 2) := by decide +kernel
theorem dX5_goesSo_72 : decode cX5_goesSo 72 = .ok (.imul, 1) := by decide +kernel
theorem dX5_goesSo_73 : decode cX5_goesSo 73 = .ok (.isub, 1) := by decide +kernel
theorem dX5_goesSo_74 : decode cX5_goesSo 74 = .ok (.iconst 1, 1) := by decide +kernel
theorem dX5_goesSo_75 : decode cX5_goesSo 75 = .ok (.if_icmp .ge 7, 3) := by decide +kernel
theorem dX5_goesSo_78 : decode cX5_goesSo 78 = .ok (.iconst 1, 1) := by decide +kernel
theorem dX5_goesSo_79 : decode cX5_goesSo 79 = .ok (.goto 16, 3) := by decide +kernel
theorem dX5_goesSo_82 : decode cX5_goesSo 82 = .ok (.iload 6, 2) := by decide +kernel
theorem dX5_goesSo_84 : decode cX5_goesSo 84 = .ok (.bipush 10, 2) := by decide +kernel
theorem dX5_goesSo_86 : decode cX5_goesSo 86 = .ok (.iload 4, 2) := by decide +kernel
theorem dX5_goesSo_88 : decode cX5_goesSo 88 = .ok (.imul, 1) := by decide +kernel
theorem dX5_goesSo_89 : decode cX5_goesSo 89 = .ok (.isub, 1) := by decide +kernel
theorem dX5_goesSo_90 : decode cX5_goesSo 90 = .ok (.goto 5, 3) := by decide +kernel
theorem dX5_goesSo_93 : decode cX5_goesSo 93 = .ok (.iload 6, 2) := by decide +kernel
theorem dX5_goesSo_95 : decode cX5_goesSo 95 = .ok (.iastore, 1) := by decide +kernel
theorem dX5_goesSo_96 : decode cX5_goesSo 96 = .ok (.aload_n 0, 1) := by decide +kernel
theorem dX5_goesSo_97 : decode cX5_goesSo 97 = .ok (.iload_n 3, 1) := by decide +kernel
theorem dX5_goesSo_98 : decode cX5_goesSo 98 = .ok (.iconst 1, 1) := by decide +kernel
theorem dX5_goesSo_99 : decode cX5_goesSo 99 = .ok (.if_icmp .ne 9, 3) := by decide +kernel
theorem dX5_goesSo_102 : decode cX5_goesSo 102 = .ok (.iconst 1, 1) := by decide +kernel
theorem dX5_goesSo_103 : decode cX5_goesSo 103 = .ok (.iload_n 2, 1) := by decide +kernel
theorem dX5_goesSo_104 : decode cX5_goesSo 104 = .ok (.ishl, 1) := by decide +kernel
theorem dX5_goesSo_105 : decode cX5_goesSo 105 = .ok (.goto 4, 3) := by decide +kernel
theorem dX5_goesSo_108 : decode cX5_goesSo 108 = .ok (.iconst 0, 1) := by decide +kernel
theorem dX5_goesSo_109 : decode cX5_goesSo 109 = .ok (.invokevirtual 198, 3) := by decide +kernel
theorem dX5_goesSo_112 : decode cX5_goesSo 112 = .ok (.aload_n 0, 1) := by decide +kernel
theorem dX5_goesSo_113 : decode cX5_goesSo 113 = .ok (.iload_n 3, 1) := by decide +kernel
theorem dX5_goesSo_114 : decode cX5_goesSo 114 = .ok (.iconst 3, 1) := by decide +kernel
theorem dX5_goesSo_115 : decode cX5_goesSo 115 = .ok (.if_icmp .ne 11, 3) := by decide +kernel
theorem dX5_goesSo_118 : decode cX5_goesSo 118 = .ok (.bipush 10, 2) := by decide +kernel
theorem dX5_goesSo_120 : decode cX5_goesSo 120 = .ok (.iload 4, 2) := by decide +kernel
theorem dX5_goesSo_122 : decode cX5_goesSo 122 = .ok (.imul, 1) := by decide +kernel
theorem dX5_goesSo_123 : decode cX5_goesSo 123 = .ok (.goto 4, 3) := by decide +kernel
theorem dX5_goesSo_126 : decode cX5_goesSo 126 = .ok (.iconst 0, 1) := by decide +kernel
theorem dX5_goesSo_127 : decode cX5_goesSo 127 = .ok (.invokevirtual 201, 3) := by decide +kernel
theorem dX5_goesSo_130 : decode cX5_goesSo 130 = .ok (.aload_n 0, 1) := by decide +kernel
theorem dX5_goesSo_131 : decode cX5_goesSo 131 = .ok (.getfield 13, 3) := by decide +kernel
theorem dX5_goesSo_134 : decode cX5_goesSo 134 = .ok (.iconst 2, 1) := by decide +kernel
theorem dX5_goesSo_135 : decode cX5_goesSo 135 = .ok (.iload 5, 2) := by decide +kernel
theorem dX5_goesSo_137 : decode cX5_goesSo 137 = .ok (.iastore, 1) := by decide +kernel
theorem dX5_goesSo_138 : decode cX5_goesSo 138 = .ok (.aload_n 0, 1) := by decide +kernel
theorem dX5_goesSo_139 : decode cX5_goesSo 139 = .ok (.getfield 13, 3) := by decide +kernel
theorem dX5_goesSo_142 : decode cX5_goesSo 142 = .ok (.iconst 1, 1) := by decide +kernel
theorem dX5_goesSo_143 : decode cX5_goesSo 143 = .ok (.iload 6, 2) := by decide +kernel
theorem dX5_goesSo_145 : decode cX5_goesSo 145 = .ok (.iastore, 1) := by decide +kernel
theorem dX5_goesSo_146 : decode cX5_goesSo 146 = .ok (.aload_n 0, 1) := by decide +kernel
theorem dX5_goesSo_147 : decode cX5_goesSo 147 = .ok (.getfield 30, 3) := by decide +kernel
theorem dX5_goesSo_150 : decode cX5_goesSo 150 = .ok (.iload_n 1, 1) := by decide +kernel
theorem dX5_goesSo_151 : decode cX5_goesSo 151 = .ok (.if_icmp .ne 29, 3) := by decide +kernel
theorem dX5_goesSo_154 : decode cX5_goesSo 154 = .ok (.aload_n 0, 1) := by decide +kernel
theorem dX5_goesSo_155 : decode cX5_goesSo 155 = .ok (.getfield 23, 3) := by decide +kernel
theorem dX5_goesSo_158 : decode cX5_goesSo 158 = .ok (.bipush 73, 2) := by decide +kernel
theorem dX5_goesSo_160 : decode cX5_goesSo 160 = .ok (.iaload, 1) := by decide +kernel
theorem dX5_goesSo_161 : decode cX5_goesSo 161 = .ok (.iconst 1, 1) := by decide +kernel
theorem dX5_goesSo_162 : decode cX5_goesSo 162 = .ok (.if_icmp .ne 18, 3) := by decide +kernel
theorem dX5_goesSo_165 : decode cX5_goesSo 165 = .ok (.aload_n 0, 1) := by decide +kernel
theorem dX5_goesSo_166 : decode cX5_goesSo 166 = .ok (.getfield 23, 3) := by decide +kernel
theorem dX5_goesSo_169 : decode cX5_goesSo 169 = .ok (.bipush 74, 2) := by decide +kernel
theorem dX5_goesSo_171 : decode cX5_goesSo 171 = .ok (.iaload, 1) := by decide +kernel
theorem dX5_goesSo_172 : decode cX5_goesSo 172 = .ok (.iload_n 2, 1) := by decide +kernel
theorem dX5_goesSo_173 : decode cX5_goesSo 173 = .ok (.if_icmp .ne 7, 3) := by decide +kernel
theorem dX5_goesSo_176 : decode cX5_goesSo 176 = .ok (.iconst 1, 1) := by decide +kernel
theorem dX5_goesSo_177 : decode cX5_goesSo 177 = .ok (.goto 4, 3) := by decide +kernel
theorem dX5_goesSo_180 : decode cX5_goesSo 180 = .ok (.iconst 0, 1) := by decide +kernel
theorem dX5_goesSo_181 : decode cX5_goesSo 181 = .ok (.ireturn, 1) := by decide +kernel
set_option maxRecDepth 20000 in
theorem ggX5_begun_X5_goesSo : GoodIn wsX5_begun wsX5_goesSo := goodIn_r _ [5, 6, 7, 8, 9, 10, 11, 4, 12, 13, 14, 15, 16, 17, 18, 19, 20, 21, 22, 23, 24, 25, 26, 27, 28, 29, 30, 31, 32, 33, 34, 35, 36, 37, 38, 39, 40, 41, 42, 43, 44, 45, 46, 47, 48, 49, 50, 51, 52, 53, 54, 55, 56, 57, 58, 59, 60, 61, 62, 63, 64, 65, 66, 67, 68, 69, 70, 71, 72, 73, 74, 75, 76, 77, 78] (by decide +kernel) (by decide +kernel)
set_option maxRecDepth 20000 in
theorem gX5_begun_X5_goesSo : GoodIn wsX5_begun (wsV RX5 213 RX5 yX5_goesSo wsX5_goesSo) := goodIn_app (goodIn_of _ (by decide +kernel)) ggX5_begun_X5_goesSo
theorem dX5_begun_0 : decode cX5_begun 0 = .ok (.iconst 0, 1) := by decide +kernel
theorem dX5_begun_1 : decode cX5_begun 1 = .ok (.istore 4, 2) := by decide +kernel
theorem dX5_begun_3 : decode cX5_begun 3 = .ok (.iconst 1, 1) := by decide +kernel
theorem dX5_begun_4 : decode cX5_begun 4 = .ok (.istore 5, 2) := by decide +kernel
theorem dX5_begun_6 : decode cX5_begun 6 = .ok (.iload 5, 2) := by decide +kernel
theorem dX5_begun_8 : decode cX5_begun 8 = .ok (.bipush 10, 2) := by decide +kernel
theorem dX5_begun_10 : decode cX5_begun 10 = .ok (.if_icmp .ge 31, 3) := by decide +kernel
theorem dX5_begun_13 : decode cX5_begun 13 = .ok (.iload 4, 2) := by decide +kernel
theorem dX5_begun_15 : decode cX5_begun 15 = .ok (.aload_n 0, 1) := by decide +kernel
theorem dX5_begun_16 : decode cX5_begun 16 = .ok (.iload_n 1, 1) := by decide +kernel
theorem dX5_begun_17 : decode cX5_begun 17 = .ok (.iload_n 2, 1) := by decide +kernel
theorem dX5_begun_18 : decode cX5_begun 18 = .ok (.iload_n 3, 1) := by decide +kernel
theorem dX5_begun_19 : decode cX5_begun 19 = .ok (.iload 5, 2) := by decide +kernel
theorem dX5_begun_21 : decode cX5_begun 21 = .ok (.invokevirtual 213, 3) := by decide +kernel
theorem dX5_begun_24 : decode cX5_begun 24 = .ok (.ifCond .eq 7, 3) := by decide +kernel
theorem dX5_begun_27 : decode cX5_begun 27 = .ok (.iconst 1, 1) := by decide +kernel
theorem dX5_begun_28 : decode cX5_begun 28 = .ok (.goto 4, 3) := by decide +kernel
theorem dX5_begun_31 : decode cX5_begun 31 = .ok (.iconst 0, 1) := by decide +kernel
theorem dX5_begun_32 : decode cX5_begun 32 = .ok (.iadd, 1) := by decide +kernel
theorem dX5_begun_33 : decode cX5_begun 33 = .ok (.istore 4, 2) := by decide +kernel
theorem dX5_begun_35 : decode cX5_begun 35 = .ok (.iinc 5 1, 3) := by decide +kernel
theorem dX5_begun_38 : decode cX5_begun 38 = .ok (.goto (-32), 3) := by decide +kernel
theorem dX5_begun_41 : decode cX5_begun 41 = .ok (.iload 4, 2) := by decide +kernel
theorem dX5_begun_43 : decode cX5_begun 43 = .ok (.ireturn, 1) := by decide +kernel
set_option maxRecDepth 20000 in
theorem ggX5_isCause_X5_in : GoodIn wsX5_isCause wsX5_in := goodIn_r _ [7] (by decide +kernel) (by decide +kernel)
set_option maxRecDepth 20000 in
theorem gX5_isCause_X5_in : GoodIn wsX5_isCause (va_wsS RX5 58 yX5_in wsX5_in) := goodIn_app (goodIn_of _ (by decide +kernel)) ggX5_isCause_X5_in
theorem dX5_isCause_0 : decode cX5_isCause 0 = .ok (.iload_n 0, 1) := by decide +kernel
theorem dX5_isCause_1 : decode cX5_isCause 1 = .ok (.i2l, 1) := by decide +kernel
theorem dX5_isCause_2 : decode cX5_isCause 2 = .ok (.lconst 1, 1) := by decide +kernel
theorem dX5_isCause_3 : decode cX5_isCause 3 = .ok (.ldc2_w 217, 3) := by decide +kernel
theorem dX5_isCause_6 : decode cX5_isCause 6 = .ok (.invokestatic 58, 3) := by decide +kernel
theorem dX5_isCause_9 : decode cX5_isCause 9 = .ok (.ifCond .eq 31, 3) := by decide +kernel
theorem dX5_isCause_12 : decode cX5_isCause 12 = .ok (.iload_n 1, 1) := by decide +kernel
theorem dX5_isCause_13 : decode cX5_isCause 13 = .ok (.i2l, 1) := by decide +kernel
theorem dX5_isCause_14 : decode cX5_isCause 14 = .ok (.lconst 0, 1) := by decide +kernel
theorem dX5_isCause_15 : decode cX5_isCause 15 = .ok (.ldc2_w 172, 3) := by decide +kernel
theorem dX5_isCause_18 : decode cX5_isCause 18 = .ok (.invokestatic 58, 3) := by decide +kernel
theorem dX5_isCause_21 : decode cX5_isCause 21 = .ok (.ifCond .eq 19, 3) := by decide +kernel
theorem dX5_isCause_24 : decode cX5_isCause 24 = .ok (.iload_n 2, 1) := by decide +kernel
theorem dX5_isCause_25 : decode cX5_isCause 25 = .ok (.i2l, 1) := by decide +kernel
theorem dX5_isCause_26 : decode cX5_isCause 26 = .ok (.lconst 0, 1) := by decide +kernel
theorem dX5_isCause_27 : decode cX5_isCause 27 = .ok (.ldc2_w 219, 3) := by decide +kernel
theorem dX5_isCause_30 : decode cX5_isCause 30 = .ok (.invokestatic 58, 3) := by decide +kernel
theorem dX5_isCause_33 : decode cX5_isCause 33 = .ok (.ifCond .eq 7, 3) := by decide +kernel
theorem dX5_isCause_36 : decode cX5_isCause 36 = .ok (.iconst 1, 1) := by decide +kernel
theorem dX5_isCause_37 : decode cX5_isCause 37 = .ok (.goto 4, 3) := by decide +kernel
theorem dX5_isCause_40 : decode cX5_isCause 40 = .ok (.iconst 0, 1) := by decide +kernel
theorem dX5_isCause_41 : decode cX5_isCause 41 = .ok (.ireturn, 1) := by decide +kernel
set_option maxRecDepth 20000 in
theorem ggX5_began_X5_isCause : GoodIn wsX5_began wsX5_isCause := goodIn_r _ [4, 5, 6, 7, 8, 9, 3, 10] (by decide +kernel) (by decide +kernel)
set_option maxRecDepth 20000 in
theorem gX5_began_X5_isCause : GoodIn wsX5_began (va_wsS RX5 221 yX5_isCause wsX5_isCause) := goodIn_app (goodIn_of _ (by decide +kernel)) ggX5_began_X5_isCause
set_option maxRecDepth 20000 in
theorem ggX5_began_X5_begun : GoodIn wsX5_began wsX5_begun := goodIn_r _ [14, 15, 16, 17, 3, 18, 19, 20, 21, 22, 23, 24, 25, 26, 27, 28, 29, 30, 31, 32, 33, 34, 35, 36, 37, 38, 39, 40, 41, 42, 43, 44, 45, 46, 47, 48, 49, 50, 51, 52, 53, 54, 55, 56, 57, 58, 59, 60, 61, 62, 63, 64, 65, 66, 67, 68, 69, 70, 71, 72, 73, 74, 75, 76, 77, 78, 79, 80, 81, 82, 83, 84, 85, 86, 87, 88, 89, 90, 91] (by decide +kernel) (by decide +kernel)
set_option maxRecDepth 20000 in
theorem gX5_began_X5_begun : GoodIn wsX5_began (wsV RX5 225 RX5 yX5_begun wsX5_begun) := goodIn_app (goodIn_of _ (by decide +kernel)) ggX5_began_X5_begun
theorem dX5_began_0 : decode cX5_began 0 = .ok (.iload_n 1, 1) := by decide +kernel
theorem dX5_began_1 : decode cX5_began 1 = .ok (.iload_n 2, 1) := by decide +kernel
theorem dX5_began_2 : decode cX5_began 2 = .ok (.iload_n 3, 1) := by decide +kernel
theorem dX5_began_3 : decode cX5_began 3 = .ok (.invokestatic 221, 3) := by decide +kernel
theorem dX5_began_6 : decode cX5_began 6 = .ok (.ifCond .eq 13, 3) := by decide +kernel
theorem dX5_began_9 : decode cX5_began 9 = .ok (.aload_n 0, 1) := by decide +kernel
theorem dX5_began_10 : decode cX5_began 10 = .ok (.iload_n 1, 1) := by decide +kernel
theorem dX5_began_11 : decode cX5_began 11 = .ok (.iload_n 2, 1) := by decide +kernel
theorem dX5_began_12 : decode cX5_began 12 = .ok (.iload_n 3, 1) := by decide +kernel
theorem dX5_began_13 : decode cX5_began 13 = .ok (.invokevirtual 225, 3) := by decide +kernel
theorem dX5_began_16 : decode cX5_began 16 = .ok (.goto 4, 3) := by decide +kernel
theorem dX5_began_19 : decode cX5_began 19 = .ok (.iconst (-1), 1) := by decide +kernel
theorem dX5_began_20 : decode cX5_began 20 = .ok (.ireturn, 1) := by decide +kernel
set_option maxRecDepth 20000 in
theorem ggX5_why_X5_isCause : GoodIn wsX5_why wsX5_isCause := goodIn_r _ [4, 5, 6, 7, 8, 9, 3, 10] (by decide +kernel) (by decide +kernel)
set_option maxRecDepth 20000 in
theorem gX5_why_X5_isCause : GoodIn wsX5_why (va_wsS RX5 221 yX5_isCause wsX5_isCause) := goodIn_app (goodIn_of _ (by decide +kernel)) ggX5_why_X5_isCause
set_option maxRecDepth 20000 in
theorem ggX5_why_X5_in : GoodIn wsX5_why wsX5_in := goodIn_r _ [10] (by decide +kernel) (by decide +kernel)
set_option maxRecDepth 20000 in
theorem gX5_why_X5_in : GoodIn wsX5_why (va_wsS RX5 58 yX5_in wsX5_in) := goodIn_app (goodIn_of _ (by decide +kernel)) ggX5_why_X5_in
set_option maxRecDepth 20000 in
theorem ggX5_why_X5_begun : GoodIn wsX5_why wsX5_begun := goodIn_r _ [14, 15, 16, 17, 3, 18, 19, 20, 21, 22, 23, 24, 25, 26, 27, 28, 29, 30, 31, 32, 33, 34, 35, 36, 37, 38, 39, 40, 41, 42, 43, 44, 45, 46, 47, 48, 49, 50, 51, 52, 53, 54, 55, 56, 57, 58, 59, 60, 61, 62, 63, 64, 65, 66, 67, 68, 69, 70, 71, 72, 73, 74, 75, 76, 77, 78, 79, 80, 81, 82, 83, 84, 85, 86, 87, 88, 89, 90, 91] (by decide +kernel) (by decide +kernel)
set_option maxRecDepth 20000 in
theorem gX5_why_X5_begun : GoodIn wsX5_why (wsV RX5 225 RX5 yX5_begun wsX5_begun) := goodIn_app (goodIn_of _ (by decide +kernel)) ggX5_why_X5_begun
theorem dX5_why_0 : decode cX5_why 0 = .ok (.iload_n 1, 1) := by decide +kernel
theorem dX5_why_1 : decode cX5_why 1 = .ok (.iload_n 2, 1) := by decide +kernel
theorem dX5_why_2 : decode cX5_why 2 = .ok (.iload_n 3, 1) := by decide +kernel
theorem dX5_why_3 : decode cX5_why 3 = .ok (.invokestatic 221, 3) := by decide +kernel
theorem dX5_why_6 : decode cX5_why 6 = .ok (.ifCond .eq 14, 3) := by decide +kernel
theorem dX5_why_9 : decode cX5_why 9 = .ok (.iload 4, 2) := by decide +kernel
theorem dX5_why_11 : decode cX5_why 11 = .ok (.i2l, 1) := by decide +kernel
theorem dX5_why_12 : decode cX5_why 12 = .ok (.lconst 0, 1) := by decide +kernel
theorem dX5_why_13 : decode cX5_why 13 = .ok (.lconst 1, 1) := by decide +kernel
theorem dX5_why_14 : decode cX5_why 14 = .ok (.invokestatic 58, 3) := by decide +kernel
theorem dX5_why_17 : decode cX5_why 17 = .ok (.ifCond .ne 5, 3) := by decide +kernel
theorem dX5_why_20 : decode cX5_why 20 = .ok (.iconst (-1), 1) := by decide +kernel
theorem dX5_why_21 : decode cX5_why 21 = .ok (.ireturn, 1) := by decide +kernel
theorem dX5_why_22 : decode cX5_why 22 = .ok (.iconst 0, 1) := by decide +kernel
theorem dX5_why_23 : decode cX5_why 23 = .ok (.istore 5, 2) := by decide +kernel
theorem dX5_why_25 : decode cX5_why 25 = .ok (.iconst 0, 1) := by decide +kernel
theorem dX5_why_26 : decode cX5_why 26 = .ok (.istore 6, 2) := by decide +kernel
theorem dX5_why_28 : decode cX5_why 28 = .ok (.iload 6, 2) := by decide +kernel
theorem dX5_why_30 : decode cX5_why 30 = .ok (.iconst 5, 1) := by decide +kernel
theorem dX5_why_31 : decode cX5_why 31 = .ok (.if_icmp .ge 22, 3) := by decide +kernel
theorem dX5_why_34 : decode cX5_why 34 = .ok (.iload 5, 2) := by decide +kernel
theorem dX5_why_36 : decode cX5_why 36 = .ok (.aload_n 0, 1) := by decide +kernel
theorem dX5_why_37 : decode cX5_why 37 = .ok (.iload_n 1, 1) := by decide +kernel
theorem dX5_why_38 : decode cX5_why 38 = .ok (.iload_n 2, 1) := by decide +kernel
theorem dX5_why_39 : decode cX5_why 39 = .ok (.iload 6, 2) := by decide +kernel
theorem dX5_why_41 : decode cX5_why 41 = .ok (.invokevirtual 225, 3) := by decide +kernel
theorem dX5_why_44 : decode cX5_why 44 = .ok (.iadd, 1) := by decide +kernel
theorem dX5_why_45 : decode cX5_why 45 = .ok (.istore 5, 2) := by decide +kernel
theorem dX5_why_47 : decode cX5_why 47 = .ok (.iinc 6 1, 3) := by decide +kernel
theorem dX5_why_50 : decode cX5_why 50 = .ok (.goto (-22), 3) := by decide +kernel
theorem dX5_why_53 : decode cX5_why 53 = .ok (.iload 5, 2) := by decide +kernel
theorem dX5_why_55 : decode cX5_why 55 = .ok (.ifCond .ne 6, 3) := by decide +kernel
theorem dX5_why_58 : decode cX5_why 58 = .ok (.bipush (-2), 2) := by decide +kernel
theorem dX5_why_60 : decode cX5_why 60 = .ok (.ireturn, 1) := by decide +kernel
theorem dX5_why_61 : decode cX5_why 61 = .ok (.aload_n 0, 1) := by decide +kernel
theorem dX5_why_62 : decode cX5_why 62 = .ok (.iload_n 1, 1) := by decide +kernel
theorem dX5_why_63 : decode cX5_why 63 = .ok (.iload_n 2, 1) := by decide +kernel
theorem dX5_why_64 : decode cX5_why 64 = .ok (.iload_n 3, 1) := by decide +kernel
theorem dX5_why_65 : decode cX5_why 65 = .ok (.invokevirtual 225, 3) := by decide +kernel
theorem dX5_why_68 : decode cX5_why 68 = .ok (.istore 6, 2) := by decide +kernel
theorem dX5_why_70 : decode cX5_why 70 = .ok (.iload 6, 2) := by decide +kernel
theorem dX5_why_72 : decode cX5_why 72 = .ok (.istore 7, 2) := by decide +kernel
theorem dX5_why_74 : decode cX5_why 74 = .ok (.iload 5, 2) := by decide +kernel
theorem dX5_why_76 : decode cX5_why 76 = .ok (.istore 8, 2) := by decide +kernel
theorem dX5_why_78 : decode cX5_why 78 = .ok (.iload 8, 2) := by decide +kernel
theorem dX5_why_80 : decode cX5_why 80 = .ok (.ifCond .eq 21, 3) := by decide +kernel
theorem dX5_why_83 : decode cX5_why 83 = .ok (.iload 7, 2) := by decide +kernel
theorem dX5_why_85 : decode cX5_why 85 = .ok (.iload 8, 2) := by decide +kernel
theorem dX5_why_87 : decode cX5_why 87 = .ok (.irem, 1) := by decide +kernel
theorem dX5_why_88 : decode cX5_why 88 = .ok (.istore 9, 2) := by decide +kernel
theorem dX5_why_90 : decode cX5_why 90 = .ok (.iload 8, 2) := by decide +kernel
theorem dX5_why_92 : decode cX5_why 92 = .ok (.istore 7, 2) := by decide +kernel
theorem dX5_why_94 : decode cX5_why 94 = .ok (.iload 9, 2) := by decide +kernel
theorem dX5_why_96 : decode cX5_why 96 = .ok (.istore 8, 2) := by decide +kernel
theorem dX5_why_98 : decode cX5_why 98 = .ok (.goto (-20), 3) := by decide +kernel
theorem dX5_why_101 : decode cX5_why 101 = .ok (.iload 4, 2) := by decide +kernel
theorem dX5_why_103 : decode cX5_why 103 = .ok (.ifCond .ne 11, 3) := by decide +kernel
theorem dX5_why_106 : decode cX5_why 106 = .ok (.iload 6, 2) := by decide +kernel
theorem dX5_why_108 : decode cX5_why 108 = .ok (.iload 7, 2) := by decide +kernel
theorem dX5_why_110 : decode cX5_why 110 = .ok (.idiv, 1) := by decide +kernel
theorem dX5_why_111 : decode cX5_why 111 = .ok (.goto 8, 3) := by decide +kernel
theorem dX5_why_114 : decode cX5_why 114 = .ok (.iload 5, 2) := by decide +kernel
theorem dX5_why_116 : decode cX5_why 116 = .ok (.iload 7, 2) := by decide +kernel
theorem dX5_why_118 : decode cX5_why 118 = .ok (.idiv, 1) := by decide +kernel
theorem dX5_why_119 : decode cX5_why 119 = .ok (.ireturn, 1) := by decide +kernel
set_option maxRecDepth 20000 in
theorem ggX5_isDry_X5_in : GoodIn wsX5_isDry wsX5_in := goodIn_r _ [6] (by decide +kernel) (by decide +kernel)
set_option maxRecDepth 20000 in
theorem gX5_isDry_X5_in : GoodIn wsX5_isDry (va_wsS RX5 58 yX5_in wsX5_in) := goodIn_app (goodIn_of _ (by decide +kernel)) ggX5_isDry_X5_in
theorem dX5_isDry_0 : decode cX5_isDry 0 = .ok (.iload_n 0, 1) := by decide +kernel
theorem dX5_isDry_1 : decode cX5_isDry 1 = .ok (.i2l, 1) := by decide +kernel
theorem dX5_isDry_2 : decode cX5_isDry 2 = .ok (.lconst 1, 1) := by decide +kernel
theorem dX5_isDry_3 : decode cX5_isDry 3 = .ok (.ldc2_w 229, 3) := by decide +kernel
theorem dX5_isDry_6 : decode cX5_isDry 6 = .ok (.invokestatic 58, 3) := by decide +kernel
theorem dX5_isDry_9 : decode cX5_isDry 9 = .ok (.ifCond .eq 30, 3) := by decide +kernel
theorem dX5_isDry_12 : decode cX5_isDry 12 = .ok (.iload_n 1, 1) := by decide +kernel
theorem dX5_isDry_13 : decode cX5_isDry 13 = .ok (.i2l, 1) := by decide +kernel
theorem dX5_isDry_14 : decode cX5_isDry 14 = .ok (.lconst 0, 1) := by decide +kernel
theorem dX5_isDry_15 : decode cX5_isDry 15 = .ok (.iload_n 0, 1) := by decide +kernel
theorem dX5_isDry_16 : decode cX5_isDry 16 = .ok (.i2l, 1) := by decide +kernel
theorem dX5_isDry_17 : decode cX5_isDry 17 = .ok (.invokestatic 58, 3) := by decide +kernel
theorem dX5_isDry_20 : decode cX5_isDry 20 = .ok (.ifCond .eq 19, 3) := by decide +kernel
theorem dX5_isDry_23 : decode cX5_isDry 23 = .ok (.iload_n 2, 1) := by decide +kernel
theorem dX5_isDry_24 : decode cX5_isDry 24 = .ok (.i2l, 1) := by decide +kernel
theorem dX5_isDry_25 : decode cX5_isDry 25 = .ok (.lconst 0, 1) := by decide +kernel
theorem dX5_isDry_26 : decode cX5_isDry 26 = .ok (.ldc2_w 178, 3) := by decide +kernel
theorem dX5_isDry_29 : decode cX5_isDry 29 = .ok (.invokestatic 58, 3) := by decide +kernel
theorem dX5_isDry_32 : decode cX5_isDry 32 = .ok (.ifCond .eq 7, 3) := by decide +kernel
theorem dX5_isDry_35 : decode cX5_isDry 35 = .ok (.iconst 1, 1) := by decide +kernel
theorem dX5_isDry_36 : decode cX5_isDry 36 = .ok (.goto 4, 3) := by decide +kernel
theorem dX5_isDry_39 : decode cX5_isDry 39 = .ok (.iconst 0, 1) := by decide +kernel
theorem dX5_isDry_40 : decode cX5_isDry 40 = .ok (.ireturn, 1) := by decide +kernel
set_option maxRecDepth 20000 in
theorem ggX5_dried_X5_isDry : GoodIn wsX5_dried wsX5_isDry := goodIn_r _ [5, 6, 7, 8, 9, 4, 10] (by decide +kernel) (by decide +kernel)
set_option maxRecDepth 20000 in
theorem gX5_dried_X5_isDry : GoodIn wsX5_dried (va_wsS RX5 231 yX5_isDry wsX5_isDry) := goodIn_app (goodIn_of _ (by decide +kernel)) ggX5_dried_X5_isDry
set_option maxRecDepth 20000 in
theorem ggX5_dried_X5_in : GoodIn wsX5_dried wsX5_in := goodIn_r _ [10] (by decide +kernel) (by decide +kernel)
set_option maxRecDepth 20000 in
theorem gX5_dried_X5_in : GoodIn wsX5_dried (va_wsS RX5 58 yX5_in wsX5_in) := goodIn_app (goodIn_of _ (by decide +kernel)) ggX5_dried_X5_in
theorem dX5_dried_0 : decode cX5_dried 0 = .ok (.iload_n 1, 1) := by decide +kernel
theorem dX5_dried_1 : decode cX5_dried 1 = .ok (.iload_n 2, 1) := by decide +kernel
theorem dX5_dried_2 : decode cX5_dried 2 = .ok (.iload_n 3, 1) := by decide +kernel
theorem dX5_dried_3 : decode cX5_dried 3 = .ok (.invokestatic 231, 3) := by decide +kernel
theorem dX5_dried_6 : decode cX5_dried 6 = .ok (.ifCond .eq 16, 3) := by decide +kernel
theorem dX5_dried_9 : decode cX5_dried 9 = .ok (.iload 4, 2) := by decide +kernel
theorem dX5_dried_11 : decode cX5_dried 11 = .ok (.i2l, 1) := by decide +kernel
theorem dX5_dried_12 : decode cX5_dried 12 = .ok (.lconst 0, 1) := by decide +kernel
theorem dX5_dried_13 : decode cX5_dried 13 = .ok (.ldc2_w 234, 3) := by decide +kernel
theorem dX5_dried_16 : decode cX5_dried 16 = .ok (.invokestatic 58, 3) := by decide +kernel
theorem dX5_dried_19 : decode cX5_dried 19 = .ok (.ifCond .ne 5, 3) := by decide +kernel
theorem dX5_dried_22 : decode cX5_dried 22 = .ok (.iconst (-1), 1) := by decide +kernel
theorem dX5_dried_23 : decode cX5_dried 23 = .ok (.ireturn, 1) := by decide +kernel
theorem dX5_dried_24 : decode cX5_dried 24 = .ok (.iload_n 1, 1) := by decide +kernel
theorem dX5_dried_25 : decode cX5_dried 25 = .ok (.istore 5, 2) := by decide +kernel
theorem dX5_dried_27 : decode cX5_dried 27 = .ok (.iconst 0, 1) := by decide +kernel
theorem dX5_dried_28 : decode cX5_dried 28 = .ok (.istore 6, 2) := by decide +kernel
theorem dX5_dried_30 : decode cX5_dried 30 = .ok (.iconst 0, 1) := by decide +kernel
theorem dX5_dried_31 : decode cX5_dried 31 = .ok (.istore 7, 2) := by decide +kernel
theorem dX5_dried_33 : decode cX5_dried 33 = .ok (.iload 7, 2) := by decide +kernel
theorem dX5_dried_35 : decode cX5_dried 35 = .ok (.iload 4, 2) := by decide +kernel
theorem dX5_dried_37 : decode cX5_dried 37 = .ok (.if_icmp .ge 47, 3) := by decide +kernel
theorem dX5_dried_40 : decode cX5_dried 40 = .ok (.iload 5, 2) := by decide +kernel
theorem dX5_dried_42 : decode cX5_dried 42 = .ok (.iload_n 2, 1) := by decide +kernel
theorem dX5_dried_43 : decode cX5_dried 43 = .ok (.isub, 1) := by decide +kernel
theorem dX5_dried_44 : decode cX5_dried 44 = .ok (.bipush 10, 2) := by decide +kernel
theorem dX5_dried_46 : decode cX5_dried 46 = .ok (.iload 6, 2) := by decide +kernel
theorem dX5_dried_48 : decode cX5_dried 48 = .ok (.iadd, 1) := by decide +kernel
theorem dX5_dried_49 : decode cX5_dried 49 = .ok (.idiv, 1) := by decide +kernel
theorem dX5_dried_50 : decode cX5_dried 50 = .ok (.istore 8, 2) := by decide +kernel
theorem dX5_dried_52 : decode cX5_dried 52 = .ok (.iload 5, 2) := by decide +kernel
theorem dX5_dried_54 : decode cX5_dried 54 = .ok (.iload 8, 2) := by decide +kernel
theorem dX5_dried_56 : decode cX5_dried 56 = .ok (.isub, 1) := by decide +kernel
theorem dX5_dried_57 : decode cX5_dried 57 = .ok (.istore 5, 2) := by decide +kernel
theorem dX5_dried_59 : decode cX5_dried 59 = .ok (.iload 6, 2) := by decide +kernel
theorem dX5_dried_61 : decode cX5_dried 61 = .ok (.iload 8, 2) := by decide +kernel
theorem dX5_dried_63 : decode cX5_dried 63 = .ok (.iload_n 1, 1) := by decide +kernel
theorem dX5_dried_64 : decode cX5_dried 64 = .ok (.bipush 50, 2) := by decide +kernel
theorem dX5_dried_66 : decode cX5_dried 66 = .ok (.idiv, 1) := by decide +kernel
theorem dX5_dried_67 : decode cX5_dried 67 = .ok (.if_icmp .le 7, 3) := by decide +kernel
theorem dX5_dried_70 : decode cX5_dried 70 = .ok (.iload_n 3, 1) := by decide +kernel
theorem dX5_dried_71 : decode cX5_dried 71 = .ok (.goto 4, 3) := by decide +kernel
theorem dX5_dried_74 : decode cX5_dried 74 = .ok (.iconst 0, 1) := by decide +kernel
theorem dX5_dried_75 : decode cX5_dried 75 = .ok (.iadd, 1) := by decide +kernel
theorem dX5_dried_76 : decode cX5_dried 76 = .ok (.istore 6, 2) := by decide +kernel
theorem dX5_dried_78 : decode cX5_dried 78 = .ok (.iinc 7 1, 3) := by decide +kernel
theorem dX5_dried_81 : decode cX5_dried 81 = .ok (.goto (-48), 3) := by decide +kernel
theorem dX5_dried_84 : decode cX5_dried 84 = .ok (.iload 5, 2) := by decide +kernel
theorem dX5_dried_86 : decode cX5_dried 86 = .ok (.ireturn, 1) := by decide +kernel
set_option maxRecDepth 20000 in
theorem ggX5_days_X5_isDry : GoodIn wsX5_days wsX5_isDry := goodIn_r _ [5, 1, 6, 7, 8, 4, 9] (by decide +kernel) (by decide +kernel)
set_option maxRecDepth 20000 in
theorem gX5_days_X5_isDry : GoodIn wsX5_days (va_wsS RX5 231 yX5_isDry wsX5_isDry) := goodIn_app (goodIn_of _ (by decide +kernel)) ggX5_days_X5_isDry
set_option maxRecDepth 20000 in
theorem ggX5_days_X5_in : GoodIn wsX5_days wsX5_in := goodIn_r _ [9] (by decide +kernel) (by decide +kernel)
set_option maxRecDepth 20000 in
theorem gX5_days_X5_in : GoodIn wsX5_days (va_wsS RX5 58 yX5_in wsX5_in) := goodIn_app (goodIn_of _ (by decide +kernel)) ggX5_days_X5_in
set_option maxRecDepth 20000 in
theorem ggX5_days_X5_dried : GoodIn wsX5_days wsX5_dried := goodIn_r _ [13, 14, 2, 3, 4, 5, 1, 6, 7, 8, 9] (by decide +kernel) (by decide +kernel)
set_option maxRecDepth 20000 in
theorem gX5_days_X5_dried : GoodIn wsX5_days (wsV RX5 236 RX5 yX5_dried wsX5_dried) := goodIn_app (goodIn_of _ (by decide +kernel)) ggX5_days_X5_dried
theorem dX5_days_0 : decode cX5_days 0 = .ok (.iload_n 1, 1) := by decide +kernel
theorem dX5_days_1 : decode cX5_days 1 = .ok (.iload_n 2, 1) := by decide +kernel
theorem dX5_days_2 : decode cX5_days 2 = .ok (.iload_n 3, 1) := by decide +kernel
theorem dX5_days_3 : decode cX5_days 3 = .ok (.invokestatic 231, 3) := by decide +kernel
theorem dX5_days_6 : decode cX5_days 6 = .ok (.ifCond .eq 16, 3) := by decide +kernel
theorem dX5_days_9 : decode cX5_days 9 = .ok (.iload 4, 2) := by decide +kernel
theorem dX5_days_11 : decode cX5_days 11 = .ok (.i2l, 1) := by decide +kernel
theorem dX5_days_12 : decode cX5_days 12 = .ok (.lconst 0, 1) := by decide +kernel
theorem dX5_days_13 : decode cX5_days 13 = .ok (.ldc2_w 229, 3) := by decide +kernel
theorem dX5_days_16 : decode cX5_days 16 = .ok (.invokestatic 58, 3) := by decide +kernel
theorem dX5_days_19 : decode cX5_days 19 = .ok (.ifCond .ne 5, 3) := by decide +kernel
theorem dX5_days_22 : decode cX5_days 22 = .ok (.iconst (-1), 1) := by decide +kernel
theorem dX5_days_23 : decode cX5_days 23 = .ok (.ireturn, 1) := by decide +kernel
theorem dX5_days_24 : decode cX5_days 24 = .ok (.iconst 0, 1) := by decide +kernel
theorem dX5_days_25 : decode cX5_days 25 = .ok (.istore 5, 2) := by decide +kernel
theorem dX5_days_27 : decode cX5_days 27 = .ok (.iload 5, 2) := by decide +kernel
theorem dX5_days_29 : decode cX5_days 29 = .ok (.sipush 200, 3) := by decide +kernel
theorem dX5_days_32 : decode cX5_days 32 = .ok (.if_icmp .gt 26, 3) := by decide +kernel
theorem dX5_days_35 : decode cX5_days 35 = .ok (.aload_n 0, 1) := by decide +kernel
theorem dX5_days_36 : decode cX5_days 36 = .ok (.iload_n 1, 1) := by decide +kernel
theorem dX5_days_37 : decode cX5_days 37 = .ok (.iload_n 2, 1) := by decide +kernel
theorem dX5_days_38 : decode cX5_days 38 = .ok (.iload_n 3, 1) := by decide +kernel
theorem dX5_days_39 : decode cX5_days 39 = .ok (.iload 5, 2) := by decide +kernel
theorem dX5_days_41 : decode cX5_days 41 = .ok (.invokevirtual 236, 3) := by decide +kernel
theorem dX5_days_44 : decode cX5_days 44 = .ok (.iload 4, 2) := by decide +kernel
theorem dX5_days_46 : decode cX5_days 46 = .ok (.if_icmp .gt 6, 3) := by decide +kernel
theorem dX5_days_49 : decode cX5_days 49 = .ok (.iload 5, 2) := by decide +kernel
theorem dX5_days_51 : decode cX5_days 51 = .ok (.ireturn, 1) := by decide +kernel
theorem dX5_days_52 : decode cX5_days 52 = .ok (.iinc 5 1, 3) := by decide +kernel
theorem dX5_days_55 : decode cX5_days 55 = .ok (.goto (-28), 3) := by decide +kernel
theorem dX5_days_58 : decode cX5_days 58 = .ok (.bipush (-9), 2) := by decide +kernel
theorem dX5_days_60 : decode cX5_days 60 = .ok (.ireturn, 1) := by decide +kernel
set_option maxRecDepth 20000 in
theorem ggX5_test_X5_in : GoodIn wsX5_test wsX5_in := goodIn_r _ [9] (by decide +kernel) (by decide +kernel)
set_option maxRecDepth 20000 in
theorem gX5_test_X5_in : GoodIn wsX5_test (va_wsS RX5 58 yX5_in wsX5_in) := goodIn_app (goodIn_of _ (by decide +kernel)) ggX5_test_X5_in
theorem dX5_test_0 : decode cX5_test 0 = .ok (.iload_n 1, 1) := by decide +kernel
theorem dX5_test_1 : decode cX5_test 1 = .ok (.i2l, 1) := by decide +kernel
theorem dX5_test_2 : decode cX5_test 2 = .ok (.lconst 0, 1) := by decide +kernel
theorem dX5_test_3 : decode cX5_test 3 = .ok (.ldc2_w 240, 3) := by decide +kernel
theorem dX5_test_6 : decode cX5_test 6 = .ok (.invokestatic 58, 3) := by decide +kernel
theorem dX5_test_9 : decode cX5_test 9 = .ok (.ifCond .eq 15, 3) := by decide +kernel
theorem dX5_test_12 : decode cX5_test 12 = .ok (.iload_n 2, 1) := by decide +kernel
theorem dX5_test_13 : decode cX5_test 13 = .ok (.i2l, 1) := by decide +kernel
theorem dX5_test_14 : decode cX5_test 14 = .ok (.lconst 0, 1) := by decide +kernel
theorem dX5_test_15 : decode cX5_test 15 = .ok (.ldc2_w 217, 3) := by decide +kernel
theorem dX5_test_18 : decode cX5_test 18 = .ok (.invokestatic 58, 3) := by decide +kernel
theorem dX5_test_21 : decode cX5_test 21 = .ok (.ifCond .ne 5, 3) := by decide +kernel
theorem dX5_test_24 : decode cX5_test 24 = .ok (.iconst (-1), 1) := by decide +kernel
theorem dX5_test_25 : decode cX5_test 25 = .ok (.ireturn, 1) := by decide +kernel
theorem dX5_test_26 : decode cX5_test 26 = .ok (.aload_n 0, 1) := by decide +kernel
theorem dX5_test_27 : decode cX5_test 27 = .ok (.getfield 242, 3) := by decide +kernel
theorem dX5_test_30 : decode cX5_test 30 = .ok (.bipush 20, 2) := by decide +kernel
theorem dX5_test_32 : decode cX5_test 32 = .ok (.if_icmp .ne 6, 3) := by decide +kernel
theorem dX5_test_35 : decode cX5_test 35 = .ok (.bipush (-3), 2) := by decide +kernel
theorem dX5_test_37 : decode cX5_test 37 = .ok (.ireturn, 1) := by decide +kernel
theorem dX5_test_38 : decode cX5_test 38 = .ok (.aload_n 0, 1) := by decide +kernel
theorem dX5_test_39 : decode cX5_test 39 = .ok (.getfield 46, 3) := by decide +kernel
theorem dX5_test_42 : decode cX5_test 42 = .ok (.aload_n 0, 1) := by decide +kernel
theorem dX5_test_43 : decode cX5_test 43 = .ok (.getfield 242, 3) := by decide +kernel
theorem dX5_test_46 : decode cX5_test 46 = .ok (.iload_n 1, 1) := by decide +kernel
theorem dX5_test_47 : decode cX5_test 47 = .ok (.iastore, 1) := by decide +kernel
theorem dX5_test_48 : decode cX5_test 48 = .ok (.aload_n 0, 1) := by decide +kernel
theorem dX5_test_49 : decode cX5_test 49 = .ok (.getfield 49, 3) := by decide +kernel
theorem dX5_test_52 : decode cX5_test 52 = .ok (.aload_n 0, 1) := by decide +kernel
theorem dX5_test_53 : decode cX5_test 53 = .ok (.getfield 242, 3) := by decide +kernel
theorem dX5_test_56 : decode cX5_test 56 = .ok (.iload_n 2, 1) := by decide +kernel
theorem dX5_test_57 : decode cX5_test 57 = .ok (.iastore, 1) := by decide +kernel
theorem dX5_test_58 : decode cX5_test 58 = .ok (.aload_n 0, 1) := by decide +kernel
theorem dX5_test_59 : decode cX5_test 59 = .ok (.dup, 1) := by decide +kernel
theorem dX5_test_60 : decode cX5_test 60 = .ok (.getfield 242, 3) := by decide +kernel
theorem dX5_test_63 : decode cX5_test 63 = .ok (.iconst 1, 1) := by decide +kernel
theorem dX5_test_64 : decode cX5_test 64 = .ok (.iadd, 1) := by decide +kernel
theorem dX5_test_65 : decode cX5_test 65 = .ok (.putfield 242, 3) := by decide +kernel
theorem dX5_test_68 : decode cX5_test 68 = .ok (.aload_n 0, 1) := by decide +kernel
theorem dX5_test_69 : decode cX5_test 69 = .ok (.getfield 242, 3) := by decide +kernel
theorem dX5_test_72 : decode cX5_test 72 = .ok (.ireturn, 1) := by decide +kernel
set_option maxRecDepth 20000 in
theorem ggX5_holds_X5_in : GoodIn wsX5_holds wsX5_in := goodIn_r _ [8] (by decide +kernel) (by decide +kernel)
set_option maxRecDepth 20000 in
theorem gX5_holds_X5_in : GoodIn wsX5_holds (va_wsS RX5 58 yX5_in wsX5_in) := goodIn_app (goodIn_of _ (by decide +kernel)) ggX5_holds_X5_in
theorem dX5_holds_0 : decode cX5_holds 0 = .ok (.iload_n 1, 1) := by decide +kernel
theorem dX5_holds_1 : decode cX5_holds 1 = .ok (.i2l, 1) := by decide +kernel
theorem dX5_holds_2 : decode cX5_holds 2 = .ok (.lconst 0, 1) := by decide +kernel
theorem dX5_holds_3 : decode cX5_holds 3 = .ok (.ldc2_w 148, 3) := by decide +kernel
theorem dX5_holds_6 : decode cX5_holds 6 = .ok (.invokestatic 58, 3) := by decide +kernel
theorem dX5_holds_9 : decode cX5_holds 9 = .ok (.ifCond .ne 5, 3) := by decide +kernel
theorem dX5_holds_12 : decode cX5_holds 12 = .ok (.iconst (-1), 1) := by decide +kernel
theorem dX5_holds_13 : decode cX5_holds 13 = .ok (.ireturn, 1) := by decide +kernel
theorem dX5_holds_14 : decode cX5_holds 14 = .ok (.bipush (-9), 2) := by decide +kernel
theorem dX5_holds_16 : decode cX5_holds 16 = .ok (.istore_n 2, 1) := by decide +kernel
theorem dX5_holds_17 : decode cX5_holds 17 = .ok (.bipush (-9), 2) := by decide +kernel
theorem dX5_holds_19 : decode cX5_holds 19 = .ok (.istore_n 3, 1) := by decide +kernel
theorem dX5_holds_20 : decode cX5_holds 20 = .ok (.iconst 0, 1) := by decide +kernel
theorem dX5_holds_21 : decode cX5_holds 21 = .ok (.istore 4, 2) := by decide +kernel
theorem dX5_holds_23 : decode cX5_holds 23 = .ok (.iload 4, 2) := by decide +kernel
theorem dX5_holds_25 : decode cX5_holds 25 = .ok (.aload_n 0, 1) := by decide +kernel
theorem dX5_holds_26 : decode cX5_holds 26 = .ok (.getfield 242, 3) := by decide +kernel
theorem dX5_holds_29 : decode cX5_holds 29 = .ok (.if_icmp .ge 88, 3) := by decide +kernel
theorem dX5_holds_32 : decode cX5_holds 32 = .ok (.aload_n 0, 1) := by decide +kernel
theorem dX5_holds_33 : decode cX5_holds 33 = .ok (.getfield 49, 3) := by decide +kernel
theorem dX5_holds_36 : decode cX5_holds 36 = .ok (.iload 4, 2) := by decide +kernel
theorem dX5_holds_38 : decode cX5_holds 38 = .ok (.iaload, 1) := by decide +kernel
theorem dX5_holds_39 : decode cX5_holds 39 = .ok (.bipush 100, 2) := by decide +kernel
theorem dX5_holds_41 : decode cX5_holds 41 = .ok (.if_icmp .gt 7, 3) := by decide +kernel
theorem dX5_holds_44 : decode cX5_holds 44 = .ok (.iconst 1, 1) := by decide +kernel
theorem dX5_holds_45 : decode cX5_holds 45 = .ok (.goto 4, 3) := by decide +kernel
theorem dX5_holds_48 : decode cX5_holds 48 = .ok (.iconst 0, 1) := by decide +kernel
theorem dX5_holds_49 : decode cX5_holds 49 = .ok (.istore 5, 2) := by decide +kernel
theorem dX5_holds_51 : decode cX5_holds 51 = .ok (.iload 5, 2) := by decide +kernel
theorem dX5_holds_53 : decode cX5_holds 53 = .ok (.ifCond .eq 28, 3) := by decide +kernel
theorem dX5_holds_56 : decode cX5_holds 56 = .ok (.iload_n 2, 1) := by decide +kernel
theorem dX5_holds_57 : decode cX5_holds 57 = .ok (.ifCond .lt 14, 3) := by decide +kernel
theorem dX5_holds_60 : decode cX5_holds 60 = .ok (.aload_n 0, 1) := by decide +kernel
theorem dX5_holds_61 : decode cX5_holds 61 = .ok (.getfield 46, 3) := by decide +kernel
theorem dX5_holds_64 : decode cX5_holds 64 = .ok (.iload 4, 2) := by decide +kernel
theorem dX5_holds_66 : decode cX5_holds 66 = .ok (.iaload, 1) := by decide +kernel
theorem dX5_holds_67 : decode cX5_holds 67 = .ok (.iload_n 2, 1) := by decide +kernel
theorem dX5_holds_68 : decode cX5_holds 68 = .ok (.if_icmp .ge 13, 3) := by decide +kernel
theorem dX5_holds_71 : decode cX5_holds 71 = .ok (.aload_n 0, 1) := by decide +kernel
theorem dX5_holds_72 : decode cX5_holds 72 = .ok (.getfield 46, 3) := by decide +kernel
theorem dX5_holds_75 : decode cX5_holds 75 = .ok (.iload 4, 2) := by decide +kernel
theorem dX5_holds_77 : decode cX5_holds 77 = .ok (.iaload, 1) := by decide +kernel
theorem dX5_holds_78 : decode cX5_holds 78 = .ok (.goto 4, 3) := by decide +kernel
theorem dX5_holds_81 : decode cX5_holds 81 = .ok (.iload_n 2, 1) := by decide +kernel
theorem dX5_holds_82 : decode cX5_holds 82 = .ok (.istore_n 2, 1) := by decide +kernel
theorem dX5_holds_83 : decode cX5_holds 83 = .ok (.iload 5, 2) := by decide +kernel
theorem dX5_holds_85 : decode cX5_holds 85 = .ok (.ifCond .ne 24, 3) := by decide +kernel
theorem dX5_holds_88 : decode cX5_holds 88 = .ok (.aload_n 0, 1) := by decide +kernel
theorem dX5_holds_89 : decode cX5_holds 89 = .ok (.getfield 46, 3) := by decide +kernel
theorem dX5_holds_92 : decode cX5_holds 92 = .ok (.iload 4, 2) := by decide +kernel
theorem dX5_holds_94 : decode cX5_holds 94 = .ok (.iaload, 1) := by decide +kernel
theorem dX5_holds_95 : decode cX5_holds 95 = .ok (.iload_n 3, 1) := by decide +kernel
theorem dX5_holds_96 : decode cX5_holds 96 = .ok (.if_icmp .le 13, 3) := by decide +kernel
theorem dX5_holds_99 : decode cX5_holds 99 = .ok (.aload_n 0, 1) := by decide +kernel
theorem dX5_holds_100 : decode cX5_holds 100 = .ok (.getfield 46, 3) := by decide +kernel
theorem dX5_holds_103 : decode cX5_holds 103 = .ok (.iload 4, 2) := by decide +kernel
theorem dX5_holds_105 : decode cX5_holds 105 = .ok (.iaload, 1) := by decide +kernel
theorem dX5_holds_106 : decode cX5_holds 106 = .ok (.goto 4, 3) := by decide +kernel
theorem dX5_holds_109 : decode cX5_holds 109 = .ok (.iload_n 3, 1) := by decide +kernel
theorem dX5_holds_110 : decode cX5_holds 110 = .ok (.istore_n 3, 1) := by decide +kernel
theorem dX5_holds_111 : decode cX5_holds 111 = .ok (.iinc 4 1, 3) := by decide +kernel
theorem dX5_holds_114 : decode cX5_holds 114 = .ok (.goto (-91), 3) := by decide +kernel
theorem dX5_holds_117 : decode cX5_holds 117 = .ok (.iload_n 1, 1) := by decide +kernel
theorem dX5_holds_118 : decode cX5_holds 118 = .ok (.ifCond .ne 7, 3) := by decide +kernel
theorem dX5_holds_121 : decode cX5_holds 121 = .ok (.iload_n 2, 1) := by decide +kernel
theorem dX5_holds_122 : decode cX5_holds 122 = .ok (.goto 26, 3) := by decide +kernel
theorem dX5_holds_125 : decode cX5_holds 125 = .ok (.iload_n 1, 1) := by decide +kernel
theorem dX5_holds_126 : decode cX5_holds 126 = .ok (.iconst 1, 1) := by decide +kernel
theorem dX5_holds_127 : decode cX5_holds 127 = .ok (.if_icmp .ne 7, 3) := by decide +kernel
theorem dX5_holds_130 : decode cX5_holds 130 = .ok (.iload_n 3, 1) := by decide +kernel
theorem dX5_holds_131 : decode cX5_holds 131 = .ok (.goto 17, 3) := by decide +kernel
theorem dX5_holds_134 : decode cX5_holds 134 = .ok (.iload_n 2, 1) := by decide +kernel
theorem dX5_holds_135 : decode cX5_holds 135 = .ok (.ifCond .lt 8, 3) := by decide +kernel
theorem dX5_holds_138 : decode cX5_holds 138 = .ok (.iload_n 3, 1) := by decide +kernel
theorem dX5_holds_139 : decode cX5_holds 139 = .ok (.iload_n 2, 1) := by decide +kernel
theorem dX5_holds_140 : decode cX5_holds 140 = .ok (.if_icmp .ge 7, 3) := by decide +kernel
theorem dX5_holds_143 : decode cX5_holds 143 = .ok (.iconst 1, 1) := by decide +kernel
theorem dX5_holds_144 : decode cX5_holds 144 = .ok (.goto 4, 3) := by decide +kernel
theorem dX5_holds_147 : decode cX5_holds 147 = .ok (.iconst 0, 1) := by decide +kernel
theorem dX5_holds_148 : decode cX5_holds 148 = .ok (.ireturn, 1) := by decide +kernel
set_option maxRecDepth 20000 in
theorem ggX5_tube_X5_in : GoodIn wsX5_tube wsX5_in := goodIn_r _ [6] (by decide +kernel) (by decide +kernel)
set_option maxRecDepth 20000 in
theorem gX5_tube_X5_in : GoodIn wsX5_tube (va_wsS RX5 58 yX5_in wsX5_in) := goodIn_app (goodIn_of _ (by decide +kernel)) ggX5_tube_X5_in
theorem dX5_tube_0 : decode cX5_tube 0 = .ok (.iload_n 1, 1) := by decide +kernel
theorem dX5_tube_1 : decode cX5_tube 1 = .ok (.i2l, 1) := by decide +kernel
theorem dX5_tube_2 : decode cX5_tube 2 = .ok (.lconst 1, 1) := by decide +kernel
theorem dX5_tube_3 : decode cX5_tube 3 = .ok (.ldc2_w 162, 3) := by decide +kernel
theorem dX5_tube_6 : decode cX5_tube 6 = .ok (.invokestatic 58, 3) := by decide +kernel
theorem dX5_tube_9 : decode cX5_tube 9 = .ok (.ifCond .eq 25, 3) := by decide +kernel
theorem dX5_tube_12 : decode cX5_tube 12 = .ok (.iload_n 2, 1) := by decide +kernel
theorem dX5_tube_13 : decode cX5_tube 13 = .ok (.i2l, 1) := by decide +kernel
theorem dX5_tube_14 : decode cX5_tube 14 = .ok (.lconst 1, 1) := by decide +kernel
theorem dX5_tube_15 : decode cX5_tube 15 = .ok (.ldc2_w 217, 3) := by decide +kernel
theorem dX5_tube_18 : decode cX5_tube 18 = .ok (.invokestatic 58, 3) := by decide +kernel
theorem dX5_tube_21 : decode cX5_tube 21 = .ok (.ifCond .eq 13, 3) := by decide +kernel
theorem dX5_tube_24 : decode cX5_tube 24 = .ok (.iload_n 3, 1) := by decide +kernel
theorem dX5_tube_25 : decode cX5_tube 25 = .ok (.i2l, 1) := by decide +kernel
theorem dX5_tube_26 : decode cX5_tube 26 = .ok (.lconst 0, 1) := by decide +kernel
theorem dX5_tube_27 : decode cX5_tube 27 = .ok (.lconst 1, 1) := by decide +kernel
theorem dX5_tube_28 : decode cX5_tube 28 = .ok (.invokestatic 58, 3) := by decide +kernel
theorem dX5_tube_31 : decode cX5_tube 31 = .ok (.ifCond .ne 5, 3) := by decide +kernel
theorem dX5_tube_34 : decode cX5_tube 34 = .ok (.iconst (-1), 1) := by decide +kernel
theorem dX5_tube_35 : decode cX5_tube 35 = .ok (.ireturn, 1) := by decide +kernel
theorem dX5_tube_36 : decode cX5_tube 36 = .ok (.iload_n 3, 1) := by decide +kernel
theorem dX5_tube_37 : decode cX5_tube 37 = .ok (.ifCond .ne 9, 3) := by decide +kernel
theorem dX5_tube_40 : decode cX5_tube 40 = .ok (.iload_n 2, 1) := by decide +kernel
theorem dX5_tube_41 : decode cX5_tube 41 = .ok (.iload_n 1, 1) := by decide +kernel
theorem dX5_tube_42 : decode cX5_tube 42 = .ok (.idiv, 1) := by decide +kernel
theorem dX5_tube_43 : decode cX5_tube 43 = .ok (.goto 8, 3) := by decide +kernel
theorem dX5_tube_46 : decode cX5_tube 46 = .ok (.iconst 2, 1) := by decide +kernel
theorem dX5_tube_47 : decode cX5_tube 47 = .ok (.iload_n 2, 1) := by decide +kernel
theorem dX5_tube_48 : decode cX5_tube 48 = .ok (.imul, 1) := by decide +kernel
theorem dX5_tube_49 : decode cX5_tube 49 = .ok (.iload_n 1, 1) := by decide +kernel
theorem dX5_tube_50 : decode cX5_tube 50 = .ok (.idiv, 1) := by decide +kernel
theorem dX5_tube_51 : decode cX5_tube 51 = .ok (.ireturn, 1) := by decide +kernel
set_option maxRecDepth 20000 in
theorem ggX5_mark_X5_in : GoodIn wsX5_mark wsX5_in := goodIn_r _ [14] (by decide +kernel) (by decide +kernel)
set_option maxRecDepth 20000 in
theorem gX5_mark_X5_in : GoodIn wsX5_mark (va_wsS RX5 58 yX5_in wsX5_in) := goodIn_app (goodIn_of _ (by decide +kernel)) ggX5_mark_X5_in
set_option maxRecDepth 20000 in
theorem ggX5_mark_X5_press : GoodIn wsX5_mark wsX5_press := goodIn_r _ [18, 4, 19, 20, 21, 22, 23, 24, 25, 26, 27, 28, 29, 30, 31, 32, 33, 34, 35, 36, 37, 38, 39, 40, 41, 42, 43, 44] (by decide +kernel) (by decide +kernel)
set_option maxRecDepth 20000 in
theorem gX5_mark_X5_press : GoodIn wsX5_mark (wsV RX5 150 RX5 yX5_press wsX5_press) := goodIn_app (goodIn_of _ (by decide +kernel)) ggX5_mark_X5_press
theorem dX5_mark_0 : decode cX5_mark 0 = .ok (.iload_n 1, 1) := by decide +kernel
theorem dX5_mark_1 : decode cX5_mark 1 = .ok (.i2l, 1) := by decide +kernel
theorem dX5_mark_2 : decode cX5_mark 2 = .ok (.lconst 0, 1) := by decide +kernel
theorem dX5_mark_3 : decode cX5_mark 3 = .ok (.ldc2_w 245, 3) := by decide +kernel
theorem dX5_mark_6 : decode cX5_mark 6 = .ok (.invokestatic 58, 3) := by decide +kernel
theorem dX5_mark_9 : decode cX5_mark 9 = .ok (.ifCond .eq 15, 3) := by decide +kernel
theorem dX5_mark_12 : decode cX5_mark 12 = .ok (.iload_n 2, 1) := by decide +kernel
theorem dX5_mark_13 : decode cX5_mark 13 = .ok (.i2l, 1) := by decide +kernel
theorem dX5_mark_14 : decode cX5_mark 14 = .ok (.lconst 0, 1) := by decide +kernel
theorem dX5_mark_15 : decode cX5_mark 15 = .ok (.ldc2_w 172, 3) := by decide +kernel
theorem dX5_mark_18 : decode cX5_mark 18 = .ok (.invokestatic 58, 3) := by decide +kernel
theorem dX5_mark_21 : decode cX5_mark 21 = .ok (.ifCond .ne 6, 3) := by decide +kernel
theorem dX5_mark_24 : decode cX5_mark 24 = .ok (.ldc 247, 2) := by decide +kernel
theorem dX5_mark_26 : decode cX5_mark 26 = .ok (.ireturn, 1) := by decide +kernel
theorem dX5_mark_27 : decode cX5_mark 27 = .ok (.aload_n 0, 1) := by decide +kernel
theorem dX5_mark_28 : decode cX5_mark 28 = .ok (.getfield 23, 3) := by decide +kernel
theorem dX5_mark_31 : decode cX5_mark 31 = .ok (.iload_n 2, 1) := by decide +kernel
theorem dX5_mark_32 : decode cX5_mark 32 = .ok (.iaload, 1) := by decide +kernel
theorem dX5_mark_33 : decode cX5_mark 33 = .ok (.istore_n 3, 1) := by decide +kernel
theorem dX5_mark_34 : decode cX5_mark 34 = .ok (.aload_n 0, 1) := by decide +kernel
theorem dX5_mark_35 : decode cX5_mark 35 = .ok (.dup, 1) := by decide +kernel
theorem dX5_mark_36 : decode cX5_mark 36 = .ok (.getfield 248, 3) := by decide +kernel
theorem dX5_mark_39 : decode cX5_mark 39 = .ok (.lconst 1, 1) := by decide +kernel
theorem dX5_mark_40 : decode cX5_mark 40 = .ok (.ladd, 1) := by decide +kernel
theorem dX5_mark_41 : decode cX5_mark 41 = .ok (.putfield 248, 3) := by decide +kernel
theorem dX5_mark_44 : decode cX5_mark 44 = .ok (.iload_n 1, 1) := by decide +kernel
theorem dX5_mark_45 : decode cX5_mark 45 = .ok (.iconst 1, 1) := by decide +kernel
theorem dX5_mark_46 : decode cX5_mark 46 = .ok (.if_icmp .eq 8, 3) := by decide +kernel
theorem dX5_mark_49 : decode cX5_mark 49 = .ok (.iload_n 1, 1) := by decide +kernel
theorem dX5_mark_50 : decode cX5_mark 50 = .ok (.iconst 4, 1) := by decide +kernel
theorem dX5_mark_51 : decode cX5_mark 51 = .ok (.if_icmp .ne 26, 3) := by decide +kernel
theorem dX5_mark_54 : decode cX5_mark 54 = .ok (.iload_n 3, 1) := by decide +kernel
theorem dX5_mark_55 : decode cX5_mark 55 = .ok (.aload_n 0, 1) := by decide +kernel
theorem dX5_mark_56 : decode cX5_mark 56 = .ok (.getfield 23, 3) := by decide +kernel
theorem dX5_mark_59 : decode cX5_mark 59 = .ok (.iconst 5, 1) := by decide +kernel
theorem dX5_mark_60 : decode cX5_mark 60 = .ok (.iload_n 2, 1) := by decide +kernel
theorem dX5_mark_61 : decode cX5_mark 61 = .ok (.iadd, 1) := by decide +kernel
theorem dX5_mark_62 : decode cX5_mark 62 = .ok (.iaload, 1) := by decide +kernel
theorem dX5_mark_63 : decode cX5_mark 63 = .ok (.iadd, 1) := by decide +kernel
theorem dX5_mark_64 : decode cX5_mark 64 = .ok (.istore_n 3, 1) := by decide +kernel
theorem dX5_mark_65 : decode cX5_mark 65 = .ok (.aload_n 0, 1) := by decide +kernel
theorem dX5_mark_66 : decode cX5_mark 66 = .ok (.dup, 1) := by decide +kernel
theorem dX5_mark_67 : decode cX5_mark 67 = .ok (.getfield 248, 3) := by decide +kernel
theorem dX5_mark_70 : decode cX5_mark 70 = .ok (.ldc2_w 143, 3) := by decide +kernel
theorem dX5_mark_73 : decode cX5_mark 73 = .ok (.ladd, 1) := by decide +kernel
theorem dX5_mark_74 : decode cX5_mark 74 = .ok (.putfield 248, 3) := by decide +kernel
theorem dX5_mark_77 : decode cX5_mark 77 = .ok (.iload_n 1, 1) := by decide +kernel
theorem dX5_mark_78 : decode cX5_mark 78 = .ok (.iconst 2, 1) := by decide +kernel
theorem dX5_mark_79 : decode cX5_mark 79 = .ok (.if_icmp .eq 8, 3) := by decide +kernel
theorem dX5_mark_82 : decode cX5_mark 82 = .ok (.iload_n 1, 1) := by decide +kernel
theorem dX5_mark_83 : decode cX5_mark 83 = .ok (.iconst 3, 1) := by decide +kernel
theorem dX5_mark_84 : decode cX5_mark 84 = .ok (.if_icmp .ne 23, 3) := by decide +kernel
theorem dX5_mark_87 : decode cX5_mark 87 = .ok (.iload_n 3, 1) := by decide +kernel
theorem dX5_mark_88 : decode cX5_mark 88 = .ok (.aload_n 0, 1) := by decide +kernel
theorem dX5_mark_89 : decode cX5_mark 89 = .ok (.iconst 0, 1) := by decide +kernel
theorem dX5_mark_90 : decode cX5_mark 90 = .ok (.invokevirtual 150, 3) := by decide +kernel
theorem dX5_mark_93 : decode cX5_mark 93 = .ok (.isub, 1) := by decide +kernel
theorem dX5_mark_94 : decode cX5_mark 94 = .ok (.istore_n 3, 1) := by decide +kernel
theorem dX5_mark_95 : decode cX5_mark 95 = .ok (.aload_n 0, 1) := by decide +kernel
theorem dX5_mark_96 : decode cX5_mark 96 = .ok (.dup, 1) := by decide +kernel
theorem dX5_mark_97 : decode cX5_mark 97 = .ok (.getfield 248, 3) := by decide +kernel
theorem dX5_mark_100 : decode cX5_mark 100 = .ok (.ldc2_w 170, 3) := by decide +kernel
theorem dX5_mark_103 : decode cX5_mark 103 = .ok (.ladd, 1) := by decide +kernel
theorem dX5_mark_104 : decode cX5_mark 104 = .ok (.putfield 248, 3) := by decide +kernel
theorem dX5_mark_107 : decode cX5_mark 107 = .ok (.iload_n 1, 1) := by decide +kernel
theorem dX5_mark_108 : decode cX5_mark 108 = .ok (.iconst 3, 1) := by decide +kernel
theorem dX5_mark_109 : decode cX5_mark 109 = .ok (.if_icmp .ne 19, 3) := by decide +kernel
theorem dX5_mark_112 : decode cX5_mark 112 = .ok (.iload_n 3, 1) := by decide +kernel
theorem dX5_mark_113 : decode cX5_mark 113 = .ok (.iconst 2, 1) := by decide +kernel
theorem dX5_mark_114 : decode cX5_mark 114 = .ok (.imul, 1) := by decide +kernel
theorem dX5_mark_115 : decode cX5_mark 115 = .ok (.istore_n 3, 1) := by decide +kernel
theorem dX5_mark_116 : decode cX5_mark 116 = .ok (.aload_n 0, 1) := by decide +kernel
theorem dX5_mark_117 : decode cX5_mark 117 = .ok (.dup, 1) := by decide +kernel
theorem dX5_mark_118 : decode cX5_mark 118 = .ok (.getfield 248, 3) := by decide +kernel
theorem dX5_mark_121 : decode cX5_mark 121 = .ok (.ldc2_w 252, 3) := by decide +kernel
theorem dX5_mark_124 : decode cX5_mark 124 = .ok (.ladd, 1) := by decide +kernel
theorem dX5_mark_125 : decode cX5_mark 125 = .ok (.putfield 248, 3) := by decide +kernel
theorem dX5_mark_128 : decode cX5_mark 128 = .ok (.iload_n 1, 1) := by decide +kernel
theorem dX5_mark_129 : decode cX5_mark 129 = .ok (.iconst 4, 1) := by decide +kernel
theorem dX5_mark_130 : decode cX5_mark 130 = .ok (.if_icmp .ne 24, 3) := by decide +kernel
theorem dX5_mark_133 : decode cX5_mark 133 = .ok (.iload_n 3, 1) := by decide +kernel
theorem dX5_mark_134 : decode cX5_mark 134 = .ok (.aload_n 0, 1) := by decide +kernel
theorem dX5_mark_135 : decode cX5_mark 135 = .ok (.getfield 23, 3) := by decide +kernel
theorem dX5_mark_138 : decode cX5_mark 138 = .ok (.iconst 4, 1) := by decide +kernel
theorem dX5_mark_139 : decode cX5_mark 139 = .ok (.iaload, 1) := by decide +kernel
theorem dX5_mark_140 : decode cX5_mark 140 = .ok (.isub, 1) := by decide +kernel
theorem dX5_mark_141 : decode cX5_mark 141 = .ok (.istore_n 3, 1) := by decide +kernel
theorem dX5_mark_142 : decode cX5_mark 142 = .ok (.aload_n 0, 1) := by decide +kernel
theorem dX5_mark_143 : decode cX5_mark 143 = .ok (.dup, 1) := by decide +kernel
theorem dX5_mark_144 : decode cX5_mark 144 = .ok (.getfield 248, 3) := by decide +kernel
theorem dX5_mark_147 : decode cX5_mark 147 = .ok (.ldc2_w 254, 3) := by decide +kernel
theorem dX5_mark_150 : decode cX5_mark 150 = .ok (.ladd, 1) := by decide +kernel
theorem dX5_mark_151 : decode cX5_mark 151 = .ok (.putfield 248, 3) := by decide +kernel
theorem dX5_mark_154 : decode cX5_mark 154 = .ok (.iload_n 1, 1) := by decide +kernel
theorem dX5_mark_155 : decode cX5_mark 155 = .ok (.iconst 5, 1) := by decide +kernel
theorem dX5_mark_156 : decode cX5_mark 156 = .ok (.if_icmp .ne 25, 3) := by decide +kernel
theorem dX5_mark_159 : decode cX5_mark 159 = .ok (.iload_n 3, 1) := by decide +kernel
theorem dX5_mark_160 : decode cX5_mark 160 = .ok (.aload_n 0, 1) := by decide +kernel
theorem dX5_mark_161 : decode cX5_mark 161 = .ok (.getfield 23, 3) := by decide +kernel
theorem dX5_mark_164 : decode cX5_mark 164 = .ok (.bipush 9, 2) := by decide +kernel
theorem dX5_mark_166 : decode cX5_mark 166 = .ok (.iaload, 1) := by decide +kernel
theorem dX5_mark_167 : decode cX5_mark 167 = .ok (.iadd, 1) := by decide +kernel
theorem dX5_mark_168 : decode cX5_mark 168 = .ok (.istore_n 3, 1) := by decide +kernel
theorem dX5_mark_169 : decode cX5_mark 169 = .ok (.aload_n 0, 1) := by decide +kernel
theorem dX5_mark_170 : decode cX5_mark 170 = .ok (.dup, 1) := by decide +kernel
theorem dX5_mark_171 : decode cX5_mark 171 = .ok (.getfield 248, 3) := by decide +kernel
theorem dX5_mark_174 : decode cX5_mark 174 = .ok (.ldc2_w 256, 3) := by decide +kernel
theorem dX5_mark_177 : decode cX5_mark 177 = .ok (.ladd, 1) := by decide +kernel
theorem dX5_mark_178 : decode cX5_mark 178 = .ok (.putfield 248, 3) := by decide +kernel
theorem dX5_mark_181 : decode cX5_mark 181 = .ok (.iload_n 3, 1) := by decide +kernel
theorem dX5_mark_182 : decode cX5_mark 182 = .ok (.ireturn, 1) := by decide +kernel
set_option maxRecDepth 20000 in
theorem ggX5_isImage_X5_in : GoodIn wsX5_isImage wsX5_in := goodIn_r _ [4] (by decide +kernel) (by decide +kernel)
set_option maxRecDepth 20000 in
theorem gX5_isImage_X5_in : GoodIn wsX5_isImage (va_wsS RX5 58 yX5_in wsX5_in) := goodIn_app (goodIn_of _ (by decide +kernel)) ggX5_isImage_X5_in
theorem dX5_isImage_0 : decode cX5_isImage 0 = .ok (.iload_n 0, 1) := by decide +kernel
theorem dX5_isImage_1 : decode cX5_isImage 1 = .ok (.i2l, 1) := by decide +kernel
theorem dX5_isImage_2 : decode cX5_isImage 2 = .ok (.lconst 0, 1) := by decide +kernel
theorem dX5_isImage_3 : decode cX5_isImage 3 = .ok (.lconst 1, 1) := by decide +kernel
theorem dX5_isImage_4 : decode cX5_isImage 4 = .ok (.invokestatic 58, 3) := by decide +kernel
theorem dX5_isImage_7 : decode cX5_isImage 7 = .ok (.ireturn, 1) := by decide +kernel
set_option maxRecDepth 20000 in
theorem ggX5_keep_X5_isImage : GoodIn wsX5_keep wsX5_isImage := goodIn_r _ [6, 7, 8, 5, 9] (by decide +kernel) (by decide +kernel)
set_option maxRecDepth 20000 in
theorem gX5_keep_X5_isImage : GoodIn wsX5_keep (va_wsS RX5 258 yX5_isImage wsX5_isImage) := goodIn_app (goodIn_of _ (by decide +kernel)) ggX5_keep_X5_isImage
set_option maxRecDepth 20000 in
theorem ggX5_keep_X5_copies : GoodIn wsX5_keep wsX5_copies := goodIn_r _ [13, 2, 14, 15, 16, 17, 18, 19, 20, 21, 22, 23, 24, 25, 26, 27, 28, 29, 30, 31, 32, 33, 34, 35, 36, 37, 38] (by decide +kernel) (by decide +kernel)
set_option maxRecDepth 20000 in
theorem gX5_keep_X5_copies : GoodIn wsX5_keep (wsV RX5 261 RX5 yX5_copies wsX5_copies) := goodIn_app (goodIn_of _ (by decide +kernel)) ggX5_keep_X5_copies
theorem dX5_keep_0 : decode cX5_keep 0 = .ok (.iload_n 1, 1) := by decide +kernel
theorem dX5_keep_1 : decode cX5_keep 1 = .ok (.invokestatic 258, 3) := by decide +kernel
theorem dX5_keep_4 : decode cX5_keep 4 = .ok (.ifCond .ne 5, 3) := by decide +kernel
theorem dX5_keep_7 : decode cX5_keep 7 = .ok (.iconst (-1), 1) := by decide +kernel
theorem dX5_keep_8 : decode cX5_keep 8 = .ok (.ireturn, 1) := by decide +kernel
theorem dX5_keep_9 : decode cX5_keep 9 = .ok (.aload_n 0, 1) := by decide +kernel
theorem dX5_keep_10 : decode cX5_keep 10 = .ok (.iconst 0, 1) := by decide +kernel
theorem dX5_keep_11 : decode cX5_keep 11 = .ok (.iload_n 1, 1) := by decide +kernel
theorem dX5_keep_12 : decode cX5_keep 12 = .ok (.iconst 1, 1) := by decide +kernel
theorem dX5_keep_13 : decode cX5_keep 13 = .ok (.iadd, 1) := by decide +kernel
theorem dX5_keep_14 : decode cX5_keep 14 = .ok (.invokevirtual 261, 3) := by decide +kernel
theorem dX5_keep_17 : decode cX5_keep 17 = .ok (.aload_n 0, 1) := by decide +kernel
theorem dX5_keep_18 : decode cX5_keep 18 = .ok (.getfield 26, 3) := by decide +kernel
theorem dX5_keep_21 : decode cX5_keep 21 = .ok (.iload_n 1, 1) := by decide +kernel
theorem dX5_keep_22 : decode cX5_keep 22 = .ok (.iconst 1, 1) := by decide +kernel
theorem dX5_keep_23 : decode cX5_keep 23 = .ok (.bastore, 1) := by decide +kernel
theorem dX5_keep_24 : decode cX5_keep 24 = .ok (.aload_n 0, 1) := by decide +kernel
theorem dX5_keep_25 : decode cX5_keep 25 = .ok (.getfield 23, 3) := by decide +kernel
theorem dX5_keep_28 : decode cX5_keep 28 = .ok (.bipush 12, 2) := by decide +kernel
theorem dX5_keep_30 : decode cX5_keep 30 = .ok (.iaload, 1) := by decide +kernel
theorem dX5_keep_31 : decode cX5_keep 31 = .ok (.ireturn, 1) := by decide +kernel
set_option maxRecDepth 20000 in
theorem ggX5_back_X5_isImage : GoodIn wsX5_back wsX5_isImage := goodIn_r _ [6, 7, 8, 5, 9] (by decide +kernel) (by decide +kernel)
set_option maxRecDepth 20000 in
theorem gX5_back_X5_isImage : GoodIn wsX5_back (va_wsS RX5 258 yX5_isImage wsX5_isImage) := goodIn_app (goodIn_of _ (by decide +kernel)) ggX5_back_X5_isImage
set_option maxRecDepth 20000 in
theorem ggX5_back_X5_copies : GoodIn wsX5_back wsX5_copies := goodIn_r _ [13, 2, 14, 15, 16, 17, 18, 19, 20, 21, 22, 23, 24, 25, 26, 27, 28, 29, 30, 31, 32, 33, 34, 35, 36, 37, 38] (by decide +kernel) (by decide +kernel)
set_option maxRecDepth 20000 in
theorem gX5_back_X5_copies : GoodIn wsX5_back (wsV RX5 261 RX5 yX5_copies wsX5_copies) := goodIn_app (goodIn_of _ (by decide +kernel)) ggX5_back_X5_copies
theorem dX5_back_0 : decode cX5_back 0 = .ok (.iload_n 1, 1) := by decide +kernel
theorem dX5_back_1 : decode cX5_back 1 = .ok (.invokestatic 258, 3) := by decide +kernel
theorem dX5_back_4 : decode cX5_back 4 = .ok (.ifCond .ne 5, 3) := by decide +kernel
theorem dX5_back_7 : decode cX5_back 7 = .ok (.iconst (-1), 1) := by decide +kernel
theorem dX5_back_8 : decode cX5_back 8 = .ok (.ireturn, 1) := by decide +kernel
theorem dX5_back_9 : decode cX5_back 9 = .ok (.aload_n 0, 1) := by decide +kernel
theorem dX5_back_10 : decode cX5_back 10 = .ok (.getfield 26, 3) := by decide +kernel
theorem dX5_back_13 : decode cX5_back 13 = .ok (.iload_n 1, 1) := by decide +kernel
theorem dX5_back_14 : decode cX5_back 14 = .ok (.baload, 1) := by decide +kernel
theorem dX5_back_15 : decode cX5_back 15 = .ok (.ifCond .ne 6, 3) := by decide +kernel
theorem dX5_back_18 : decode cX5_back 18 = .ok (.bipush (-2), 2) := by decide +kernel
theorem dX5_back_20 : decode cX5_back 20 = .ok (.ireturn, 1) := by decide +kernel
theorem dX5_back_21 : decode cX5_back 21 = .ok (.aload_n 0, 1) := by decide +kernel
theorem dX5_back_22 : decode cX5_back 22 = .ok (.iload_n 1, 1) := by decide +kernel
theorem dX5_back_23 : decode cX5_back 23 = .ok (.iconst 1, 1) := by decide +kernel
theorem dX5_back_24 : decode cX5_back 24 = .ok (.iadd, 1) := by decide +kernel
theorem dX5_back_25 : decode cX5_back 25 = .ok (.iconst 0, 1) := by decide +kernel
theorem dX5_back_26 : decode cX5_back 26 = .ok (.invokevirtual 261, 3) := by decide +kernel
theorem dX5_back_29 : decode cX5_back 29 = .ok (.aload_n 0, 1) := by decide +kernel
theorem dX5_back_30 : decode cX5_back 30 = .ok (.getfield 23, 3) := by decide +kernel
theorem dX5_back_33 : decode cX5_back 33 = .ok (.bipush 12, 2) := by decide +kernel
theorem dX5_back_35 : decode cX5_back 35 = .ok (.iaload, 1) := by decide +kernel
theorem dX5_back_36 : decode cX5_back 36 = .ok (.ireturn, 1) := by decide +kernel
theorem dX5_copies_0 : decode cX5_copies 0 = .ok (.iconst 0, 1) := by decide +kernel
theorem dX5_copies_1 : decode cX5_copies 1 = .ok (.istore_n 3, 1) := by decide +kernel
theorem dX5_copies_2 : decode cX5_copies 2 = .ok (.iload_n 3, 1) := by decide +kernel
theorem dX5_copies_3 : decode cX5_copies 3 = .ok (.bipush 20, 2) := by decide +kernel
theorem dX5_copies_5 : decode cX5_copies 5 = .ok (.if_icmp .ge 31, 3) := by decide +kernel
theorem dX5_copies_8 : decode cX5_copies 8 = .ok (.aload_n 0, 1) := by decide +kernel
theorem dX5_copies_9 : decode cX5_copies 9 = .ok (.getfield 23, 3) := by decide +kernel
theorem dX5_copies_12 : decode cX5_copies 12 = .ok (.bipush 20, 2) := by decide +kernel
theorem dX5_copies_14 : decode cX5_copies 14 = .ok (.iload_n 2, 1) := by decide +kernel
theorem dX5_copies_15 : decode cX5_copies 15 = .ok (.imul, 1) := by decide +kernel
theorem dX5_copies_16 : decode cX5_copies 16 = .ok (.iload_n 3, 1) := by decide +kernel
theorem dX5_copies_17 : decode cX5_copies 17 = .ok (.iadd, 1) := by decide +kernel
theorem dX5_copies_18 : decode cX5_copies 18 = .ok (.aload_n 0, 1) := by decide +kernel
theorem dX5_copies_19 : decode cX5_copies 19 = .ok (.getfield 23, 3) := by decide +kernel
theorem dX5_copies_22 : decode cX5_copies 22 = .ok (.bipush 20, 2) := by decide +kernel
theorem dX5_copies_24 : decode cX5_copies 24 = .ok (.iload_n 1, 1) := by decide +kernel
theorem dX5_copies_25 : decode cX5_copies 25 = .ok (.imul, 1) := by decide +kernel
theorem dX5_copies_26 : decode cX5_copies 26 = .ok (.iload_n 3, 1) := by decide +kernel
theorem dX5_copies_27 : decode cX5_copies 27 = .ok (.iadd, 1) := by decide +kernel
theorem dX5_copies_28 : decode cX5_copies 28 = .ok (.iaload, 1) := by decide +kernel
theorem dX5_copies_29 : decode cX5_copies 29 = .ok (.iastore, 1) := by decide +kernel
theorem dX5_copies_30 : decode cX5_copies 30 = .ok (.iinc 3 1, 3) := by decide +kernel
theorem dX5_copies_33 : decode cX5_copies 33 = .ok (.goto (-31), 3) := by decide +kernel
theorem dX5_copies_36 : decode cX5_copies 36 = .ok (.return_, 1) := by decide +kernel
theorem dX5_count_0 : decode cX5_count 0 = .ok (.iload_n 1, 1) := by decide +kernel
theorem dX5_count_1 : decode cX5_count 1 = .ok (.ifCond .ne 12, 3) := by decide +kernel
theorem dX5_count_4 : decode cX5_count 4 = .ok (.aload_n 0, 1) := by decide +kernel
theorem dX5_count_5 : decode cX5_count 5 = .ok (.getfield 17, 3) := by decide +kernel
theorem dX5_count_8 : decode cX5_count 8 = .ok (.iconst 0, 1) := by decide +kernel
theorem dX5_count_9 : decode cX5_count 9 = .ok (.iaload, 1) := by decide +kernel
theorem dX5_count_10 : decode cX5_count 10 = .ok (.goto 28, 3) := by decide +kernel
theorem dX5_count_13 : decode cX5_count 13 = .ok (.iload_n 1, 1) := by decide +kernel
theorem dX5_count_14 : decode cX5_count 14 = .ok (.iconst 1, 1) := by decide +kernel
theorem dX5_count_15 : decode cX5_count 15 = .ok (.if_icmp .ne 10, 3) := by decide +kernel
theorem dX5_count_18 : decode cX5_count 18 = .ok (.aload_n 0, 1) := by decide +kernel
theorem dX5_count_19 : decode cX5_count 19 = .ok (.getfield 242, 3) := by decide +kernel
theorem dX5_count_22 : decode cX5_count 22 = .ok (.goto 16, 3) := by decide +kernel
theorem dX5_count_25 : decode cX5_count 25 = .ok (.iload_n 1, 1) := by decide +kernel
theorem dX5_count_26 : decode cX5_count 26 = .ok (.iconst 2, 1) := by decide +kernel
theorem dX5_count_27 : decode cX5_count 27 = .ok (.if_icmp .ne 10, 3) := by decide +kernel
theorem dX5_count_30 : decode cX5_count 30 = .ok (.aload_n 0, 1) := by decide +kernel
theorem dX5_count_31 : decode cX5_count 31 = .ok (.getfield 62, 3) := by decide +kernel
theorem dX5_count_34 : decode cX5_count 34 = .ok (.goto 4, 3) := by decide +kernel
theorem dX5_count_37 : decode cX5_count 37 = .ok (.iconst (-1), 1) := by decide +kernel
theorem dX5_count_38 : decode cX5_count 38 = .ok (.ireturn, 1) := by decide +kernel
theorem dX5_trace_0 : decode cX5_trace 0 = .ok (.aload_n 0, 1) := by decide +kernel
theorem dX5_trace_1 : decode cX5_trace 1 = .ok (.getfield 248, 3) := by decide +kernel
theorem dX5_trace_4 : decode cX5_trace 4 = .ok (.lreturn, 1) := by decide +kernel
