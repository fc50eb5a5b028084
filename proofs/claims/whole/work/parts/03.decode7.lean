theorem dX5_heat_41 : decode cX5_heat 41 = .ok (.ireturn, 1) := by decide +kernel
theorem dX5_even_0 : decode cX5_even 0 = .ok (.iload_n 1, 1) := by decide +kernel
theorem dX5_even_1 : decode cX5_even 1 = .ok (.i2l, 1) := by decide +kernel
theorem dX5_even_2 : decode cX5_even 2 = .ok (.lconst 1, 1) := by decide +kernel
theorem dX5_even_3 : decode cX5_even 3 = .ok (.ldc2_w 172, 3) := by decide +kernel
theorem dX5_even_6 : decode cX5_even 6 = .ok (.invokestatic 58, 3) := by decide +kernel
theorem dX5_even_9 : decode cX5_even 9 = .ok (.ifCond .eq 13, 3) := by decide +kernel
theorem dX5_even_12 : decode cX5_even 12 = .ok (.iload_n 2, 1) := by decide +kernel
theorem dX5_even_13 : decode cX5_even 13 = .ok (.i2l, 1) := by decide +kernel
theorem dX5_even_14 : decode cX5_even 14 = .ok (.lconst 0, 1) := by decide +kernel
theorem dX5_even_15 : decode cX5_even 15 = .ok (.lconst 1, 1) := by decide +kernel
theorem dX5_even_16 : decode cX5_even 16 = .ok (.invokestatic 58, 3) := by decide +kernel
theorem dX5_even_19 : decode cX5_even 19 = .ok (.ifCond .ne 5, 3) := by decide +kernel
theorem dX5_even_22 : decode cX5_even 22 = .ok (.iconst (-1), 1) := by decide +kernel
theorem dX5_even_23 : decode cX5_even 23 = .ok (.ireturn, 1) := by decide +kernel
theorem dX5_even_24 : decode cX5_even 24 = .ok (.iload_n 1, 1) := by decide +kernel
theorem dX5_even_25 : decode cX5_even 25 = .ok (.iconst 1, 1) := by decide +kernel
theorem dX5_even_26 : decode cX5_even 26 = .ok (.if_icmp .ne 8, 3) := by decide +kernel
theorem dX5_even_29 : decode cX5_even 29 = .ok (.bipush 24, 2) := by decide +kernel
theorem dX5_even_31 : decode cX5_even 31 = .ok (.goto 17, 3) := by decide +kernel
theorem dX5_even_34 : decode cX5_even 34 = .ok (.iload_n 1, 1) := by decide +kernel
theorem dX5_even_35 : decode cX5_even 35 = .ok (.iconst 2, 1) := by decide +kernel
theorem dX5_even_36 : decode cX5_even 36 = .ok (.if_icmp .ne 9, 3) := by decide +kernel
theorem dX5_even_39 : decode cX5_even 39 = .ok (.sipush 576, 3) := by decide +kernel
theorem dX5_even_42 : decode cX5_even 42 = .ok (.goto 6, 3) := by decide +kernel
theorem dX5_even_45 : decode cX5_even 45 = .ok (.sipush 13824, 3) := by decide +kernel
theorem dX5_even_48 : decode cX5_even 48 = .ok (.istore_n 3, 1) := by decide +kernel
theorem dX5_even_49 : decode cX5_even 49 = .ok (.iconst 0, 1) := by decide +kernel
theorem dX5_even_50 : decode cX5_even 50 = .ok (.istore 4, 2) := by decide +kernel
theorem dX5_even_52 : decode cX5_even 52 = .ok (.iconst (-1), 1) := by decide +kernel
theorem dX5_even_53 : decode cX5_even 53 = .ok (.istore 5, 2) := by decide +kernel
theorem dX5_even_55 : decode cX5_even 55 = .ok (.iconst 0, 1) := by decide +kernel
theorem dX5_even_56 : decode cX5_even 56 = .ok (.istore 6, 2) := by decide +kernel
theorem dX5_even_58 : decode cX5_even 58 = .ok (.iload 6, 2) := by decide +kernel
theorem dX5_even_60 : decode cX5_even 60 = .ok (.iload_n 3, 1) := by decide +kernel
theorem dX5_even_61 : decode cX5_even 61 = .ok (.if_icmp .ge 184, 3) := by decide +kernel
theorem dX5_even_64 : decode cX5_even 64 = .ok (.iload 6, 2) := by decide +kernel
theorem dX5_even_66 : decode cX5_even 66 = .ok (.istore 7, 2) := by decide +kernel
theorem dX5_even_68 : decode cX5_even 68 = .ok (.iconst 0, 1) := by decide +kernel
theorem dX5_even_69 : decode cX5_even 69 = .ok (.istore 8, 2) := by decide +kernel
theorem dX5_even_71 : decode cX5_even 71 = .ok (.iload 8, 2) := by decide +kernel
theorem dX5_even_73 : decode cX5_even 73 = .ok (.iconst 4, 1) := by decide +kernel
theorem dX5_even_74 : decode cX5_even 74 = .ok (.if_icmp .ge 17, 3) := by decide +kernel
theorem dX5_even_77 : decode cX5_even 77 = .ok (.aload_n 0, 1) := by decide +kernel
theorem dX5_even_78 : decode cX5_even 78 = .ok (.getfield 43, 3) := by decide +kernel
theorem dX5_even_81 : decode cX5_even 81 = .ok (.iload 8, 2) := by decide +kernel
theorem dX5_even_83 : decode cX5_even 83 = .ok (.iconst 0, 1) := by decide +kernel
theorem dX5_even_84 : decode cX5_even 84 = .ok (.iastore, 1) := by decide +kernel
theorem dX5_even_85 : decode cX5_even 85 = .ok (.iinc 8 1, 3) := by decide +kernel
theorem dX5_even_88 : decode cX5_even 88 = .ok (.goto (-17), 3) := by decide +kernel
theorem dX5_even_91 : decode cX5_even 91 = .ok (.iconst 0, 1) := by decide +kernel
theorem dX5_even_92 : decode cX5_even 92 = .ok (.istore 8, 2) := by decide +kernel
theorem dX5_even_94 : decode cX5_even 94 = .ok (.iload 8, 2) := by decide +kernel
theorem dX5_even_96 : decode cX5_even 96 = .ok (.iload_n 1, 1) := by decide +kernel
theorem dX5_even_97 : decode cX5_even 97 = .ok (.if_icmp .ge 61, 3) := by decide +kernel
theorem dX5_even_100 : decode cX5_even 100 = .ok (.iconst 0, 1) := by decide +kernel
theorem dX5_even_101 : decode cX5_even 101 = .ok (.istore 9, 2) := by decide +kernel
theorem dX5_even_103 : decode cX5_even 103 = .ok (.iload 9, 2) := by decide +kernel
theorem dX5_even_105 : decode cX5_even 105 = .ok (.iconst 4, 1) := by decide +kernel
theorem dX5_even_106 : decode cX5_even 106 = .ok (.if_icmp .ge 39, 3) := by decide +kernel
theorem dX5_even_109 : decode cX5_even 109 = .ok (.aload_n 0, 1) := by decide +kernel
theorem dX5_even_110 : decode cX5_even 110 = .ok (.getfield 43, 3) := by decide +kernel
theorem dX5_even_113 : decode cX5_even 113 = .ok (.iload 9, 2) := by decide +kernel
theorem dX5_even_115 : decode cX5_even 115 = .ok (.dup2, 1) := by decide +kernel
theorem dX5_even_116 : decode cX5_even 116 = .ok (.iaload, 1) := by decide +kernel
theorem dX5_even_117 : decode cX5_even 117 = .ok (.aload_n 0, 1) := by decide +kernel
theorem dX5_even_118 : decode cX5_even 118 = .ok (.getfield 37, 3) := by decide +kernel
theorem dX5_even_121 : decode cX5_even 121 = .ok (.aload_n 0, 1) := by decide +kernel
theorem dX5_even_122 : decode cX5_even 122 = .ok (.getfield 40, 3) := by decide +kernel
theorem dX5_even_125 : decode cX5_even 125 = .ok (.iconst 4, 1) := by decide +kernel
theorem dX5_even_126 : decode cX5_even 126 = .ok (.iload 7, 2) := by decide +kernel
theorem dX5_even_128 : decode cX5_even 128 = .ok (.bipush 24, 2) := by decide +kernel
theorem dX5_even_130 : decode cX5_even 130 = .ok (.irem, 1) := by decide +kernel
theorem dX5_even_131 : decode cX5_even 131 = .ok (.imul, 1) := by decide +kernel
theorem dX5_even_132 : decode cX5_even 132 = .ok (.iload 9, 2) := by decide +kernel
theorem dX5_even_134 : decode cX5_even 134 = .ok (.iadd, 1) := by decide +kernel
theorem dX5_even_135 : decode cX5_even 135 = .ok (.iaload, 1) := by decide +kernel
theorem dX5_even_136 : decode cX5_even 136 = .ok (.iaload, 1) := by decide +kernel
theorem dX5_even_137 : decode cX5_even 137 = .ok (.iadd, 1) := by decide +kernel
theorem dX5_even_138 : decode cX5_even 138 = .ok (.iastore, 1) := by decide +kernel
theorem dX5_even_139 : decode cX5_even 139 = .ok (.iinc 9 1, 3) := by decide +kernel
theorem dX5_even_142 : decode cX5_even 142 = .ok (.goto (-39), 3) := by decide +kernel
theorem dX5_even_145 : decode cX5_even 145 = .ok (.iload 7, 2) := by decide +kernel
theorem dX5_even_147 : decode cX5_even 147 = .ok (.bipush 24, 2) := by decide +kernel
theorem dX5_even_149 : decode cX5_even 149 = .ok (.idiv, 1) := by decide +kernel
theorem dX5_even_150 : decode cX5_even 150 = .ok (.istore 7, 2) := by decide +kernel
theorem dX5_even_152 : decode cX5_even 152 = .ok (.iinc 8 1, 3) := by decide +kernel
theorem dX5_even_155 : decode cX5_even 155 = .ok (.goto (-61), 3) := by decide +kernel
theorem dX5_even_158 : decode cX5_even 158 = .ok (.aload_n 0, 1) := by decide +kernel
theorem dX5_even_159 : decode cX5_even 159 = .ok (.getfield 43, 3) := by decide +kernel
theorem dX5_even_162 : decode cX5_even 162 = .ok (.iconst 0, 1) := by decide +kernel
theorem dX5_even_163 : decode cX5_even 163 = .ok (.iaload, 1) := by decide +kernel
theorem dX5_even_164 : decode cX5_even 164 = .ok (.istore 8, 2) := by decide +kernel
theorem dX5_even_166 : decode cX5_even 166 = .ok (.iconst 1, 1) := by decide +kernel
theorem dX5_even_167 : decode cX5_even 167 = .ok (.istore 9, 2) := by decide +kernel
theorem dX5_even_169 : decode cX5_even 169 = .ok (.iload 9, 2) := by decide +kernel
theorem dX5_even_171 : decode cX5_even 171 = .ok (.iconst 4, 1) := by decide +kernel
theorem dX5_even_172 : decode cX5_even 172 = .ok (.if_icmp .ge 35, 3) := by decide +kernel
theorem dX5_even_175 : decode cX5_even 175 = .ok (.aload_n 0, 1) := by decide +kernel
theorem dX5_even_176 : decode cX5_even 176 = .ok (.getfield 43, 3) := by decide +kernel
theorem dX5_even_179 : decode cX5_even 179 = .ok (.iload 9, 2) := by decide +kernel
theorem dX5_even_181 : decode cX5_even 181 = .ok (.iaload, 1) := by decide +kernel
theorem dX5_even_182 : decode cX5_even 182 = .ok (.iload 8, 2) := by decide +kernel
theorem dX5_even_184 : decode cX5_even 184 = .ok (.if_icmp .ge 13, 3) := by decide +kernel
theorem dX5_even_187 : decode cX5_even 187 = .ok (.aload_n 0, 1) := by decide +kernel
theorem dX5_even_188 : decode cX5_even 188 = .ok (.getfield 43, 3) := by decide +kernel
theorem dX5_even_191 : decode cX5_even 191 = .ok (.iload 9, 2) := by decide +kernel
theorem dX5_even_193 : decode cX5_even 193 = .ok (.iaload, 1) := by decide +kernel
theorem dX5_even_194 : decode cX5_even 194 = .ok (.goto 5, 3) := by decide +kernel
theorem dX5_even_197 : decode cX5_even 197 = .ok (.iload 8, 2) := by decide +kernel
theorem dX5_even_199 : decode cX5_even 199 = .ok (.istore 8, 2) := by decide +kernel
theorem dX5_even_201 : decode cX5_even 201 = .ok (.iinc 9 1, 3) := by decide +kernel
theorem dX5_even_204 : decode cX5_even 204 = .ok (.goto (-35), 3) := by decide +kernel
theorem dX5_even_207 : decode cX5_even 207 = .ok (.iload 8, 2) := by decide +kernel
theorem dX5_even_209 : decode cX5_even 209 = .ok (.iload 5, 2) := by decide +kernel
theorem dX5_even_211 : decode cX5_even 211 = .ok (.if_icmp .le 8, 3) := by decide +kernel
theorem dX5_even_214 : decode cX5_even 214 = .ok (.iload 6, 2) := by decide +kernel
theorem dX5_even_216 : decode cX5_even 216 = .ok (.goto 5, 3) := by decide +kernel
theorem dX5_even_219 : decode cX5_even 219 = .ok (.iload 4, 2) := by decide +kernel
theorem dX5_even_221 : decode cX5_even 221 = .ok (.istore 4, 2) := by decide +kernel
theorem dX5_even_223 : decode cX5_even 223 = .ok (.iload 8, 2) := by decide +kernel
theorem dX5_even_225 : decode cX5_even 225 = .ok (.iload 5, 2) := by decide +kernel
theorem dX5_even_227 : decode cX5_even 227 = .ok (.if_icmp .le 8, 3) := by decide +kernel
theorem dX5_even_230 : decode cX5_even 230 = .ok (.iload 8, 2) := by decide +kernel
theorem dX5_even_232 : decode cX5_even 232 = .ok (.goto 5, 3) := by decide +kernel
theorem dX5_even_235 : decode cX5_even 235 = .ok (.iload 5, 2) := by decide +kernel
theorem dX5_even_237 : decode cX5_even 237 = .ok (.istore 5, 2) := by decide +kernel
theorem dX5_even_239 : decode cX5_even 239 = .ok (.iinc 6 1, 3) := by decide +kernel
theorem dX5_even_242 : decode cX5_even 242 = .ok (.goto (-184), 3) := by decide +kernel
theorem dX5_even_245 : decode cX5_even 245 = .ok (.iload_n 2, 1) := by decide +kernel
theorem dX5_even_246 : decode cX5_even 246 = .ok (.ifCond .ne 8, 3) := by decide +kernel
theorem dX5_even_249 : decode cX5_even 249 = .ok (.iload 5, 2) := by decide +kernel
theorem dX5_even_251 : decode cX5_even 251 = .ok (.goto 5, 3) := by decide +kernel
theorem dX5_even_254 : decode cX5_even 254 = .ok (.iload 4, 2) := by decide +kernel
theorem dX5_even_256 : decode cX5_even 256 = .ok (.ireturn, 1) := by decide +kernel
theorem dX5_goesSo_0 : decode cX5_goesSo 0 = .ok (.aload_n 0, 1) := by decide +kernel
theorem dX5_goesSo_1 : decode cX5_goesSo 1 = .ok (.getfield 13, 3) := by decide +kernel
theorem dX5_goesSo_4 : decode cX5_goesSo 4 = .ok (.iconst 2, 1) := by decide +kernel
theorem dX5_goesSo_5 : decode cX5_goesSo 5 = .ok (.iaload, 1) := by decide +kernel
theorem dX5_goesSo_6 : decode cX5_goesSo 6 = .ok (.istore 5, 2) := by decide +kernel
theorem dX5_goesSo_8 : decode cX5_goesSo 8 = .ok (.aload_n 0, 1) := by decide +kernel
theorem dX5_goesSo_9 : decode cX5_goesSo 9 = .ok (.getfield 13, 3) := by decide +kernel
theorem dX5_goesSo_12 : decode cX5_goesSo 12 = .ok (.iconst 1, 1) := by decide +kernel
theorem dX5_goesSo_13 : decode cX5_goesSo 13 = .ok (.iaload, 1) := by decide +kernel
theorem dX5_goesSo_14 : decode cX5_goesSo 14 = .ok (.istore 6, 2) := by decide +kernel
theorem dX5_goesSo_16 : decode cX5_goesSo 16 = .ok (.aload_n 0, 1) := by decide +kernel
theorem dX5_goesSo_17 : decode cX5_goesSo 17 = .ok (.getfield 13, 3) := by decide +kernel
theorem dX5_goesSo_20 : decode cX5_goesSo 20 = .ok (.iconst 2, 1) := by decide +kernel
theorem dX5_goesSo_21 : decode cX5_goesSo 21 = .ok (.iload_n 3, 1) := by decide +kernel
theorem dX5_goesSo_22 : decode cX5_goesSo 22 = .ok (.iconst 2, 1) := by decide +kernel
theorem dX5_goesSo_23 : decode cX5_goesSo 23 = .ok (.if_icmp .ne 30, 3) := by decide +kernel
theorem dX5_goesSo_26 : decode cX5_goesSo 26 = .ok (.iload 5, 2) := by decide +kernel
theorem dX5_goesSo_28 : decode cX5_goesSo 28 = .ok (.iconst 4, 1) := by decide +kernel
theorem dX5_goesSo_29 : decode cX5_goesSo 29 = .ok (.iload 4, 2) := by decide +kernel
theorem dX5_goesSo_31 : decode cX5_goesSo 31 = .ok (.imul, 1) := by decide +kernel
theorem dX5_goesSo_32 : decode cX5_goesSo 32 = .ok (.iadd, 1) := by decide +kernel
theorem dX5_goesSo_33 : decode cX5_goesSo 33 = .ok (.bipush 99, 2) := by decide +kernel
theorem dX5_goesSo_35 : decode cX5_goesSo 35 = .ok (.if_icmp .le 8, 3) := by decide +kernel
theorem dX5_goesSo_38 : decode cX5_goesSo 38 = .ok (.bipush 99, 2) := by decide +kernel
theorem dX5_goesSo_40 : decode cX5_goesSo 40 = .ok (.goto 15, 3) := by decide +kernel
theorem dX5_goesSo_43 : decode cX5_goesSo 43 = .ok (.iload 5, 2) := by decide +kernel
theorem dX5_goesSo_45 : decode cX5_goesSo 45 = .ok (.iconst 4, 1) := by decide +kernel
theorem dX5_goesSo_46 : decode cX5_goesSo 46 = .ok (.iload 4, 2) := by decide +kernel
theorem dX5_goesSo_48 : decode cX5_goesSo 48 = .ok (.imul, 1) := by decide +kernel
theorem dX5_goesSo_49 : decode cX5_goesSo 49 = .ok (.iadd, 1) := by decide +kernel
theorem dX5_goesSo_50 : decode cX5_goesSo 50 = .ok (.goto 5, 3) := by decide +kernel
theorem dX5_goesSo_53 : decode cX5_goesSo 53 = .ok (.iload 5, 2) := by decide +kernel
theorem dX5_goesSo_55 : decode cX5_goesSo 55 = .ok (.iastore, 1) := by decide +kernel
theorem dX5_goesSo_56 : decode cX5_goesSo 56 = .ok (.aload_n 0, 1) := by decide +kernel
theorem dX5_goesSo_57 : decode cX5_goesSo 57 = .ok (.getfield 13, 3) := by decide +kernel
theorem dX5_goesSo_60 : decode cX5_goesSo 60 = .ok (.iconst 1, 1) := by decide +kernel
theorem dX5_goesSo_61 : decode cX5_goesSo 61 = .ok (.iload_n 3, 1) := by decide +kernel
theorem dX5_goesSo_62 : decode cX5_goesSo 62 = .ok (.iconst 4, 1) := by decide +kernel
theorem dX5_goesSo_63 : decode cX5_goesSo 63 = .ok (.if_icmp .ne 30, 3) := by decide +kernel
theorem dX5_goesSo_66 : decode cX5_goesSo 66 = .ok (.iload 6, 2) := by decide +kernel
theorem dX5_goesSo_68 : decode cX5_goesSo 68 = .ok (.bipush 10, 2) := by decide +kernel
theorem dX5_goesSo_70 : decode cX5_goesSo 70 = .ok (.iload 4, 2) := by decide +kernel
theorem dX5_goesSo_72 : decode cX5_goesSo 72 = .ok (.imul, 1) := by decide +kernel
theorem dX5_goesSo_73 : decode cX5_goesSo 73 = .ok (.isub, 1) := by decide +kernel
theorem dX5_goesSo_74 : decode cX5_goesSo 74 = .ok (.iconst 1, 1) := by decide +kernel
theorem dX5_goesSo_75 : decode cX5_goesSo 75 = .ok (.if_icmp .ge 7, 3) := by decide +kernel
theorem dX5_goesSo_78 : decode cX5_goesSo 78 = .ok (.iconst 1, 1) := by decide +kernel
theorem dX5_goesSo_79 : decode cX5_goesSo 79 = .ok (.goto 16, 3) := by decide +kernel
theorem dX5_goesSo_82 : decode cX5_goesSo 82 = .ok (.iload 6, 2) := by decide +kernel
theorem dX5_goesSo_84 : decode cX5_goesSo 84 = .ok (.bipush 10, 2) := by decide +kernel
theorem dX5_goesSo_86 : decode cX5_goesSo 86 = .ok (.iload 4, 2) := by decide +kernel
theorem dX5_goesSo_88 : decode cX5_goesSo 88 = .ok (.imul, 1) := by decide +kernel
theorem dX5_goesSo_89 : decode cX5_goesSo 89 = .ok (.isub, 1) := by decide +kernel
theorem dX5_goesSo_90 : decode cX5_goesSo 90 = .ok (.goto 5, 3) := by decide +kernel
theorem dX5_goesSo_93 : decode cX5_goesSo 93 = .ok (.iload 6, 2) := by decide +kernel
theorem dX5_goesSo_95 : decode cX5_goesSo 95 = .ok (.iastore, 1) := by decide +kernel
theorem dX5_goesSo_96 : decode cX5_goesSo 96 = .ok (.aload_n 0, 1) := by decide +kernel
theorem dX5_goesSo_97 : decode cX5_goesSo 97 = .ok (.iload_n 3, 1) := by decide +kernel
theorem dX5_goesSo_98 : decode cX5_goesSo 98 = .ok (.iconst 1, 1) := by decide +kernel
theorem dX5_goesSo_99 : decode cX5_goesSo 99 = .ok (.if_icmp .ne 9, 3) := by decide +kernel
theorem dX5_goesSo_102 : decode cX5_goesSo 102 = .ok (.iconst 1, 1) := by decide +kernel
theorem dX5_goesSo_103 : decode cX5_goesSo 103 = .ok (.iload_n 2, 1) := by decide +kernel
theorem dX5_goesSo_104 : decode cX5_goesSo 104 = .ok (.ishl, 1) := by decide +kernel
theorem dX5_goesSo_105 : decode cX5_goesSo 105 = .ok (.goto 4, 3) := by decide +kernel
theorem dX5_goesSo_108 : decode cX5_goesSo 108 = .ok (.iconst 0, 1) := by decide +kernel
theorem dX5_goesSo_109 : decode cX5_goesSo 109 = .ok (.invokevirtual 198, 3) := by decide +kernel
theorem dX5_goesSo_112 : decode cX5_goesSo 112 = .ok (.aload_n 0, 1) := by decide +kernel
theorem dX5_goesSo_113 : decode cX5_goesSo 113 = .ok (.iload_n 3, 1) := by decide +kernel
theorem dX5_goesSo_114 : decode cX5_goesSo 114 = .ok (.iconst 3, 1) := by decide +kernel
theorem dX5_goesSo_115 : decode cX5_goesSo 115 = .ok (.if_icmp .ne 11, 3) := by decide +kernel
theorem dX5_goesSo_118 : decode cX5_goesSo 118 = .ok (.bipush 10, 2) := by decide +kernel
theorem dX5_goesSo_120 : decode cX5_goesSo 120 = .ok (.iload 4, 2) := by decide +kernel
theorem dX5_goesSo_122 : decode cX5_goesSo 122 = .ok (.imul, 1) := by decide +kernel
theorem dX5_goesSo_123 : decode cX5_goesSo 123 = .ok (.goto 4, 3) := by decide +kernel
theorem dX5_goesSo_126 : decode cX5_goesSo 126 = .ok (.iconst 0, 1) := by decide +kernel
theorem dX5_goesSo_127 : decode cX5_goesSo 127 = .ok (.invokevirtual 201, 3) := by decide +kernel
theorem dX5_goesSo_130 : decode cX5_goesSo 130 = .ok (.aload_n 0, 1) := by decide +kernel
theorem dX5_goesSo_131 : decode cX5_goesSo 131 = .ok (.getfield 13, 3) := by decide +kernel
theorem dX5_goesSo_134 : decode cX5_goesSo 134 = .ok (.iconst 2, 1) := by decide +kernel
theorem dX5_goesSo_135 : decode cX5_goesSo 135 = .ok (.iload 5, 2) := by decide +kernel
theorem dX5_goesSo_137 : decode cX5_goesSo 137 = .ok (.iastore, 1) := by decide +kernel
theorem dX5_goesSo_138 : decode cX5_goesSo 138 = .ok (.aload_n 0, 1) := by decide +kernel
theorem dX5_goesSo_139 : decode cX5_goesSo 139 = .ok (.getfield 13, 3) := by decide +kernel
theorem dX5_goesSo_142 : decode cX5_goesSo 142 = .ok (.iconst 1, 1) := by decide +kernel
theorem dX5_goesSo_143 : decode cX5_goesSo 143 = .ok (.iload 6, 2) := by decide +kernel
theorem dX5_goesSo_145 : decode cX5_goesSo 145 = .ok (.iastore, 1) := by decide +kernel
theorem dX5_goesSo_146 : decode cX5_goesSo 146 = .ok (.aload_n 0, 1) := by decide +kernel
theorem dX5_goesSo_147 : decode cX5_goesSo 147 = .ok (.getfield 30, 3) := by decide +kernel
theorem dX5_goesSo_150 : decode cX5_goesSo 150 = .ok (.iload_n 1, 1) := by decide +kernel
theorem dX5_goesSo_151 : decode cX5_goesSo 151 = .ok (.if_icmp .ne 29, 3) := by decide +kernel
theorem dX5_goesSo_154 : decode cX5_goesSo 154 = .ok (.aload_n 0, 1) := by decide +kernel
theorem dX5_goesSo_155 : decode cX5_goesSo 155 = .ok (.getfield 23, 3) := by decide +kernel
theorem dX5_goesSo_158 : decode cX5_goesSo 158 = .ok (.bipush 73, 2) := by decide +kernel
theorem dX5_goesSo_160 : decode cX5_goesSo 160 = .ok (.iaload, 1) := by decide +kernel
theorem dX5_goesSo_161 : decode cX5_goesSo 161 = .ok (.iconst 1, 1) := by decide +kernel
theorem dX5_goesSo_162 : decode cX5_goesSo 162 = .ok (.if_icmp .ne 18, 3) := by decide +kernel
theorem dX5_goesSo_165 : decode cX5_goesSo 165 = .ok (.aload_n 0, 1) := by decide +kernel
theorem dX5_goesSo_166 : decode cX5_goesSo 166 = .ok (.getfield 23, 3) := by decide +kernel
theorem dX5_goesSo_169 : decode cX5_goesSo 169 = .ok (.bipush 74, 2) := by decide +kernel
theorem dX5_goesSo_171 : decode cX5_goesSo 171 = .ok (.iaload, 1) := by decide +kernel
theorem dX5_goesSo_172 : decode cX5_goesSo 172 = .ok (.iload_n 2, 1) := by decide +kernel
theorem dX5_goesSo_173 : decode cX5_goesSo 173 = .ok (.if_icmp .ne 7, 3) := by decide +kernel
theorem dX5_goesSo_176 : decode cX5_goesSo 176 = .ok (.iconst 1, 1) := by decide +kernel
theorem dX5_goesSo_177 : decode cX5_goesSo 177 = .ok (.goto 4, 3) := by decide +kernel
theorem dX5_goesSo_180 : decode cX5_goesSo 180 = .ok (.iconst 0, 1) := by decide +kernel
theorem dX5_goesSo_181 : decode cX5_goesSo 181 = .ok (.ireturn, 1) := by decide +kernel
theorem dX5_begun_0 : decode cX5_begun 0 = .ok (.iconst 0, 1) := by decide +kernel
theorem dX5_begun_1 : decode cX5_begun 1 = .ok (.istore 4, 2) := by decide +kernel
theorem dX5_begun_3 : decode cX5_begun 3 = .ok (.iconst 1, 1) := by decide +kernel
theorem dX5_begun_4 : decode cX5_begun 4 = .ok (.istore 5, 2) := by decide +kernel
theorem dX5_begun_6 : decode cX5_begun 6 = .ok (.iload 5, 2) := by decide +kernel
theorem dX5_begun_8 : decode cX5_begun 8 = .ok (.bipush 10, 2) := by decide +kernel
theorem dX5_begun_10 : decode cX5_begun 10 = .ok (.if_icmp .ge 31, 3) := by decide +kernel
theorem dX5_begun_13 : decode cX5_begun 13 = .ok (.iload 4, 2) := by decide +kernel
theorem dX5_begun_15 : decode cX5_begun 15 = .ok (.aload_n 0, 1) := by decide +kernel
theorem dX5_begun_16 : decode cX5_begun 16 = .ok (.iload_n 1, 1) := by decide +kernel
theorem dX5_begun_17 : decode cX5_begun 17 = .ok (.iload_n 2, 1) := by decide +kernel
theorem dX5_begun_18 : decode cX5_begun 18 = .ok (.iload_n 3, 1) := by decide +kernel
theorem dX5_begun_19 : decode cX5_begun 19 = .ok (.iload 5, 2) := by decide +kernel
theorem dX5_begun_21 : decode cX5_begun 21 = .ok (.invokevirtual 213, 3) := by decide +kernel
theorem dX5_begun_24 : decode cX5_begun 24 = .ok (.ifCond .eq 7, 3) := by decide +kernel
theorem dX5_begun_27 : decode cX5_begun 27 = .ok (.iconst 1, 1) := by decide +kernel
theorem dX5_begun_28 : decode cX5_begun 28 = .ok (.goto 4, 3) := by decide +kernel
theorem dX5_begun_31 : decode cX5_begun 31 = .ok (.iconst 0, 1) := by decide +kernel
theorem dX5_begun_32 : decode cX5_begun 32 = .ok (.iadd, 1) := by decide +kernel
theorem dX5_begun_33 : decode cX5_begun 33 = .ok (.istore 4, 2) := by decide +kernel
theorem dX5_begun_35 : decode cX5_begun 35 = .ok (.iinc 5 1, 3) := by decide +kernel
theorem dX5_begun_38 : decode cX5_begun 38 = .ok (.goto (-32), 3) := by decide +kernel
theorem dX5_begun_41 : decode cX5_begun 41 = .ok (.iload 4, 2) := by decide +kernel
theorem dX5_begun_43 : decode cX5_begun 43 = .ok (.ireturn, 1) := by decide +kernel
theorem dX5_isCause_0 : decode cX5_isCause 0 = .ok (.iload_n 0, 1) := by decide +kernel
theorem dX5_isCause_1 : decode cX5_isCause 1 = .ok (.i2l, 1) := by decide +kernel
theorem dX5_isCause_2 : decode cX5_isCause 2 = .ok (.lconst 1, 1) := by decide +kernel
theorem dX5_isCause_3 : decode cX5_isCause 3 = .ok (.ldc2_w 217, 3) := by decide +kernel
theorem dX5_isCause_6 : decode cX5_isCause 6 = .ok (.invokestatic 58, 3) := by decide +kernel
theorem dX5_isCause_9 : decode cX5_isCause 9 = .ok (.ifCond .eq 31, 3) := by decide +kernel
theorem dX5_isCause_12 : decode cX5_isCause 12 = .ok (.iload_n 1, 1) := by decide +kernel
theorem dX5_isCause_13 : decode cX5_isCause 13 = .ok (.i2l, 1) := by decide +kernel
theorem dX5_isCause_14 : decode cX5_isCause 14 = .ok (.lconst 0, 1) := by decide +kernel
theorem dX5_isCause_15 : decode cX5_isCause 15 = .ok (.ldc2_w 172, 3) := by decide +kernel
theorem dX5_isCause_18 : decode cX5_isCause 18 = .ok (.invokestatic 58, 3) := by decide +kernel
theorem dX5_isCause_21 : decode cX5_isCause 21 = .ok (.ifCond .eq 19, 3) := by decide +kernel
theorem dX5_isCause_24 : decode cX5_isCause 24 = .ok (.iload_n 2, 1) := by decide +kernel
theorem dX5_isCause_25 : decode cX5_isCause 25 = .ok (.i2l, 1) := by decide +kernel
theorem dX5_isCause_26 : decode cX5_isCause 26 = .ok (.lconst 0, 1) := by decide +kernel
theorem dX5_isCause_27 : decode cX5_isCause 27 = .ok (.ldc2_w 219, 3) := by decide +kernel
theorem dX5_isCause_30 : decode cX5_isCause 30 = .ok (.invokestatic 58, 3) := by decide +kernel
theorem dX5_isCause_33 : decode cX5_isCause 33 = .ok (.ifCond .eq 7, 3) := by decide +kernel
theorem dX5_isCause_36 : decode cX5_isCause 36 = .ok (.iconst 1, 1) := by decide +kernel
theorem dX5_isCause_37 : decode cX5_isCause 37 = .ok (.goto 4, 3) := by decide +kernel
theorem dX5_isCause_40 : decode cX5_isCause 40 = .ok (.iconst 0, 1) := by decide +kernel
theorem dX5_isCause_41 : decode cX5_isCause 41 = .ok (.ireturn, 1) := by decide +kernel
theorem dX5_began_0 : decode cX5_began 0 = .ok (.iload_n 1, 1) := by decide +kernel
theorem dX5_began_1 : decode cX5_began 1 = .ok (.iload_n 2, 1) := by decide +kernel
theorem dX5_began_2 : decode cX5_began 2 = .ok (.iload_n 3, 1) := by decide +kernel
theorem dX5_began_3 : decode cX5_began 3 = .ok (.invokestatic 221, 3) := by decide +kernel
theorem dX5_began_6 : decode cX5_began 6 = .ok (.ifCond .eq 13, 3) := by decide +kernel
theorem dX5_began_9 : decode cX5_began 9 = .ok (.aload_n 0, 1) := by decide +kernel
theorem dX5_began_10 : decode cX5_began 10 = .ok (.iload_n 1, 1) := by decide +kernel
theorem dX5_began_11 : decode cX5_began 11 = .ok (.iload_n 2, 1) := by decide +kernel
theorem dX5_began_12 : decode cX5_began 12 = .ok (.iload_n 3, 1) := by decide +kernel
theorem dX5_began_13 : decode cX5_began 13 = .ok (.invokevirtual 225, 3) := by decide +kernel
theorem dX5_began_16 : decode cX5_began 16 = .ok (.goto 4, 3) := by decide +kernel
theorem dX5_began_19 : decode cX5_began 19 = .ok (.iconst (-1), 1) := by decide +kernel
theorem dX5_began_20 : decode cX5_began 20 = .ok (.ireturn, 1) := by decide +kernel
theorem dX5_why_0 : decode cX5_why 0 = .ok (.iload_n 1, 1) := by decide +kernel
theorem dX5_why_1 : decode cX5_why 1 = .ok (.iload_n 2, 1) := by decide +kernel
theorem dX5_why_2 : decode cX5_why 2 = .ok (.iload_n 3, 1) := by decide +kernel
theorem dX5_why_3 : decode cX5_why 3 = .ok (.invokestatic 221, 3) := by decide +kernel
theorem dX5_why_6 : decode cX5_why 6 = .ok (.ifCond .eq 14, 3) := by decide +kernel
theorem dX5_why_9 : decode cX5_why 9 = .ok (.iload 4, 2) := by decide +kernel
theorem dX5_why_11 : decode cX5_why 11 = .ok (.i2l, 1) := by decide +kernel
theorem dX5_why_12 : decode cX5_why 12 = .ok (.lconst 0, 1) := by decide +kernel
theorem dX5_why_13 : decode cX5_why 13 = .ok (.lconst 1, 1) := by decide +kernel
theorem dX5_why_14 : decode cX5_why 14 = .ok (.invokestatic 58, 3) := by decide +kernel
theorem dX5_why_17 : decode cX5_why 17 = .ok (.ifCond .ne 5, 3) := by decide +kernel
theorem dX5_why_20 : decode cX5_why 20 = .ok (.iconst (-1), 1) := by decide +kernel
theorem dX5_why_21 : decode cX5_why 21 = .ok (.ireturn, 1) := by decide +kernel
theorem dX5_why_22 : decode cX5_why 22 = .ok (.iconst 0, 1) := by decide +kernel
theorem dX5_why_23 : decode cX5_why 23 = .ok (.istore 5, 2) := by decide +kernel
theorem dX5_why_25 : decode cX5_why 25 = .ok (.iconst 0, 1) := by decide +kernel
theorem dX5_why_26 : decode cX5_why 26 = .ok (.istore 6, 2) := by decide +kernel
theorem dX5_why_28 : decode cX5_why 28 = .ok (.iload 6, 2) := by decide +kernel
theorem dX5_why_30 : decode cX5_why 30 = .ok (.iconst 5, 1) := by decide +kernel
theorem dX5_why_31 : decode cX5_why 31 = .ok (.if_icmp .ge 22, 3) := by decide +kernel
theorem dX5_why_34 : decode cX5_why 34 = .ok (.iload 5, 2) := by decide +kernel
theorem dX5_why_36 : decode cX5_why 36 = .ok (.aload_n 0, 1) := by decide +kernel
theorem dX5_why_37 : decode cX5_why 37 = .ok (.iload_n 1, 1) := by decide +kernel
theorem dX5_why_38 : decode cX5_why 38 = .ok (.iload_n 2, 1) := by decide +kernel
theorem dX5_why_39 : decode cX5_why 39 = .ok (.iload 6, 2) := by decide +kernel
theorem dX5_why_41 : decode cX5_why 41 = .ok (.invokevirtual 225, 3) := by decide +kernel
theorem dX5_why_44 : decode cX5_why 44 = .ok (.iadd, 1) := by decide +kernel
theorem dX5_why_45 : decode cX5_why 45 = .ok (.istore 5, 2) := by decide +kernel
theorem dX5_why_47 : decode cX5_why 47 = .ok (.iinc 6 1, 3) := by decide +kernel
theorem dX5_why_50 : decode cX5_why 50 = .ok (.goto (-22), 3) := by decide +kernel
theorem dX5_why_53 : decode cX5_why 53 = .ok (.iload 5, 2) := by decide +kernel
theorem dX5_why_55 : decode cX5_why 55 = .ok (.ifCond .ne 6, 3) := by decide +kernel
theorem dX5_why_58 : decode cX5_why 58 = .ok (.bipush (-2), 2) := by decide +kernel
theorem dX5_why_60 : decode cX5_why 60 = .ok (.ireturn, 1) := by decide +kernel
theorem dX5_why_61 : decode cX5_why 61 = .ok (.aload_n 0, 1) := by decide +kernel
theorem dX5_why_62 : decode cX5_why 62 = .ok (.iload_n 1, 1) := by decide +kernel
theorem dX5_why_63 : decode cX5_why 63 = .ok (.iload_n 2, 1) := by decide +kernel
theorem dX5_why_64 : decode cX5_why 64 = .ok (.iload_n 3, 1) := by decide +kernel
theorem dX5_why_65 : decode cX5_why 65 = .ok (.invokevirtual 225, 3) := by decide +kernel
theorem dX5_why_68 : decode cX5_why 68 = .ok (.istore 6, 2) := by decide +kernel
theorem dX5_why_70 : decode cX5_why 70 = .ok (.iload 6, 2) := by decide +kernel
theorem dX5_why_72 : decode cX5_why 72 = .ok (.istore 7, 2) := by decide +kernel
theorem dX5_why_74 : decode cX5_why 74 = .ok (.iload 5, 2) := by decide +kernel
theorem dX5_why_76 : decode cX5_why 76 = .ok (.istore 8, 2) := by decide +kernel
theorem dX5_why_78 : decode cX5_why 78 = .ok (.iload 8, 2) := by decide +kernel
theorem dX5_why_80 : decode cX5_why 80 = .ok (.ifCond .eq 21, 3) := by decide +kernel
theorem dX5_why_83 : decode cX5_why 83 = .ok (.iload 7, 2) := by decide +kernel
theorem dX5_why_85 : decode cX5_why 85 = .ok (.iload 8, 2) := by decide +kernel
theorem dX5_why_87 : decode cX5_why 87 = .ok (.irem, 1) := by decide +kernel
theorem dX5_why_88 : decode cX5_why 88 = .ok (.istore 9, 2) := by decide +kernel
theorem dX5_why_90 : decode cX5_why 90 = .ok (.iload 8, 2) := by decide +kernel
theorem dX5_why_92 : decode cX5_why 92 = .ok (.istore 7, 2) := by decide +kernel
theorem dX5_why_94 : decode cX5_why 94 = .ok (.iload 9, 2) := by decide +kernel
theorem dX5_why_96 : decode cX5_why 96 = .ok (.istore 8, 2) := by decide +kernel
theorem dX5_why_98 : decode cX5_why 98 = .ok (.goto (-20), 3) := by decide +kernel
theorem dX5_why_101 : decode cX5_why 101 = .ok (.iload 4, 2) := by decide +kernel
theorem dX5_why_103 : decode cX5_why 103 = .ok (.ifCond .ne 11, 3) := by decide +kernel
theorem dX5_why_106 : decode cX5_why 106 = .ok (.iload 6, 2) := by decide +kernel
theorem dX5_why_108 : decode cX5_why 108 = .ok (.iload 7, 2) := by decide +kernel
theorem dX5_why_110 : decode cX5_why 110 = .ok (.idiv, 1) := by decide +kernel
theorem dX5_why_111 : decode cX5_why 111 = .ok (.goto 8, 3) := by decide +kernel
theorem dX5_why_114 : decode cX5_why 114 = .ok (.iload 5, 2) := by decide +kernel
theorem dX5_why_116 : decode cX5_why 116 = .ok (.iload 7, 2) := by decide +kernel
theorem dX5_why_118 : decode cX5_why 118 = .ok (.idiv, 1) := by decide +kernel
theorem dX5_why_119 : decode cX5_why 119 = .ok (.ireturn, 1) := by decide +kernel
theorem dX5_isDry_0 : decode cX5_isDry 0 = .ok (.iload_n 0, 1) := by decide +kernel
theorem dX5_isDry_1 : decode cX5_isDry 1 = .ok (.i2l, 1) := by decide +kernel
theorem dX5_isDry_2 : decode cX5_isDry 2 = .ok (.lconst 1, 1) := by decide +kernel
theorem dX5_isDry_3 : decode cX5_isDry 3 = .ok (.ldc2_w 229, 3) := by decide +kernel
theorem dX5_isDry_6 : decode cX5_isDry 6 = .ok (.invokestatic 58, 3) := by decide +kernel
theorem dX5_isDry_9 : decode cX5_isDry 9 = .ok (.ifCond .eq 30, 3) := by decide +kernel
theorem dX5_isDry_12 : decode cX5_isDry 12 = .ok (.iload_n 1, 1) := by decide +kernel
theorem dX5_isDry_13 : decode cX5_isDry 13 = .ok (.i2l, 1) := by decide +kernel
theorem dX5_isDry_14 : decode cX5_isDry 14 = .ok (.lconst 0, 1) := by decide +kernel
theorem dX5_isDry_15 : decode cX5_isDry 15 = .ok (.iload_n 0, 1) := by decide +kernel
theorem dX5_isDry_16 : decode cX5_isDry 16 = .ok (.i2l, 1) := by decide +kernel
theorem dX5_isDry_17 : decode cX5_isDry 17 = .ok (.invokestatic 58, 3) := by decide +kernel
theorem dX5_isDry_20 : decode cX5_isDry 20 = .ok (.ifCond .eq 19, 3) := by decide +kernel
theorem dX5_isDry_23 : decode cX5_isDry 23 = .ok (.iload_n 2, 1) := by decide +kernel
theorem dX5_isDry_24 : decode cX5_isDry 24 = .ok (.i2l, 1) := by decide +kernel
theorem dX5_isDry_25 : decode cX5_isDry 25 = .ok (.lconst 0, 1) := by decide +kernel
theorem dX5_isDry_26 : decode cX5_isDry 26 = .ok (.ldc2_w 178, 3) := by decide +kernel
theorem dX5_isDry_29 : decode cX5_isDry 29 = .ok (.invokestatic 58, 3) := by decide +kernel
theorem dX5_isDry_32 : decode cX5_isDry 32 = .ok (.ifCond .eq 7, 3) := by decide +kernel
theorem dX5_isDry_35 : decode cX5_isDry 35 = .ok (.iconst 1, 1) := by decide +kernel
theorem dX5_isDry_36 : decode cX5_isDry 36 = .ok (.goto 4, 3) := by decide +kernel
theorem dX5_isDry_39 : decode cX5_isDry 39 = .ok (.iconst 0, 1) := by decide +kernel
theorem dX5_isDry_40 : decode cX5_isDry 40 = .ok (.ireturn, 1) := by decide +kernel
theorem dX5_dried_0 : decode cX5_dried 0 = .ok (.iload_n 1, 1) := by decide +kernel
theorem dX5_dried_1 : decode cX5_dried 1 = .ok (.iload_n 2, 1) := by decide +kernel
theorem dX5_dried_2 : decode cX5_dried 2 = .ok (.iload_n 3, 1) := by decide +kernel
theorem dX5_dried_3 : decode cX5_dried 3 = .ok (.invokestatic 231, 3) := by decide +kernel
theorem dX5_dried_6 : decode cX5_dried 6 = .ok (.ifCond .eq 16, 3) := by decide +kernel
theorem dX5_dried_9 : decode cX5_dried 9 = .ok (.iload 4, 2) := by decide +kernel
theorem dX5_dried_11 : decode cX5_dried 11 = .ok (.i2l, 1) := by decide +kernel
theorem dX5_dried_12 : decode cX5_dried 12 = .ok (.lconst 0, 1) := by decide +kernel
theorem dX5_dried_13 : decode cX5_dried 13 = .ok (.ldc2_w 234, 3) := by decide +kernel
theorem dX5_dried_16 : decode cX5_dried 16 = .ok (.invokestatic 58, 3) := by decide +kernel
theorem dX5_dried_19 : decode cX5_dried 19 = .ok (.ifCond .ne 5, 3) := by decide +kernel
theorem dX5_dried_22 : decode cX5_dried 22 = .ok (.iconst (-1), 1) := by decide +kernel
theorem dX5_dried_23 : decode cX5_dried 23 = .ok (.ireturn, 1) := by decide +kernel
theorem dX5_dried_24 : decode cX5_dried 24 = .ok (.iload_n 1, 1) := by decide +kernel
theorem dX5_dried_25 : decode cX5_dried 25 = .ok (.istore 5, 2) := by decide +kernel
theorem dX5_dried_27 : decode cX5_dried 27 = .ok (.iconst 0, 1) := by decide +kernel
theorem dX5_dried_28 : decode cX5_dried 28 = .ok (.istore 6, 2) := by decide +kernel
theorem dX5_dried_30 : decode cX5_dried 30 = .ok (.iconst 0, 1) := by decide +kernel
theorem dX5_dried_31 : decode cX5_dried 31 = .ok (.istore 7, 2) := by decide +kernel
theorem dX5_dried_33 : decode cX5_dried 33 = .ok (.iload 7, 2) := by decide +kernel
theorem dX5_dried_35 : decode cX5_dried 35 = .ok (.iload 4, 2) := by decide +kernel
theorem dX5_dried_37 : decode cX5_dried 37 = .ok (.if_icmp .ge 47, 3) := by decide +kernel
theorem dX5_dried_40 : decode cX5_dried 40 = .ok (.iload 5, 2) := by decide +kernel
theorem dX5_dried_42 : decode cX5_dried 42 = .ok (.iload_n 2, 1) := by decide +kernel
theorem dX5_dried_43 : decode cX5_dried 43 = .ok (.isub, 1) := by decide +kernel
theorem dX5_dried_44 : decode cX5_dried 44 = .ok (.bipush 10, 2) := by decide +kernel
theorem dX5_dried_46 : decode cX5_dried 46 = .ok (.iload 6, 2) := by decide +kernel
theorem dX5_dried_48 : decode cX5_dried 48 = .ok (.iadd, 1) := by decide +kernel
theorem dX5_dried_49 : decode cX5_dried 49 = .ok (.idiv, 1) := by decide +kernel
theorem dX5_dried_50 : decode cX5_dried 50 = .ok (.istore 8, 2) := by decide +kernel
theorem dX5_dried_52 : decode cX5_dried 52 = .ok (.iload 5, 2) := by decide +kernel
theorem dX5_dried_54 : decode cX5_dried 54 = .ok (.iload 8, 2) := by decide +kernel
theorem dX5_dried_56 : decode cX5_dried 56 = .ok (.isub, 1) := by decide +kernel
theorem dX5_dried_57 : decode cX5_dried 57 = .ok (.istore 5, 2) := by decide +kernel
theorem dX5_dried_59 : decode cX5_dried 59 = .ok (.iload 6, 2) := by decide +kernel
theorem dX5_dried_61 : decode cX5_dried 61 = .ok (.iload 8, 2) := by decide +kernel
theorem dX5_dried_63 : decode cX5_dried 63 = .ok (.iload_n 1, 1) := by decide +kernel
theorem dX5_dried_64 : decode cX5_dried 64 = .ok (.bipush 50, 2) := by decide +kernel
theorem dX5_dried_66 : decode cX5_dried 66 = .ok (.idiv, 1) := by decide +kernel
theorem dX5_dried_67 : decode cX5_dried 67 = .ok (.if_icmp .le 7, 3) := by decide +kernel
theorem dX5_dried_70 : decode cX5_dried 70 = .ok (.iload_n 3, 1) := by decide +kernel
theorem dX5_dried_71 : decode cX5_dried 71 = .ok (.goto 4, 3) := by decide +kernel
theorem dX5_dried_74 : decode cX5_dried 74 = .ok (.iconst 0, 1) := by decide +kernel
theorem dX5_dried_75 : decode cX5_dried 75 = .ok (.iadd, 1) := by decide +kernel
theorem dX5_dried_76 : decode cX5_dried 76 = .ok (.istore 6, 2) := by decide +kernel
theorem dX5_dried_78 : decode cX5_dried 78 = .ok (.iinc 7 1, 3) := by decide +kernel
theorem dX5_dried_81 : decode cX5_dried 81 = .ok (.goto (-48), 3) := by decide +kernel
theorem dX5_dried_84 : decode cX5_dried 84 = .ok (.iload 5, 2) := by decide +kernel
theorem dX5_dried_86 : decode cX5_dried 86 = .ok (.ireturn, 1) := by decide +kernel
theorem dX5_days_0 : decode cX5_days 0 = .ok (.iload_n 1, 1) := by decide +kernel
theorem dX5_days_1 : decode cX5_days 1 = .ok (.iload_n 2, 1) := by decide +kernel
theorem dX5_days_2 : decode cX5_days 2 = .ok (.iload_n 3, 1) := by decide +kernel
theorem dX5_days_3 : decode cX5_days 3 = .ok (.invokestatic 231, 3) := by decide +kernel
theorem dX5_days_6 : decode cX5_days 6 = .ok (.ifCond .eq 16, 3) := by decide +kernel
theorem dX5_days_9 : decode cX5_days 9 = .ok (.iload 4, 2) := by decide +kernel
theorem dX5_days_11 : decode cX5_days 11 = .ok (.i2l, 1) := by decide +kernel
theorem dX5_days_12 : decode cX5_days 12 = .ok (.lconst 0, 1) := by decide +kernel
theorem dX5_days_13 : decode cX5_days 13 = .ok (.ldc2_w 229, 3) := by decide +kernel
theorem dX5_days_16 : decode cX5_days 16 = .ok (.invokestatic 58, 3) := by decide +kernel
theorem dX5_days_19 : decode cX5_days 19 = .ok (.ifCond .ne 5, 3) := by decide +kernel
theorem dX5_days_22 : decode cX5_days 22 = .ok (.iconst (-1), 1) := by decide +kernel
theorem dX5_days_23 : decode cX5_days 23 = .ok (.ireturn, 1) := by decide +kernel
theorem dX5_days_24 : decode cX5_days 24 = .ok (.iconst 0, 1) := by decide +kernel
theorem dX5_days_25 : decode cX5_days 25 = .ok (.istore 5, 2) := by decide +kernel
theorem dX5_days_27 : decode cX5_days 27 = .ok (.iload 5, 2) := by decide +kernel
theorem dX5_days_29 : decode cX5_days 29 = .ok (.sipush 200, 3) := by decide +kernel
theorem dX5_days_32 : decode cX5_days 32 = .ok (.if_icmp .gt 26, 3) := by decide +kernel
theorem dX5_days_35 : decode cX5_days 35 = .ok (.aload_n 0, 1) := by decide +kernel
theorem dX5_days_36 : decode cX5_days 36 = .ok (.iload_n 1, 1) := by decide +kernel
theorem dX5_days_37 : decode cX5_days 37 = .ok (.iload_n 2, 1) := by decide +kernel
theorem dX5_days_38 : decode cX5_days 38 = .ok (.iload_n 3, 1) := by decide +kernel
theorem dX5_days_39 : decode cX5_days 39 = .ok (.iload 5, 2) := by decide +kernel
theorem dX5_days_41 : decode cX5_days 41 = .ok (.invokevirtual 236, 3) := by decide +kernel
theorem dX5_days_44 : decode cX5_days 44 = .ok (.iload 4, 2) := by decide +kernel
theorem dX5_days_46 : decode cX5_days 46 = .ok (.if_icmp .gt 6, 3) := by decide +kernel
theorem dX5_days_49 : decode cX5_days 49 = .ok (.iload 5, 2) := by decide +kernel
theorem dX5_days_51 : decode cX5_days 51 = .ok (.ireturn, 1) := by decide +kernel
theorem dX5_days_52 : decode cX5_days 52 = .ok (.iinc 5 1, 3) := by decide +kernel
theorem dX5_days_55 : decode cX5_days 55 = .ok (.goto (-28), 3) := by decide +kernel
theorem dX5_days_58 : decode cX5_days 58 = .ok (.bipush (-9), 2) := by decide +kernel
theorem dX5_days_60 : decode cX5_days 60 = .ok (.ireturn, 1) := by decide +kernel
theorem dX5_test_0 : decode cX5_test 0 = .ok (.iload_n 1, 1) := by decide +kernel
theorem dX5_test_1 : decode cX5_test 1 = .ok (.i2l, 1) := by decide +kernel
theorem dX5_test_2 : decode cX5_test 2 = .ok (.lconst 0, 1) := by decide +kernel
theorem dX5_test_3 : decode cX5_test 3 = .ok (.ldc2_w 240, 3) := by decide +kernel
theorem dX5_test_6 : decode cX5_test 6 = .ok (.invokestatic 58, 3) := by decide +kernel
theorem dX5_test_9 : decode cX5_test 9 = .ok (.ifCond .eq 15, 3) := by decide +kernel
theorem dX5_test_12 : decode cX5_test 12 = .ok (.iload_n 2, 1) := by decide +kernel
theorem dX5_test_13 : decode cX5_test 13 = .ok (.i2l, 1) := by decide +kernel
theorem dX5_test_14 : decode cX5_test 14 = .ok (.lconst 0, 1) := by decide +kernel
theorem dX5_test_15 : decode cX5_test 15 = .ok (.ldc2_w 217, 3) := by decide +kernel
theorem dX5_test_18 : decode cX5_test 18 = .ok (.invokestatic 58, 3) := by decide +kernel
theorem dX5_test_21 : decode cX5_test 21 = .ok (.ifCond .ne 5, 3) := by decide +kernel
theorem dX5_test_24 : decode cX5_test 24 = .ok (.iconst (-1), 1) := by decide +kernel
theorem dX5_test_25 : decode cX5_test 25 = .ok (.ireturn, 1) := by decide +kernel
theorem dX5_test_26 : decode cX5_test 26 = .ok (.aload_n 0, 1) := by decide +kernel
theorem dX5_test_27 : decode cX5_test 27 = .ok (.getfield 242, 3) := by decide +kernel
theorem dX5_test_30 : decode cX5_test 30 = .ok (.bipush 20, 2) := by decide +kernel
theorem dX5_test_32 : decode cX5_test 32 = .ok (.if_icmp .ne 6, 3) := by decide +kernel
theorem dX5_test_35 : decode cX5_test 35 = .ok (.bipush (-3), 2) := by decide +kernel
theorem dX5_test_37 : decode cX5_test 37 = .ok (.ireturn, 1) := by decide +kernel
theorem dX5_test_38 : decode cX5_test 38 = .ok (.aload_n 0, 1) := by decide +kernel
theorem dX5_test_39 : decode cX5_test 39 = .ok (.getfield 46, 3) := by decide +kernel
theorem dX5_test_42 : decode cX5_test 42 = .ok (.aload_n 0, 1) := by decide +kernel
theorem dX5_test_43 : decode cX5_test 43 = .ok (.getfield 242, 3) := by decide +kernel
theorem dX5_test_46 : decode cX5_test 46 = .ok (.iload_n 1, 1) := by decide +kernel
theorem dX5_test_47 : decode cX5_test 47 = .ok (.iastore, 1) := by decide +kernel
theorem dX5_test_48 : decode cX5_test 48 = .ok (.aload_n 0, 1) := by decide +kernel
theorem dX5_test_49 : decode cX5_test 49 = .ok (.getfield 49, 3) := by decide +kernel
theorem dX5_test_52 : decode cX5_test 52 = .ok (.aload_n 0, 1) := by decide +kernel
theorem dX5_test_53 : decode cX5_test 53 = .ok (.getfield 242, 3) := by decide +kernel
theorem dX5_test_56 : decode cX5_test 56 = .ok (.iload_n 2, 1) := by decide +kernel
theorem dX5_test_57 : decode cX5_test 57 = .ok (.iastore, 1) := by decide +kernel
theorem dX5_test_58 : decode cX5_test 58 = .ok (.aload_n 0, 1) := by decide +kernel
theorem dX5_test_59 : decode cX5_test 59 = .ok (.dup, 1) := by decide +kernel
theorem dX5_test_60 : decode cX5_test 60 = .ok (.getfield 242, 3) := by decide +kernel
theorem dX5_test_63 : decode cX5_test 63 = .ok (.iconst 1, 1) := by decide +kernel
theorem dX5_test_64 : decode cX5_test 64 = .ok (.iadd, 1) := by decide +kernel
theorem dX5_test_65 : decode cX5_test 65 = .ok (.putfield 242, 3) := by decide +kernel
theorem dX5_test_68 : decode cX5_test 68 = .ok (.aload_n 0, 1) := by decide +kernel
theorem dX5_test_69 : decode cX5_test 69 = .ok (.getfield 242, 3) := by decide +kernel
theorem dX5_test_72 : decode cX5_test 72 = .ok (.ireturn, 1) := by decide +kernel
theorem dX5_holds_0 : decode cX5_holds 0 = .ok (.iload_n 1, 1) := by decide +kernel
theorem dX5_holds_1 : decode cX5_holds 1 = .ok (.i2l, 1) := by decide +kernel
theorem dX5_holds_2 : decode cX5_holds 2 = .ok (.lconst 0, 1) := by decide +kernel
theorem dX5_holds_3 : decode cX5_holds 3 = .ok (.ldc2_w 148, 3) := by decide +kernel
theorem dX5_holds_6 : decode cX5_holds 6 = .ok (.invokestatic 58, 3) := by decide +kernel
theorem dX5_holds_9 : decode cX5_holds 9 = .ok (.ifCond .ne 5, 3) := by decide +kernel
theorem dX5_holds_12 : decode cX5_holds 12 = .ok (.iconst (-1), 1) := by decide +kernel
theorem dX5_holds_13 : decode cX5_holds 13 = .ok (.ireturn, 1) := by decide +kernel
theorem dX5_holds_14 : decode cX5_holds 14 = .ok (.bipush (-9), 2) := by decide +kernel
theorem dX5_holds_16 : decode cX5_holds 16 = .ok (.istore_n 2, 1) := by decide +kernel
theorem dX5_holds_17 : decode cX5_holds 17 = .ok (.bipush (-9), 2) := by decide +kernel
theorem dX5_holds_19 : decode cX5_holds 19 = .ok (.istore_n 3, 1) := by decide +kernel
theorem dX5_holds_20 : decode cX5_holds 20 = .ok (.iconst 0, 1) := by decide +kernel
theorem dX5_holds_21 : decode cX5_holds 21 = .ok (.istore 4, 2) := by decide +kernel
theorem dX5_holds_23 : decode cX5_holds 23 = .ok (.iload 4, 2) := by decide +kernel
theorem dX5_holds_25 : decode cX5_holds 25 = .ok (.aload_n 0, 1) := by decide +kernel
theorem dX5_holds_26 : decode cX5_holds 26 = .ok (.getfield 242, 3) := by decide +kernel
theorem dX5_holds_29 : decode cX5_holds 29 = .ok (.if_icmp .ge 88, 3) := by decide +kernel
theorem dX5_holds_32 : decode cX5_holds 32 = .ok (.aload_n 0, 1) := by decide +kernel
theorem dX5_holds_33 : decode cX5_holds 33 = .ok (.getfield 49, 3) := by decide +kernel
theorem dX5_holds_36 : decode cX5_holds 36 = .ok (.iload 4, 2) := by decide +kernel
theorem dX5_holds_38 : decode cX5_holds 38 = .ok (.iaload, 1) := by decide +kernel
theorem dX5_holds_39 : decode cX5_holds 39 = .ok (.bipush 100, 2) := by decide +kernel
theorem dX5_holds_41 : decode cX5_holds 41 = .ok (.if_icmp .gt 7, 3) := by decide +kernel
theorem dX5_holds_44 : decode cX5_holds 44 = .ok (.iconst 1, 1) := by decide +kernel
theorem dX5_holds_45 : decode cX5_holds 45 = .ok (.goto 4, 3) := by decide +kernel
theorem dX5_holds_48 : decode cX5_holds 48 = .ok (.iconst 0, 1) := by decide +kernel
theorem dX5_holds_49 : decode cX5_holds 49 = .ok (.istore 5, 2) := by decide +kernel
theorem dX5_holds_51 : decode cX5_holds 51 = .ok (.iload 5, 2) := by decide +kernel
theorem dX5_holds_53 : decode cX5_holds 53 = .ok (.ifCond .eq 28, 3) := by decide +kernel
theorem dX5_holds_56 : decode cX5_holds 56 = .ok (.iload_n 2, 1) := by decide +kernel
theorem dX5_holds_57 : decode cX5_holds 57 = .ok (.ifCond .lt 14, 3) := by decide +kernel
theorem dX5_holds_60 : decode cX5_holds 60 = .ok (.aload_n 0, 1) := by decide +kernel
theorem dX5_holds_61 : decode cX5_holds 61 = .ok (.getfield 46, 3) := by decide +kernel
theorem dX5_holds_64 : decode cX5_holds 64 = .ok (.iload 4, 2) := by decide +kernel
theorem dX5_holds_66 : decode cX5_holds 66 = .ok (.iaload, 1) := by decide +kernel
theorem dX5_holds_67 : decode cX5_holds 67 = .ok (.iload_n 2, 1) := by decide +kernel
theorem dX5_holds_68 : decode cX5_holds 68 = .ok (.if_icmp .ge 13, 3) := by decide +kernel
theorem dX5_holds_71 : decode cX5_holds 71 = .ok (.aload_n 0, 1) := by decide +kernel
theorem dX5_holds_72 : decode cX5_holds 72 = .ok (.getfield 46, 3) := by decide +kernel
theorem dX5_holds_75 : decode cX5_holds 75 = .ok (.iload 4, 2) := by decide +kernel
theorem dX5_holds_77 : decode cX5_holds 77 = .ok (.iaload, 1) := by decide +kernel
theorem dX5_holds_78 : decode cX5_holds 78 = .ok (.goto 4, 3) := by decide +kernel
theorem dX5_holds_81 : decode cX5_holds 81 = .ok (.iload_n 2, 1) := by decide +kernel
theorem dX5_holds_82 : decode cX5_holds 82 = .ok (.istore_n 2, 1) := by decide +kernel
theorem dX5_holds_83 : decode cX5_holds 83 = .ok (.iload 5, 2) := by decide +kernel
theorem dX5_holds_85 : decode cX5_holds 85 = .ok (.ifCond .ne 24, 3) := by decide +kernel
theorem dX5_holds_88 : decode cX5_holds 88 = .ok (.aload_n 0, 1) := by decide +kernel
theorem dX5_holds_89 : decode cX5_holds 89 = .ok (.getfield 46, 3) := by decide +kernel
theorem dX5_holds_92 : decode cX5_holds 92 = .ok (.iload 4, 2) := by decide +kernel
theorem dX5_holds_94 : decode cX5_holds 94 = .ok (.iaload, 1) := by decide +kernel
theorem dX5_holds_95 : decode cX5_holds 95 = .ok (.iload_n 3, 1) := by decide +kernel
theorem dX5_holds_96 : decode cX5_holds 96 = .ok (.if_icmp .le 13, 3) := by decide +kernel
theorem dX5_holds_99 : decode cX5_holds 99 = .ok (.aload_n 0, 1) := by decide +kernel
theorem dX5_holds_100 : decode cX5_holds 100 = .ok (.getfield 46, 3) := by decide +kernel
theorem dX5_holds_103 : decode cX5_holds 103 = .ok (.iload 4, 2) := by decide +kernel
theorem dX5_holds_105 : decode cX5_holds 105 = .ok (.iaload, 1) := by decide +kernel
theorem dX5_holds_106 : decode cX5_holds 106 = .ok (.goto 4, 3) := by decide +kernel
theorem dX5_holds_109 : decode cX5_holds 109 = .ok (.iload_n 3, 1) := by decide +kernel
theorem dX5_holds_110 : decode cX5_holds 110 = .ok (.istore_n 3, 1) := by decide +kernel
theorem dX5_holds_111 : decode cX5_holds 111 = .ok (.iinc 4 1, 3) := by decide +kernel
theorem dX5_holds_114 : decode cX5_holds 114 = .ok (.goto (-91), 3) := by decide +kernel
theorem dX5_holds_117 : decode cX5_holds 117 = .ok (.iload_n 1, 1) := by decide +kernel
theorem dX5_holds_118 : decode cX5_holds 118 = .ok (.ifCond .ne 7, 3) := by decide +kernel
theorem dX5_holds_121 : decode cX5_holds 121 = .ok (.iload_n 2, 1) := by decide +kernel
theorem dX5_holds_122 : decode cX5_holds 122 = .ok (.goto 26, 3) := by decide +kernel
theorem dX5_holds_125 : decode cX5_holds 125 = .ok (.iload_n 1, 1) := by decide +kernel
theorem dX5_holds_126 : decode cX5_holds 126 = .ok (.iconst 1, 1) := by decide +kernel
theorem dX5_holds_127 : decode cX5_holds 127 = .ok (.if_icmp .ne 7, 3) := by decide +kernel
theorem dX5_holds_130 : decode cX5_holds 130 = .ok (.iload_n 3, 1) := by decide +kernel
theorem dX5_holds_131 : decode cX5_holds 131 = .ok (.goto 17, 3) := by decide +kernel
theorem dX5_holds_134 : decode cX5_holds 134 = .ok (.iload_n 2, 1) := by decide +kernel
theorem dX5_holds_135 : decode cX5_holds 135 = .ok (.ifCond .lt 8, 3) := by decide +kernel
theorem dX5_holds_138 : decode cX5_holds 138 = .ok (.iload_n 3, 1) := by decide +kernel
theorem dX5_holds_139 : decode cX5_holds 139 = .ok (.iload_n 2, 1) := by decide +kernel
theorem dX5_holds_140 : decode cX5_holds 140 = .ok (.if_icmp .ge 7, 3) := by decide +kernel
theorem dX5_holds_143 : decode cX5_holds 143 = .ok (.iconst 1, 1) := by decide +kernel
theorem dX5_holds_144 : decode cX5_holds 144 = .ok (.goto 4, 3) := by decide +kernel
theorem dX5_holds_147 : decode cX5_holds 147 = .ok (.iconst 0, 1) := by decide +kernel
theorem dX5_holds_148 : decode cX5_holds 148 = .ok (.ireturn, 1) := by decide +kernel
theorem dX5_tube_0 : decode cX5_tube 0 = .ok (.iload_n 1, 1) := by decide +kernel
theorem dX5_tube_1 : decode cX5_tube 1 = .ok (.i2l, 1) := by decide +kernel
theorem dX5_tube_2 : decode cX5_tube 2 = .ok (.lconst 1, 1) := by decide +kernel
theorem dX5_tube_3 : decode cX5_tube 3 = .ok (.ldc2_w 162, 3) := by decide +kernel
theorem dX5_tube_6 : decode cX5_tube 6 = .ok (.invokestatic 58, 3) := by decide +kernel
theorem dX5_tube_9 : decode cX5_tube 9 = .ok (.ifCond .eq 25, 3) := by decide +kernel
theorem dX5_tube_12 : decode cX5_tube 12 = .ok (.iload_n 2, 1) := by decide +kernel
theorem dX5_tube_13 : decode cX5_tube 13 = .ok (.i2l, 1) := by decide +kernel
theorem dX5_tube_14 : decode cX5_tube 14 = .ok (.lconst 1, 1) := by decide +kernel
theorem dX5_tube_15 : decode cX5_tube 15 = .ok (.ldc2_w 217, 3) := by decide +kernel
theorem dX5_tube_18 : decode cX5_tube 18 = .ok (.invokestatic 58, 3) := by decide +kernel
theorem dX5_tube_21 : decode cX5_tube 21 = .ok (.ifCond .eq 13, 3) := by decide +kernel
theorem dX5_tube_24 : decode cX5_tube 24 = .ok (.iload_n 3, 1) := by decide +kernel
theorem dX5_tube_25 : decode cX5_tube 25 = .ok (.i2l, 1) := by decide +kernel
theorem dX5_tube_26 : decode cX5_tube 26 = .ok (.lconst 0, 1) := by decide +kernel
theorem dX5_tube_27 : decode cX5_tube 27 = .ok (.lconst 1, 1) := by decide +kernel
theorem dX5_tube_28 : decode cX5_tube 28 = .ok (.invokestatic 58, 3) := by decide +kernel
theorem dX5_tube_31 : decode cX5_tube 31 = .ok (.ifCond .ne 5, 3) := by decide +kernel
theorem dX5_tube_34 : decode cX5_tube 34 = .ok (.iconst (-1), 1) := by decide +kernel
theorem dX5_tube_35 : decode cX5_tube 35 = .ok (.ireturn, 1) := by decide +kernel
theorem dX5_tube_36 : decode cX5_tube 36 = .ok (.iload_n 3, 1) := by decide +kernel
theorem dX5_tube_37 : decode cX5_tube 37 = .ok (.ifCond .ne 9, 3) := by decide +kernel
theorem dX5_tube_40 : decode cX5_tube 40 = .ok (.iload_n 2, 1) := by decide +kernel
theorem dX5_tube_41 : decode cX5_tube 41 = .ok (.iload_n 1, 1) := by decide +kernel
theorem dX5_tube_42 : decode cX5_tube 42 = .ok (.idiv, 1) := by decide +kernel
theorem dX5_tube_43 : decode cX5_tube 43 = .ok (.goto 8, 3) := by decide +kernel
theorem dX5_tube_46 : decode cX5_tube 46 = .ok (.iconst 2, 1) := by decide +kernel
theorem dX5_tube_47 : decode cX5_tube 47 = .ok (.iload_n 2, 1) := by decide +kernel
theorem dX5_tube_48 : decode cX5_tube 48 = .ok (.imul, 1) := by decide +kernel
theorem dX5_tube_49 : decode cX5_tube 49 = .ok (.iload_n 1, 1) := by decide +kernel
theorem dX5_tube_50 : decode cX5_tube 50 = .ok (.idiv, 1) := by decide +kernel
theorem dX5_tube_51 : decode cX5_tube 51 = .ok (.ireturn, 1) := by decide +kernel
theorem dX5_mark_0 : decode cX5_mark 0 = .ok (.iload_n 1, 1) := by decide +kernel
theorem dX5_mark_1 : decode cX5_mark 1 = .ok (.i2l, 1) := by decide +kernel
theorem dX5_mark_2 : decode cX5_mark 2 = .ok (.lconst 0, 1) := by decide +kernel
theorem dX5_mark_3 : decode cX5_mark 3 = .ok (.ldc2_w 245, 3) := by decide +kernel
theorem dX5_mark_6 : decode cX5_mark 6 = .ok (.invokestatic 58, 3) := by decide +kernel
theorem dX5_mark_9 : decode cX5_mark 9 = .ok (.ifCond .eq 15, 3) := by decide +kernel
theorem dX5_mark_12 : decode cX5_mark 12 = .ok (.iload_n 2, 1) := by decide +kernel
theorem dX5_mark_13 : decode cX5_mark 13 = .ok (.i2l, 1) := by decide +kernel
theorem dX5_mark_14 : decode cX5_mark 14 = .ok (.lconst 0, 1) := by decide +kernel
theorem dX5_mark_15 : decode cX5_mark 15 = .ok (.ldc2_w 172, 3) := by decide +kernel
theorem dX5_mark_18 : decode cX5_mark 18 = .ok (.invokestatic 58, 3) := by decide +kernel
theorem dX5_mark_21 : decode cX5_mark 21 = .ok (.ifCond .ne 6, 3) := by decide +kernel
theorem dX5_mark_24 : decode cX5_mark 24 = .ok (.ldc 247, 2) := by decide +kernel
theorem dX5_mark_26 : decode cX5_mark 26 = .ok (.ireturn, 1) := by decide +kernel
theorem dX5_mark_27 : decode cX5_mark 27 = .ok (.aload_n 0, 1) := by decide +kernel
theorem dX5_mark_28 : decode cX5_mark 28 = .ok (.getfield 23, 3) := by decide +kernel
theorem dX5_mark_31 : decode cX5_mark 31 = .ok (.iload_n 2, 1) := by decide +kernel
theorem dX5_mark_32 : decode cX5_mark 32 = .ok (.iaload, 1) := by decide +kernel
theorem dX5_mark_33 : decode cX5_mark 33 = .ok (.istore_n 3, 1) := by decide +kernel
theorem dX5_mark_34 : decode cX5_mark 34 = .ok (.aload_n 0, 1) := by decide +kernel
theorem dX5_mark_35 : decode cX5_mark 35 = .ok (.dup, 1) := by decide +kernel
theorem dX5_mark_36 : decode cX5_mark 36 = .ok (.getfield 248, 3) := by decide +kernel
theorem dX5_mark_39 : decode cX5_mark 39 = .ok (.lconst 1, 1) := by decide +kernel
theorem dX5_mark_40 : decode cX5_mark 40 = .ok (.ladd, 1) := by decide +kernel
theorem dX5_mark_41 : decode cX5_mark 41 = .ok (.putfield 248, 3) := by decide +kernel
theorem dX5_mark_44 : decode cX5_mark 44 = .ok (.iload_n 1, 1) := by decide +kernel
theorem dX5_mark_45 : decode cX5_mark 45 = .ok (.iconst 1, 1) := by decide +kernel
theorem dX5_mark_46 : decode cX5_mark 46 = .ok (.if_icmp .eq 8, 3) := by decide +kernel
theorem dX5_mark_49 : decode cX5_mark 49 = .ok (.iload_n 1, 1) := by decide +kernel
theorem dX5_mark_50 : decode cX5_mark 50 = .ok (.iconst 4, 1) := by decide +kernel
theorem dX5_mark_51 : decode cX5_mark 51 = .ok (.if_icmp .ne 26, 3) := by decide +kernel
theorem dX5_mark_54 : decode cX5_mark 54 = .ok (.iload_n 3, 1) := by decide +kernel
theorem dX5_mark_55 : decode cX5_mark 55 = .ok (.aload_n 0, 1) := by decide +kernel
theorem dX5_mark_56 : decode cX5_mark 56 = .ok (.getfield 23, 3) := by decide +kernel
theorem dX5_mark_59 : decode cX5_mark 59 = .ok (.iconst 5, 1) := by decide +kernel
theorem dX5_mark_60 : decode cX5_mark 60 = .ok (.iload_n 2, 1) := by decide +kernel
theorem dX5_mark_61 : decode cX5_mark 61 = .ok (.iadd, 1) := by decide +kernel
theorem dX5_mark_62 : decode cX5_mark 62 = .ok (.iaload, 1) := by decide +kernel
theorem dX5_mark_63 : decode cX5_mark 63 = .ok (.iadd, 1) := by decide +kernel
theorem dX5_mark_64 : decode cX5_mark 64 = .ok (.istore_n 3, 1) := by decide +kernel
theorem dX5_mark_65 : decode cX5_mark 65 = .ok (.aload_n 0, 1) := by decide +kernel
theorem dX5_mark_66 : decode cX5_mark 66 = .ok (.dup, 1) := by decide +kernel
theorem dX5_mark_67 : decode cX5_mark 67 = .ok (.getfield 248, 3) := by decide +kernel
theorem dX5_mark_70 : decode cX5_mark 70 = .ok (.ldc2_w 143, 3) := by decide +kernel
theorem dX5_mark_73 : decode cX5_mark 73 = .ok (.ladd, 1) := by decide +kernel
theorem dX5_mark_74 : decode cX5_mark 74 = .ok (.putfield 248, 3) := by decide +kernel
theorem dX5_mark_77 : decode cX5_mark 77 = .ok (.iload_n 1, 1) := by decide +kernel
theorem dX5_mark_78 : decode cX5_mark 78 = .ok (.iconst 2, 1) := by decide +kernel
theorem dX5_mark_79 : decode cX5_mark 79 = .ok (.if_icmp .eq 8, 3) := by decide +kernel
theorem dX5_mark_82 : decode cX5_mark 82 = .ok (.iload_n 1, 1) := by decide +kernel
theorem dX5_mark_83 : decode cX5_mark 83 = .ok (.iconst 3, 1) := by decide +kernel
theorem dX5_mark_84 : decode cX5_mark 84 = .ok (.if_icmp .ne 23, 3) := by decide +kernel
theorem dX5_mark_87 : decode cX5_mark 87 = .ok (.iload_n 3, 1) := by decide +kernel
theorem dX5_mark_88 : decode cX5_mark 88 = .ok (.aload_n 0, 1) := by decide +kernel
theorem dX5_mark_89 : decode cX5_mark 89 = .ok (.iconst 0, 1) := by decide +kernel
theorem dX5_mark_90 : decode cX5_mark 90 = .ok (.invokevirtual 150, 3) := by decide +kernel
theorem dX5_mark_93 : decode cX5_mark 93 = .ok (.isub, 1) := by decide +kernel
theorem dX5_mark_94 : decode cX5_mark 94 = .ok (.istore_n 3, 1) := by decide +kernel
theorem dX5_mark_95 : decode cX5_mark 95 = .ok (.aload_n 0, 1) := by decide +kernel
theorem dX5_mark_96 : decode cX5_mark 96 = .ok (.dup, 1) := by decide +kernel
theorem dX5_mark_97 : decode cX5_mark 97 = .ok (.getfield 248, 3) := by decide +kernel
theorem dX5_mark_100 : decode cX5_mark 100 = .ok (.ldc2_w 170, 3) := by decide +kernel
theorem dX5_mark_103 : decode cX5_mark 103 = .ok (.ladd, 1) := by decide +kernel
theorem dX5_mark_104 : decode cX5_mark 104 = .ok (.putfield 248, 3) := by decide +kernel
theorem dX5_mark_107 : decode cX5_mark 107 = .ok (.iload_n 1, 1) := by decide +kernel
theorem dX5_mark_108 : decode cX5_mark 108 = .ok (.iconst 3, 1) := by decide +kernel
theorem dX5_mark_109 : decode cX5_mark 109 = .ok (.if_icmp .ne 19, 3) := by decide +kernel
theorem dX5_mark_112 : decode cX5_mark 112 = .ok (.iload_n 3, 1) := by decide +kernel
theorem dX5_mark_113 : decode cX5_mark 113 = .ok (.iconst 2, 1) := by decide +kernel
theorem dX5_mark_114 : decode cX5_mark 114 = .ok (.imul, 1) := by decide +kernel
theorem dX5_mark_115 : decode cX5_mark 115 = .ok (.istore_n 3, 1) := by decide +kernel
theorem dX5_mark_116 : decode cX5_mark 116 = .ok (.aload_n 0, 1) := by decide +kernel
theorem dX5_mark_117 : decode cX5_mark 117 = .ok (.dup, 1) := by decide +kernel
theorem dX5_mark_118 : decode cX5_mark 118 = .ok (.getfield 248, 3) := by decide +kernel
theorem dX5_mark_121 : decode cX5_mark 121 = .ok (.ldc2_w 252, 3) := by decide +kernel
theorem dX5_mark_124 : decode cX5_mark 124 = .ok (.ladd, 1) := by decide +kernel
theorem dX5_mark_125 : decode cX5_mark 125 = .ok (.putfield 248, 3) := by decide +kernel
theorem dX5_mark_128 : decode cX5_mark 128 = .ok (.iload_n 1, 1) := by decide +kernel
theorem dX5_mark_129 : decode cX5_mark 129 = .ok (.iconst 4, 1) := by decide +kernel
theorem dX5_mark_130 : decode cX5_mark 130 = .ok (.if_icmp .ne 24, 3) := by decide +kernel
theorem dX5_mark_133 : decode cX5_mark 133 = .ok (.iload_n 3, 1) := by decide +kernel
theorem dX5_mark_134 : decode cX5_mark 134 = .ok (.aload_n 0, 1) := by decide +kernel
theorem dX5_mark_135 : decode cX5_mark 135 = .ok (.getfield 23, 3) := by decide +kernel
theorem dX5_mark_138 : decode cX5_mark 138 = .ok (.iconst 4, 1) := by decide +kernel
theorem dX5_mark_139 : decode cX5_mark 139 = .ok (.iaload, 1) := by decide +kernel
theorem dX5_mark_140 : decode cX5_mark 140 = .ok (.isub, 1) := by decide +kernel
theorem dX5_mark_141 : decode cX5_mark 141 = .ok (.istore_n 3, 1) := by decide +kernel
theorem dX5_mark_142 : decode cX5_mark 142 = .ok (.aload_n 0, 1) := by decide +kernel
theorem dX5_mark_143 : decode cX5_mark 143 = .ok (.dup, 1) := by decide +kernel
theorem dX5_mark_144 : decode cX5_mark 144 = .ok (.getfield 248, 3) := by decide +kernel
theorem dX5_mark_147 : decode cX5_mark 147 = .ok (.ldc2_w 254, 3) := by decide +kernel
theorem dX5_mark_150 : decode cX5_mark 150 = .ok (.ladd, 1) := by decide +kernel
theorem dX5_mark_151 : decode cX5_mark 151 = .ok (.putfield 248, 3) := by decide +kernel
theorem dX5_mark_154 : decode cX5_mark 154 = .ok (.iload_n 1, 1) := by decide +kernel
theorem dX5_mark_155 : decode cX5_mark 155 = .ok (.iconst 5, 1) := by decide +kernel
theorem dX5_mark_156 : decode cX5_mark 156 = .ok (.if_icmp .ne 25, 3) := by decide +kernel
theorem dX5_mark_159 : decode cX5_mark 159 = .ok (.iload_n 3, 1) := by decide +kernel
theorem dX5_mark_160 : decode cX5_mark 160 = .ok (.aload_n 0, 1) := by decide +kernel
theorem dX5_mark_161 : decode cX5_mark 161 = .ok (.getfield 23, 3) := by decide +kernel
theorem dX5_mark_164 : decode cX5_mark 164 = .ok (.bipush 9, 2) := by decide +kernel
theorem dX5_mark_166 : decode cX5_mark 166 = .ok (.iaload, 1) := by decide +kernel
theorem dX5_mark_167 : decode cX5_mark 167 = .ok (.iadd, 1) := by decide +kernel
theorem dX5_mark_168 : decode cX5_mark 168 = .ok (.istore_n 3, 1) := by decide +kernel
theorem dX5_mark_169 : decode cX5_mark 169 = .ok (.aload_n 0, 1) := by decide +kernel
theorem dX5_mark_170 : decode cX5_mark 170 = .ok (.dup, 1) := by decide +kernel
theorem dX5_mark_171 : decode cX5_mark 171 = .ok (.getfield 248, 3) := by decide +kernel
theorem dX5_mark_174 : decode cX5_mark 174 = .ok (.ldc2_w 256, 3) := by decide +kernel
theorem dX5_mark_177 : decode cX5_mark 177 = .ok (.ladd, 1) := by decide +kernel
theorem dX5_mark_178 : decode cX5_mark 178 = .ok (.putfield 248, 3) := by decide +kernel
theorem dX5_mark_181 : decode cX5_mark 181 = .ok (.iload_n 3, 1) := by decide +kernel
theorem dX5_mark_182 : decode cX5_mark 182 = .ok (.ireturn, 1) := by decide +kernel
theorem dX5_isImage_0 : decode cX5_isImage 0 = .ok (.iload_n 0, 1) := by decide +kernel
theorem dX5_isImage_1 : decode cX5_isImage 1 = .ok (.i2l, 1) := by decide +kernel
theorem dX5_isImage_2 : decode cX5_isImage 2 = .ok (.lconst 0, 1) := by decide +kernel
theorem dX5_isImage_3 : decode cX5_isImage 3 = .ok (.lconst 1, 1) := by decide +kernel
theorem dX5_isImage_4 : decode cX5_isImage 4 = .ok (.invokestatic 58, 3) := by decide +kernel
theorem dX5_isImage_7 : decode cX5_isImage 7 = .ok (.ireturn, 1) := by decide +kernel
theorem dX5_keep_0 : decode cX5_keep 0 = .ok (.iload_n 1, 1) := by decide +kernel
theorem dX5_keep_1 : decode cX5_keep 1 = .ok (.invokestatic 258, 3) := by decide +kernel
theorem dX5_keep_4 : decode cX5_keep 4 = .ok (.ifCond .ne 5, 3) := by decide +kernel
theorem dX5_keep_7 : decode cX5_keep 7 = .ok (.iconst (-1), 1) := by decide +kernel
theorem dX5_keep_8 : decode cX5_keep 8 = .ok (.ireturn, 1) := by decide +kernel
theorem dX5_keep_9 : decode cX5_keep 9 = .ok (.aload_n 0, 1) := by decide +kernel
theorem dX5_keep_10 : decode cX5_keep 10 = .ok (.iconst 0, 1) := by decide +kernel
theorem dX5_keep_11 : decode cX5_keep 11 = .ok (.iload_n 1, 1) := by decide +kernel
theorem dX5_keep_12 : decode cX5_keep 12 = .ok (.iconst 1, 1) := by decide +kernel
theorem dX5_keep_13 : decode cX5_keep 13 = .ok (.iadd, 1) := by decide +kernel
theorem dX5_keep_14 : decode cX5_keep 14 = .ok (.invokevirtual 261, 3) := by decide +kernel
theorem dX5_keep_17 : decode cX5_keep 17 = .ok (.aload_n 0, 1) := by decide +kernel
theorem dX5_keep_18 : decode cX5_keep 18 = .ok (.getfield 26, 3) := by decide +kernel
theorem dX5_keep_21 : decode cX5_keep 21 = .ok (.iload_n 1, 1) := by decide +kernel
theorem dX5_keep_22 : decode cX5_keep 22 = .ok (.iconst 1, 1) := by decide +kernel
theorem dX5_keep_23 : decode cX5_keep 23 = .ok (.bastore, 1) := by decide +kernel
theorem dX5_keep_24 : decode cX5_keep 24 = .ok (.aload_n 0, 1) := by decide +kernel
theorem dX5_keep_25 : decode cX5_keep 25 = .ok (.getfield 23, 3) := by decide +kernel
theorem dX5_keep_28 : decode cX5_keep 28 = .ok (.bipush 12, 2) := by decide +kernel
theorem dX5_keep_30 : decode cX5_keep 30 = .ok (.iaload, 1) := by decide +kernel
theorem dX5_keep_31 : decode cX5_keep 31 = .ok (.ireturn, 1) := by decide +kernel
theorem dX5_back_0 : decode cX5_back 0 = .ok (.iload_n 1, 1) := by decide +kernel
theorem dX5_back_1 : decode cX5_back 1 = .ok (.invokestatic 258, 3) := by decide +kernel
theorem dX5_back_4 : decode cX5_back 4 = .ok (.ifCond .ne 5, 3) := by decide +kernel
theorem dX5_back_7 : decode cX5_back 7 = .ok (.iconst (-1), 1) := by decide +kernel
theorem dX5_back_8 : decode cX5_back 8 = .ok (.ireturn, 1) := by decide +kernel
theorem dX5_back_9 : decode cX5_back 9 = .ok (.aload_n 0, 1) := by decide +kernel
theorem dX5_back_10 : decode cX5_back 10 = .ok (.getfield 26, 3) := by decide +kernel
theorem dX5_back_13 : decode cX5_back 13 = .ok (.iload_n 1, 1) := by decide +kernel
theorem dX5_back_14 : decode cX5_back 14 = .ok (.baload, 1) := by decide +kernel
theorem dX5_back_15 : decode cX5_back 15 = .ok (.ifCond .ne 6, 3) := by decide +kernel
theorem dX5_back_18 : decode cX5_back 18 = .ok (.bipush (-2), 2) := by decide +kernel
theorem dX5_back_20 : decode cX5_back 20 = .ok (.ireturn, 1) := by decide +kernel
theorem dX5_back_21 : decode cX5_back 21 = .ok (.aload_n 0, 1) := by decide +kernel
theorem dX5_back_22 : decode cX5_back 22 = .ok (.iload_n 1, 1) := by decide +kernel
theorem dX5_back_23 : decode cX5_back 23 = .ok (.iconst 1, 1) := by decide +kernel
theorem dX5_back_24 : decode cX5_back 24 = .ok (.iadd, 1) := by decide +kernel
theorem dX5_back_25 : decode cX5_back 25 = .ok (.iconst 0, 1) := by decide +kernel
theorem dX5_back_26 : decode cX5_back 26 = .ok (.invokevirtual 261, 3) := by decide +kernel
theorem dX5_back_29 : decode cX5_back 29 = .ok (.aload_n 0, 1) := by decide +kernel
theorem dX5_back_30 : decode cX5_back 30 = .ok (.getfield 23, 3) := by decide +kernel
theorem dX5_back_33 : decode cX5_back 33 = .ok (.bipush 12, 2) := by decide +kernel
theorem dX5_back_35 : decode cX5_back 35 = .ok (.iaload, 1) := by decide +kernel
theorem dX5_back_36 : decode cX5_back 36 = .ok (.ireturn, 1) := by decide +kernel
theorem dX5_copies_0 : decode cX5_copies 0 = .ok (.iconst 0, 1) := by decide +kernel
theorem dX5_copies_1 : decode cX5_copies 1 = .ok (.istore_n 3, 1) := by decide +kernel
theorem dX5_copies_2 : decode cX5_copies 2 = .ok (.iload_n 3, 1) := by decide +kernel
theorem dX5_copies_3 : decode cX5_copies 3 = .ok (.bipush 20, 2) := by decide +kernel
theorem dX5_copies_5 : decode cX5_copies 5 = .ok (.if_icmp .ge 31, 3) := by decide +kernel
theorem dX5_copies_8 : decode cX5_copies 8 = .ok (.aload_n 0, 1) := by decide +kernel
theorem dX5_copies_9 : decode cX5_copies 9 = .ok (.getfield 23, 3) := by decide +kernel
theorem dX5_copies_12 : decode cX5_copies 12 = .ok (.bipush 20, 2) := by decide +kernel
theorem dX5_copies_14 : decode cX5_copies 14 = .ok (.iload_n 2, 1) := by decide +kernel
theorem dX5_copies_15 : decode cX5_copies 15 = .ok (.imul, 1) := by decide +kernel
theorem dX5_copies_16 : decode cX5_copies 16 = .ok (.iload_n 3, 1) := by decide +kernel
theorem dX5_copies_17 : decode cX5_copies 17 = .ok (.iadd, 1) := by decide +kernel
theorem dX5_copies_18 : decode cX5_copies 18 = .ok (.aload_n 0, 1) := by decide +kernel
theorem dX5_copies_19 : decode cX5_copies 19 = .ok (.getfield 23, 3) := by decide +kernel
theorem dX5_copies_22 : decode cX5_copies 22 = .ok (.bipush 20, 2) := by decide +kernel
theorem dX5_copies_24 : decode cX5_copies 24 = .ok (.iload_n 1, 1) := by decide +kernel
theorem dX5_copies_25 : decode cX5_copies 25 = .ok (.imul, 1) := by decide +kernel
