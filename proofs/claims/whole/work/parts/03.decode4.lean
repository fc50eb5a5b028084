theorem dJ2_charAt_3b067_7 : decode cJ2_charAt_3b067 7 = .ok (.invokestatic 71, 3) := by decide +kernel
theorem dJ2_charAt_3b067_10 : decode cJ2_charAt_3b067 10 = .ok (.ireturn, 1) := by decide +kernel
theorem dJ2_checkIndex_2214a_0 : decode cJ2_checkIndex_2214a 0 = .ok (.iload_n 0, 1) := by decide +kernel
theorem dJ2_checkIndex_2214a_1 : decode cJ2_checkIndex_2214a 1 = .ok (.aload_n 1, 1) := by decide +kernel
theorem dJ2_checkIndex_2214a_2 : decode cJ2_checkIndex_2214a 2 = .ok (.invokestatic 48, 3) := by decide +kernel
theorem dJ2_checkIndex_2214a_5 : decode cJ2_checkIndex_2214a 5 = .ok (.invokestatic 414, 3) := by decide +kernel
theorem dJ2_checkIndex_2214a_8 : decode cJ2_checkIndex_2214a 8 = .ok (.return_, 1) := by decide +kernel
theorem dJ3_checkIndex_8e157_0 : decode cJ3_checkIndex_8e157 0 = .ok (.iload_n 0, 1) := by decide +kernel
theorem dJ3_checkIndex_8e157_1 : decode cJ3_checkIndex_8e157 1 = .ok (.ifCond .lt 8, 3) := by decide +kernel
theorem dJ3_checkIndex_8e157_4 : decode cJ3_checkIndex_8e157 4 = .ok (.iload_n 0, 1) := by decide +kernel
theorem dJ3_checkIndex_8e157_5 : decode cJ3_checkIndex_8e157 5 = .ok (.iload_n 1, 1) := by decide +kernel
theorem dJ3_checkIndex_8e157_6 : decode cJ3_checkIndex_8e157 6 = .ok (.if_icmp .lt 10, 3) := by decide +kernel
theorem dJ3_checkIndex_8e157_9 : decode cJ3_checkIndex_8e157 9 = .ok (.aload_n 2, 1) := by decide +kernel
theorem dJ3_checkIndex_8e157_10 : decode cJ3_checkIndex_8e157 10 = .ok (.iload_n 0, 1) := by decide +kernel
theorem dJ3_checkIndex_8e157_11 : decode cJ3_checkIndex_8e157 11 = .ok (.iload_n 1, 1) := by decide +kernel
theorem dJ3_checkIndex_8e157_12 : decode cJ3_checkIndex_8e157 12 = .ok (.invokestatic 95, 3) := by decide +kernel
theorem dJ3_checkIndex_8e157_15 : decode cJ3_checkIndex_8e157 15 = .ok (.athrow, 1) := by decide +kernel
theorem dJ3_checkIndex_8e157_16 : decode cJ3_checkIndex_8e157 16 = .ok (.iload_n 0, 1) := by decide +kernel
theorem dJ3_checkIndex_8e157_17 : decode cJ3_checkIndex_8e157 17 = .ok (.ireturn, 1) := by decide +kernel
theorem dX5_init_0 : decode cX5_init 0 = .ok (.aload_n 0, 1) := by decide +kernel
theorem dX5_init_1 : decode cX5_init 1 = .ok (.invokespecial 1, 3) := by decide +kernel
theorem dX5_init_4 : decode cX5_init 4 = .ok (.aload_n 0, 1) := by decide +kernel
theorem dX5_init_5 : decode cX5_init 5 = .ok (.sipush 300, 3) := by decide +kernel
theorem dX5_init_8 : decode cX5_init 8 = .ok (.newarray .byte, 2) := by decide +kernel
theorem dX5_init_10 : decode cX5_init 10 = .ok (.putfield 7, 3) := by decide +kernel
theorem dX5_init_13 : decode cX5_init 13 = .ok (.aload_n 0, 1) := by decide +kernel
theorem dX5_init_14 : decode cX5_init 14 = .ok (.bipush 18, 2) := by decide +kernel
theorem dX5_init_16 : decode cX5_init 16 = .ok (.newarray .int, 2) := by decide +kernel
theorem dX5_init_18 : decode cX5_init 18 = .ok (.dup, 1) := by decide +kernel
theorem dX5_init_19 : decode cX5_init 19 = .ok (.iconst 0, 1) := by decide +kernel
theorem dX5_init_20 : decode cX5_init 20 = .ok (.iconst 3, 1) := by decide +kernel
theorem dX5_init_21 : decode cX5_init 21 = .ok (.iastore, 1) := by decide +kernel
theorem dX5_init_22 : decode cX5_init 22 = .ok (.dup, 1) := by decide +kernel
theorem dX5_init_23 : decode cX5_init 23 = .ok (.iconst 1, 1) := by decide +kernel
theorem dX5_init_24 : decode cX5_init 24 = .ok (.sipush 200, 3) := by decide +kernel
theorem dX5_init_27 : decode cX5_init 27 = .ok (.iastore, 1) := by decide +kernel
theorem dX5_init_28 : decode cX5_init 28 = .ok (.dup, 1) := by decide +kernel
theorem dX5_init_29 : decode cX5_init 29 = .ok (.iconst 2, 1) := by decide +kernel
theorem dX5_init_30 : decode cX5_init 30 = .ok (.bipush 10, 2) := by decide +kernel
theorem dX5_init_32 : decode cX5_init 32 = .ok (.iastore, 1) := by decide +kernel
theorem dX5_init_33 : decode cX5_init 33 = .ok (.dup, 1) := by decide +kernel
theorem dX5_init_34 : decode cX5_init 34 = .ok (.iconst 3, 1) := by decide +kernel
theorem dX5_init_35 : decode cX5_init 35 = .ok (.sipush 300, 3) := by decide +kernel
theorem dX5_init_38 : decode cX5_init 38 = .ok (.iastore, 1) := by decide +kernel
theorem dX5_init_39 : decode cX5_init 39 = .ok (.dup, 1) := by decide +kernel
theorem dX5_init_40 : decode cX5_init 40 = .ok (.iconst 4, 1) := by decide +kernel
theorem dX5_init_41 : decode cX5_init 41 = .ok (.sipush 300, 3) := by decide +kernel
theorem dX5_init_44 : decode cX5_init 44 = .ok (.iastore, 1) := by decide +kernel
theorem dX5_init_45 : decode cX5_init 45 = .ok (.dup, 1) := by decide +kernel
theorem dX5_init_46 : decode cX5_init 46 = .ok (.iconst 5, 1) := by decide +kernel
theorem dX5_init_47 : decode cX5_init 47 = .ok (.bipush 40, 2) := by decide +kernel
theorem dX5_init_49 : decode cX5_init 49 = .ok (.iastore, 1) := by decide +kernel
theorem dX5_init_50 : decode cX5_init 50 = .ok (.dup, 1) := by decide +kernel
theorem dX5_init_51 : decode cX5_init 51 = .ok (.bipush 6, 2) := by decide +kernel
theorem dX5_init_53 : decode cX5_init 53 = .ok (.iconst 2, 1) := by decide +kernel
theorem dX5_init_54 : decode cX5_init 54 = .ok (.iastore, 1) := by decide +kernel
theorem dX5_init_55 : decode cX5_init 55 = .ok (.dup, 1) := by decide +kernel
theorem dX5_init_56 : decode cX5_init 56 = .ok (.bipush 7, 2) := by decide +kernel
theorem dX5_init_58 : decode cX5_init 58 = .ok (.iconst 4, 1) := by decide +kernel
theorem dX5_init_59 : decode cX5_init 59 = .ok (.iastore, 1) := by decide +kernel
theorem dX5_init_60 : decode cX5_init 60 = .ok (.dup, 1) := by decide +kernel
theorem dX5_init_61 : decode cX5_init 61 = .ok (.bipush 8, 2) := by decide +kernel
theorem dX5_init_63 : decode cX5_init 63 = .ok (.iconst 0, 1) := by decide +kernel
theorem dX5_init_64 : decode cX5_init 64 = .ok (.iastore, 1) := by decide +kernel
theorem dX5_init_65 : decode cX5_init 65 = .ok (.dup, 1) := by decide +kernel
theorem dX5_init_66 : decode cX5_init 66 = .ok (.bipush 9, 2) := by decide +kernel
theorem dX5_init_68 : decode cX5_init 68 = .ok (.iconst 0, 1) := by decide +kernel
theorem dX5_init_69 : decode cX5_init 69 = .ok (.iastore, 1) := by decide +kernel
theorem dX5_init_70 : decode cX5_init 70 = .ok (.dup, 1) := by decide +kernel
theorem dX5_init_71 : decode cX5_init 71 = .ok (.bipush 10, 2) := by decide +kernel
theorem dX5_init_73 : decode cX5_init 73 = .ok (.iconst 0, 1) := by decide +kernel
theorem dX5_init_74 : decode cX5_init 74 = .ok (.iastore, 1) := by decide +kernel
theorem dX5_init_75 : decode cX5_init 75 = .ok (.dup, 1) := by decide +kernel
theorem dX5_init_76 : decode cX5_init 76 = .ok (.bipush 11, 2) := by decide +kernel
theorem dX5_init_78 : decode cX5_init 78 = .ok (.iconst 0, 1) := by decide +kernel
theorem dX5_init_79 : decode cX5_init 79 = .ok (.iastore, 1) := by decide +kernel
theorem dX5_init_80 : decode cX5_init 80 = .ok (.dup, 1) := by decide +kernel
theorem dX5_init_81 : decode cX5_init 81 = .ok (.bipush 12, 2) := by decide +kernel
theorem dX5_init_83 : decode cX5_init 83 = .ok (.iconst 0, 1) := by decide +kernel
theorem dX5_init_84 : decode cX5_init 84 = .ok (.iastore, 1) := by decide +kernel
theorem dX5_init_85 : decode cX5_init 85 = .ok (.dup, 1) := by decide +kernel
theorem dX5_init_86 : decode cX5_init 86 = .ok (.bipush 13, 2) := by decide +kernel
theorem dX5_init_88 : decode cX5_init 88 = .ok (.iconst 0, 1) := by decide +kernel
theorem dX5_init_89 : decode cX5_init 89 = .ok (.iastore, 1) := by decide +kernel
theorem dX5_init_90 : decode cX5_init 90 = .ok (.dup, 1) := by decide +kernel
theorem dX5_init_91 : decode cX5_init 91 = .ok (.bipush 14, 2) := by decide +kernel
theorem dX5_init_93 : decode cX5_init 93 = .ok (.iconst 0, 1) := by decide +kernel
theorem dX5_init_94 : decode cX5_init 94 = .ok (.iastore, 1) := by decide +kernel
theorem dX5_init_95 : decode cX5_init 95 = .ok (.dup, 1) := by decide +kernel
theorem dX5_init_96 : decode cX5_init 96 = .ok (.bipush 15, 2) := by decide +kernel
theorem dX5_init_98 : decode cX5_init 98 = .ok (.iconst 0, 1) := by decide +kernel
theorem dX5_init_99 : decode cX5_init 99 = .ok (.iastore, 1) := by decide +kernel
theorem dX5_init_100 : decode cX5_init 100 = .ok (.dup, 1) := by decide +kernel
theorem dX5_init_101 : decode cX5_init 101 = .ok (.bipush 16, 2) := by decide +kernel
theorem dX5_init_103 : decode cX5_init 103 = .ok (.iconst 0, 1) := by decide +kernel
theorem dX5_init_104 : decode cX5_init 104 = .ok (.iastore, 1) := by decide +kernel
theorem dX5_init_105 : decode cX5_init 105 = .ok (.dup, 1) := by decide +kernel
theorem dX5_init_106 : decode cX5_init 106 = .ok (.bipush 17, 2) := by decide +kernel
theorem dX5_init_108 : decode cX5_init 108 = .ok (.iconst 0, 1) := by decide +kernel
theorem dX5_init_109 : decode cX5_init 109 = .ok (.iastore, 1) := by decide +kernel
theorem dX5_init_110 : decode cX5_init 110 = .ok (.putfield 13, 3) := by decide +kernel
theorem dX5_init_113 : decode cX5_init 113 = .ok (.aload_n 0, 1) := by decide +kernel
theorem dX5_init_114 : decode cX5_init 114 = .ok (.iconst 2, 1) := by decide +kernel
theorem dX5_init_115 : decode cX5_init 115 = .ok (.newarray .int, 2) := by decide +kernel
theorem dX5_init_117 : decode cX5_init 117 = .ok (.putfield 17, 3) := by decide +kernel
theorem dX5_init_120 : decode cX5_init 120 = .ok (.aload_n 0, 1) := by decide +kernel
theorem dX5_init_121 : decode cX5_init 121 = .ok (.bipush 72, 2) := by decide +kernel
theorem dX5_init_123 : decode cX5_init 123 = .ok (.newarray .int, 2) := by decide +kernel
theorem dX5_init_125 : decode cX5_init 125 = .ok (.putfield 20, 3) := by decide +kernel
theorem dX5_init_128 : decode cX5_init 128 = .ok (.aload_n 0, 1) := by decide +kernel
theorem dX5_init_129 : decode cX5_init 129 = .ok (.bipush 80, 2) := by decide +kernel
theorem dX5_init_131 : decode cX5_init 131 = .ok (.newarray .int, 2) := by decide +kernel
theorem dX5_init_133 : decode cX5_init 133 = .ok (.putfield 23, 3) := by decide +kernel
theorem dX5_init_136 : decode cX5_init 136 = .ok (.aload_n 0, 1) := by decide +kernel
theorem dX5_init_137 : decode cX5_init 137 = .ok (.iconst 2, 1) := by decide +kernel
theorem dX5_init_138 : decode cX5_init 138 = .ok (.newarray .boolean, 2) := by decide +kernel
theorem dX5_init_140 : decode cX5_init 140 = .ok (.putfield 26, 3) := by decide +kernel
theorem dX5_init_143 : decode cX5_init 143 = .ok (.aload_n 0, 1) := by decide +kernel
theorem dX5_init_144 : decode cX5_init 144 = .ok (.bipush (-9), 2) := by decide +kernel
theorem dX5_init_146 : decode cX5_init 146 = .ok (.putfield 30, 3) := by decide +kernel
theorem dX5_init_149 : decode cX5_init 149 = .ok (.aload_n 0, 1) := by decide +kernel
theorem dX5_init_150 : decode cX5_init 150 = .ok (.iconst 3, 1) := by decide +kernel
theorem dX5_init_151 : decode cX5_init 151 = .ok (.newarray .int, 2) := by decide +kernel
theorem dX5_init_153 : decode cX5_init 153 = .ok (.putfield 34, 3) := by decide +kernel
theorem dX5_init_156 : decode cX5_init 156 = .ok (.aload_n 0, 1) := by decide +kernel
theorem dX5_init_157 : decode cX5_init 157 = .ok (.iconst 4, 1) := by decide +kernel
theorem dX5_init_158 : decode cX5_init 158 = .ok (.newarray .int, 2) := by decide +kernel
theorem dX5_init_160 : decode cX5_init 160 = .ok (.dup, 1) := by decide +kernel
theorem dX5_init_161 : decode cX5_init 161 = .ok (.iconst 0, 1) := by decide +kernel
theorem dX5_init_162 : decode cX5_init 162 = .ok (.bipush 40, 2) := by decide +kernel
theorem dX5_init_164 : decode cX5_init 164 = .ok (.iastore, 1) := by decide +kernel
theorem dX5_init_165 : decode cX5_init 165 = .ok (.dup, 1) := by decide +kernel
theorem dX5_init_166 : decode cX5_init 166 = .ok (.iconst 1, 1) := by decide +kernel
theorem dX5_init_167 : decode cX5_init 167 = .ok (.bipush 90, 2) := by decide +kernel
theorem dX5_init_169 : decode cX5_init 169 = .ok (.iastore, 1) := by decide +kernel
theorem dX5_init_170 : decode cX5_init 170 = .ok (.dup, 1) := by decide +kernel
theorem dX5_init_171 : decode cX5_init 171 = .ok (.iconst 2, 1) := by decide +kernel
theorem dX5_init_172 : decode cX5_init 172 = .ok (.bipush 90, 2) := by decide +kernel
theorem dX5_init_174 : decode cX5_init 174 = .ok (.iastore, 1) := by decide +kernel
theorem dX5_init_175 : decode cX5_init 175 = .ok (.dup, 1) := by decide +kernel
theorem dX5_init_176 : decode cX5_init 176 = .ok (.iconst 3, 1) := by decide +kernel
theorem dX5_init_177 : decode cX5_init 177 = .ok (.bipush 40, 2) := by decide +kernel
theorem dX5_init_179 : decode cX5_init 179 = .ok (.iastore, 1) := by decide +kernel
theorem dX5_init_180 : decode cX5_init 180 = .ok (.putfield 37, 3) := by decide +kernel
theorem dX5_init_183 : decode cX5_init 183 = .ok (.aload_n 0, 1) := by decide +kernel
theorem dX5_init_184 : decode cX5_init 184 = .ok (.bipush 96, 2) := by decide +kernel
theorem dX5_init_186 : decode cX5_init 186 = .ok (.newarray .int, 2) := by decide +kernel
theorem dX5_init_188 : decode cX5_init 188 = .ok (.putfield 40, 3) := by decide +kernel
theorem dX5_init_191 : decode cX5_init 191 = .ok (.aload_n 0, 1) := by decide +kernel
theorem dX5_init_192 : decode cX5_init 192 = .ok (.iconst 4, 1) := by decide +kernel
theorem dX5_init_193 : decode cX5_init 193 = .ok (.newarray .int, 2) := by decide +kernel
theorem dX5_init_195 : decode cX5_init 195 = .ok (.putfield 43, 3) := by decide +kernel
theorem dX5_init_198 : decode cX5_init 198 = .ok (.aload_n 0, 1) := by decide +kernel
theorem dX5_init_199 : decode cX5_init 199 = .ok (.bipush 20, 2) := by decide +kernel
theorem dX5_init_201 : decode cX5_init 201 = .ok (.newarray .int, 2) := by decide +kernel
theorem dX5_init_203 : decode cX5_init 203 = .ok (.putfield 46, 3) := by decide +kernel
theorem dX5_init_206 : decode cX5_init 206 = .ok (.aload_n 0, 1) := by decide +kernel
theorem dX5_init_207 : decode cX5_init 207 = .ok (.bipush 20, 2) := by decide +kernel
theorem dX5_init_209 : decode cX5_init 209 = .ok (.newarray .int, 2) := by decide +kernel
theorem dX5_init_211 : decode cX5_init 211 = .ok (.putfield 49, 3) := by decide +kernel
theorem dX5_init_214 : decode cX5_init 214 = .ok (.aload_n 0, 1) := by decide +kernel
theorem dX5_init_215 : decode cX5_init 215 = .ok (.iconst 0, 1) := by decide +kernel
theorem dX5_init_216 : decode cX5_init 216 = .ok (.invokevirtual 52, 3) := by decide +kernel
theorem dX5_init_219 : decode cX5_init 219 = .ok (.iconst 0, 1) := by decide +kernel
theorem dX5_init_220 : decode cX5_init 220 = .ok (.istore_n 1, 1) := by decide +kernel
theorem dX5_init_221 : decode cX5_init 221 = .ok (.iconst 0, 1) := by decide +kernel
theorem dX5_init_222 : decode cX5_init 222 = .ok (.istore_n 2, 1) := by decide +kernel
theorem dX5_init_223 : decode cX5_init 223 = .ok (.iload_n 2, 1) := by decide +kernel
theorem dX5_init_224 : decode cX5_init 224 = .ok (.sipush 256, 3) := by decide +kernel
theorem dX5_init_227 : decode cX5_init 227 = .ok (.if_icmp .ge 121, 3) := by decide +kernel
theorem dX5_init_230 : decode cX5_init 230 = .ok (.iload_n 2, 1) := by decide +kernel
theorem dX5_init_231 : decode cX5_init 231 = .ok (.bipush 64, 2) := by decide +kernel
theorem dX5_init_233 : decode cX5_init 233 = .ok (.idiv, 1) := by decide +kernel
theorem dX5_init_234 : decode cX5_init 234 = .ok (.istore_n 3, 1) := by decide +kernel
theorem dX5_init_235 : decode cX5_init 235 = .ok (.iload_n 2, 1) := by decide +kernel
theorem dX5_init_236 : decode cX5_init 236 = .ok (.bipush 16, 2) := by decide +kernel
theorem dX5_init_238 : decode cX5_init 238 = .ok (.idiv, 1) := by decide +kernel
theorem dX5_init_239 : decode cX5_init 239 = .ok (.iconst 4, 1) := by decide +kernel
theorem dX5_init_240 : decode cX5_init 240 = .ok (.irem, 1) := by decide +kernel
theorem dX5_init_241 : decode cX5_init 241 = .ok (.istore 4, 2) := by decide +kernel
theorem dX5_init_243 : decode cX5_init 243 = .ok (.iload_n 2, 1) := by decide +kernel
theorem dX5_init_244 : decode cX5_init 244 = .ok (.iconst 4, 1) := by decide +kernel
theorem dX5_init_245 : decode cX5_init 245 = .ok (.idiv, 1) := by decide +kernel
theorem dX5_init_246 : decode cX5_init 246 = .ok (.iconst 4, 1) := by decide +kernel
theorem dX5_init_247 : decode cX5_init 247 = .ok (.irem, 1) := by decide +kernel
theorem dX5_init_248 : decode cX5_init 248 = .ok (.istore 5, 2) := by decide +kernel
theorem dX5_init_250 : decode cX5_init 250 = .ok (.iload_n 2, 1) := by decide +kernel
theorem dX5_init_251 : decode cX5_init 251 = .ok (.iconst 4, 1) := by decide +kernel
theorem dX5_init_252 : decode cX5_init 252 = .ok (.irem, 1) := by decide +kernel
theorem dX5_init_253 : decode cX5_init 253 = .ok (.istore 6, 2) := by decide +kernel
theorem dX5_init_255 : decode cX5_init 255 = .ok (.iload_n 3, 1) := by decide +kernel
theorem dX5_init_256 : decode cX5_init 256 = .ok (.iload 4, 2) := by decide +kernel
theorem dX5_init_258 : decode cX5_init 258 = .ok (.if_icmp .eq 84, 3) := by decide +kernel
theorem dX5_init_261 : decode cX5_init 261 = .ok (.iload_n 3, 1) := by decide +kernel
theorem dX5_init_262 : decode cX5_init 262 = .ok (.iload 5, 2) := by decide +kernel
theorem dX5_init_264 : decode cX5_init 264 = .ok (.if_icmp .eq 78, 3) := by decide +kernel
theorem dX5_init_267 : decode cX5_init 267 = .ok (.iload_n 3, 1) := by decide +kernel
theorem dX5_init_268 : decode cX5_init 268 = .ok (.iload 6, 2) := by decide +kernel
theorem dX5_init_270 : decode cX5_init 270 = .ok (.if_icmp .eq 72, 3) := by decide +kernel
theorem dX5_init_273 : decode cX5_init 273 = .ok (.iload 4, 2) := by decide +kernel
theorem dX5_init_275 : decode cX5_init 275 = .ok (.iload 5, 2) := by decide +kernel
theorem dX5_init_277 : decode cX5_init 277 = .ok (.if_icmp .eq 65, 3) := by decide +kernel
theorem dX5_init_280 : decode cX5_init 280 = .ok (.iload 4, 2) := by decide +kernel
theorem dX5_init_282 : decode cX5_init 282 = .ok (.iload 6, 2) := by decide +kernel
theorem dX5_init_284 : decode cX5_init 284 = .ok (.if_icmp .eq 58, 3) := by decide +kernel
theorem dX5_init_287 : decode cX5_init 287 = .ok (.iload 5, 2) := by decide +kernel
theorem dX5_init_289 : decode cX5_init 289 = .ok (.iload 6, 2) := by decide +kernel
theorem dX5_init_291 : decode cX5_init 291 = .ok (.if_icmp .eq 51, 3) := by decide +kernel
theorem dX5_init_294 : decode cX5_init 294 = .ok (.aload_n 0, 1) := by decide +kernel
theorem dX5_init_295 : decode cX5_init 295 = .ok (.getfield 40, 3) := by decide +kernel
theorem dX5_init_298 : decode cX5_init 298 = .ok (.iconst 4, 1) := by decide +kernel
theorem dX5_init_299 : decode cX5_init 299 = .ok (.iload_n 1, 1) := by decide +kernel
theorem dX5_init_300 : decode cX5_init 300 = .ok (.imul, 1) := by decide +kernel
theorem dX5_init_301 : decode cX5_init 301 = .ok (.iload_n 3, 1) := by decide +kernel
theorem dX5_init_302 : decode cX5_init 302 = .ok (.iastore, 1) := by decide +kernel
theorem dX5_init_303 : decode cX5_init 303 = .ok (.aload_n 0, 1) := by decide +kernel
theorem dX5_init_304 : decode cX5_init 304 = .ok (.getfield 40, 3) := by decide +kernel
theorem dX5_init_307 : decode cX5_init 307 = .ok (.iconst 4, 1) := by decide +kernel
theorem dX5_init_308 : decode cX5_init 308 = .ok (.iload_n 1, 1) := by decide +kernel
theorem dX5_init_309 : decode cX5_init 309 = .ok (.imul, 1) := by decide +kernel
theorem dX5_init_310 : decode cX5_init 310 = .ok (.iconst 1, 1) := by decide +kernel
theorem dX5_init_311 : decode cX5_init 311 = .ok (.iadd, 1) := by decide +kernel
theorem dX5_init_312 : decode cX5_init 312 = .ok (.iload 4, 2) := by decide +kernel
theorem dX5_init_314 : decode cX5_init 314 = .ok (.iastore, 1) := by decide +kernel
theorem dX5_init_315 : decode cX5_init 315 = .ok (.aload_n 0, 1) := by decide +kernel
theorem dX5_init_316 : decode cX5_init 316 = .ok (.getfield 40, 3) := by decide +kernel
theorem dX5_init_319 : decode cX5_init 319 = .ok (.iconst 4, 1) := by decide +kernel
theorem dX5_init_320 : decode cX5_init 320 = .ok (.iload_n 1, 1) := by decide +kernel
theorem dX5_init_321 : decode cX5_init 321 = .ok (.imul, 1) := by decide +kernel
theorem dX5_init_322 : decode cX5_init 322 = .ok (.iconst 2, 1) := by decide +kernel
theorem dX5_init_323 : decode cX5_init 323 = .ok (.iadd, 1) := by decide +kernel
theorem dX5_init_324 : decode cX5_init 324 = .ok (.iload 5, 2) := by decide +kernel
theorem dX5_init_326 : decode cX5_init 326 = .ok (.iastore, 1) := by decide +kernel
theorem dX5_init_327 : decode cX5_init 327 = .ok (.aload_n 0, 1) := by decide +kernel
theorem dX5_init_328 : decode cX5_init 328 = .ok (.getfield 40, 3) := by decide +kernel
theorem dX5_init_331 : decode cX5_init 331 = .ok (.iconst 4, 1) := by decide +kernel
theorem dX5_init_332 : decode cX5_init 332 = .ok (.iload_n 1, 1) := by decide +kernel
theorem dX5_init_333 : decode cX5_init 333 = .ok (.imul, 1) := by decide +kernel
theorem dX5_init_334 : decode cX5_init 334 = .ok (.iconst 3, 1) := by decide +kernel
theorem dX5_init_335 : decode cX5_init 335 = .ok (.iadd, 1) := by decide +kernel
theorem dX5_init_336 : decode cX5_init 336 = .ok (.iload 6, 2) := by decide +kernel
theorem dX5_init_338 : decode cX5_init 338 = .ok (.iastore, 1) := by decide +kernel
theorem dX5_init_339 : decode cX5_init 339 = .ok (.iinc 1 1, 3) := by decide +kernel
theorem dX5_init_342 : decode cX5_init 342 = .ok (.iinc 2 1, 3) := by decide +kernel
theorem dX5_init_345 : decode cX5_init 345 = .ok (.goto (-122), 3) := by decide +kernel
theorem dX5_init_348 : decode cX5_init 348 = .ok (.return_, 1) := by decide +kernel
theorem dX5_in_0 : decode cX5_in 0 = .ok (.lload_n 0, 1) := by decide +kernel
theorem dX5_in_1 : decode cX5_in 1 = .ok (.lload_n 2, 1) := by decide +kernel
theorem dX5_in_2 : decode cX5_in 2 = .ok (.lcmp, 1) := by decide +kernel
theorem dX5_in_3 : decode cX5_in 3 = .ok (.ifCond .lt 14, 3) := by decide +kernel
theorem dX5_in_6 : decode cX5_in 6 = .ok (.lload_n 0, 1) := by decide +kernel
theorem dX5_in_7 : decode cX5_in 7 = .ok (.lload 4, 2) := by decide +kernel
theorem dX5_in_9 : decode cX5_in 9 = .ok (.lcmp, 1) := by decide +kernel
theorem dX5_in_10 : decode cX5_in 10 = .ok (.ifCond .gt 7, 3) := by decide +kernel
theorem dX5_in_13 : decode cX5_in 13 = .ok (.iconst 1, 1) := by decide +kernel
theorem dX5_in_14 : decode cX5_in 14 = .ok (.goto 4, 3) := by decide +kernel
theorem dX5_in_17 : decode cX5_in 17 = .ok (.iconst 0, 1) := by decide +kernel
theorem dX5_in_18 : decode cX5_in 18 = .ok (.ireturn, 1) := by decide +kernel
theorem dX5_type_0 : decode cX5_type 0 = .ok (.iload_n 3, 1) := by decide +kernel
theorem dX5_type_1 : decode cX5_type 1 = .ok (.i2l, 1) := by decide +kernel
theorem dX5_type_2 : decode cX5_type 2 = .ok (.lconst 1, 1) := by decide +kernel
theorem dX5_type_3 : decode cX5_type 3 = .ok (.ldc2_w 56, 3) := by decide +kernel
theorem dX5_type_6 : decode cX5_type 6 = .ok (.invokestatic 58, 3) := by decide +kernel
theorem dX5_type_9 : decode cX5_type 9 = .ok (.ifCond .ne 5, 3) := by decide +kernel
theorem dX5_type_12 : decode cX5_type 12 = .ok (.iconst (-1), 1) := by decide +kernel
theorem dX5_type_13 : decode cX5_type 13 = .ok (.ireturn, 1) := by decide +kernel
theorem dX5_type_14 : decode cX5_type 14 = .ok (.aload_n 0, 1) := by decide +kernel
theorem dX5_type_15 : decode cX5_type 15 = .ok (.getfield 62, 3) := by decide +kernel
theorem dX5_type_18 : decode cX5_type 18 = .ok (.iload_n 3, 1) := by decide +kernel
theorem dX5_type_19 : decode cX5_type 19 = .ok (.iadd, 1) := by decide +kernel
theorem dX5_type_20 : decode cX5_type 20 = .ok (.sipush 300, 3) := by decide +kernel
theorem dX5_type_23 : decode cX5_type 23 = .ok (.if_icmp .le 6, 3) := by decide +kernel
theorem dX5_type_26 : decode cX5_type 26 = .ok (.bipush (-3), 2) := by decide +kernel
theorem dX5_type_28 : decode cX5_type 28 = .ok (.ireturn, 1) := by decide +kernel
theorem dX5_type_29 : decode cX5_type 29 = .ok (.iload_n 3, 1) := by decide +kernel
theorem dX5_type_30 : decode cX5_type 30 = .ok (.iconst 1, 1) := by decide +kernel
theorem dX5_type_31 : decode cX5_type 31 = .ok (.isub, 1) := by decide +kernel
theorem dX5_type_32 : decode cX5_type 32 = .ok (.istore 4, 2) := by decide +kernel
theorem dX5_type_34 : decode cX5_type 34 = .ok (.iload 4, 2) := by decide +kernel
theorem dX5_type_36 : decode cX5_type 36 = .ok (.ifCond .lt 37, 3) := by decide +kernel
theorem dX5_type_39 : decode cX5_type 39 = .ok (.aload_n 0, 1) := by decide +kernel
theorem dX5_type_40 : decode cX5_type 40 = .ok (.getfield 7, 3) := by decide +kernel
theorem dX5_type_43 : decode cX5_type 43 = .ok (.aload_n 0, 1) := by decide +kernel
theorem dX5_type_44 : decode cX5_type 44 = .ok (.getfield 62, 3) := by decide +kernel
theorem dX5_type_47 : decode cX5_type 47 = .ok (.lload_n 1, 1) := by decide +kernel
theorem dX5_type_48 : decode cX5_type 48 = .ok (.bipush 8, 2) := by decide +kernel
theorem dX5_type_50 : decode cX5_type 50 = .ok (.iload 4, 2) := by decide +kernel
theorem dX5_type_52 : decode cX5_type 52 = .ok (.imul, 1) := by decide +kernel
theorem dX5_type_53 : decode cX5_type 53 = .ok (.lshr, 1) := by decide +kernel
theorem dX5_type_54 : decode cX5_type 54 = .ok (.l2i, 1) := by decide +kernel
theorem dX5_type_55 : decode cX5_type 55 = .ok (.i2b, 1) := by decide +kernel
theorem dX5_type_56 : decode cX5_type 56 = .ok (.bastore, 1) := by decide +kernel
theorem dX5_type_57 : decode cX5_type 57 = .ok (.aload_n 0, 1) := by decide +kernel
theorem dX5_type_58 : decode cX5_type 58 = .ok (.dup, 1) := by decide +kernel
theorem dX5_type_59 : decode cX5_type 59 = .ok (.getfield 62, 3) := by decide +kernel
theorem dX5_type_62 : decode cX5_type 62 = .ok (.iconst 1, 1) := by decide +kernel
theorem dX5_type_63 : decode cX5_type 63 = .ok (.iadd, 1) := by decide +kernel
theorem dX5_type_64 : decode cX5_type 64 = .ok (.putfield 62, 3) := by decide +kernel
theorem dX5_type_67 : decode cX5_type 67 = .ok (.iinc 4 (-1), 3) := by decide +kernel
theorem dX5_type_70 : decode cX5_type 70 = .ok (.goto (-36), 3) := by decide +kernel
theorem dX5_type_73 : decode cX5_type 73 = .ok (.aload_n 0, 1) := by decide +kernel
theorem dX5_type_74 : decode cX5_type 74 = .ok (.getfield 62, 3) := by decide +kernel
theorem dX5_type_77 : decode cX5_type 77 = .ok (.ireturn, 1) := by decide +kernel
theorem dX5_clear_0 : decode cX5_clear 0 = .ok (.aload_n 0, 1) := by decide +kernel
theorem dX5_clear_1 : decode cX5_clear 1 = .ok (.getfield 62, 3) := by decide +kernel
theorem dX5_clear_4 : decode cX5_clear 4 = .ok (.istore_n 1, 1) := by decide +kernel
theorem dX5_clear_5 : decode cX5_clear 5 = .ok (.aload_n 0, 1) := by decide +kernel
theorem dX5_clear_6 : decode cX5_clear 6 = .ok (.iconst 0, 1) := by decide +kernel
theorem dX5_clear_7 : decode cX5_clear 7 = .ok (.putfield 62, 3) := by decide +kernel
theorem dX5_clear_10 : decode cX5_clear 10 = .ok (.iload_n 1, 1) := by decide +kernel
theorem dX5_clear_11 : decode cX5_clear 11 = .ok (.ireturn, 1) := by decide +kernel
theorem dX5_blanks_0 : decode cX5_blanks 0 = .ok (.aload_n 0, 1) := by decide +kernel
theorem dX5_blanks_1 : decode cX5_blanks 1 = .ok (.getfield 65, 3) := by decide +kernel
theorem dX5_blanks_4 : decode cX5_blanks 4 = .ok (.aload_n 0, 1) := by decide +kernel
theorem dX5_blanks_5 : decode cX5_blanks 5 = .ok (.getfield 62, 3) := by decide +kernel
theorem dX5_blanks_8 : decode cX5_blanks 8 = .ok (.if_icmp .ge 30, 3) := by decide +kernel
theorem dX5_blanks_11 : decode cX5_blanks 11 = .ok (.aload_n 0, 1) := by decide +kernel
theorem dX5_blanks_12 : decode cX5_blanks 12 = .ok (.getfield 7, 3) := by decide +kernel
theorem dX5_blanks_15 : decode cX5_blanks 15 = .ok (.aload_n 0, 1) := by decide +kernel
theorem dX5_blanks_16 : decode cX5_blanks 16 = .ok (.getfield 65, 3) := by decide +kernel
theorem dX5_blanks_19 : decode cX5_blanks 19 = .ok (.baload, 1) := by decide +kernel
theorem dX5_blanks_20 : decode cX5_blanks 20 = .ok (.bipush 32, 2) := by decide +kernel
theorem dX5_blanks_22 : decode cX5_blanks 22 = .ok (.if_icmp .ne 16, 3) := by decide +kernel
theorem dX5_blanks_25 : decode cX5_blanks 25 = .ok (.aload_n 0, 1) := by decide +kernel
theorem dX5_blanks_26 : decode cX5_blanks 26 = .ok (.dup, 1) := by decide +kernel
theorem dX5_blanks_27 : decode cX5_blanks 27 = .ok (.getfield 65, 3) := by decide +kernel
theorem dX5_blanks_30 : decode cX5_blanks 30 = .ok (.iconst 1, 1) := by decide +kernel
theorem dX5_blanks_31 : decode cX5_blanks 31 = .ok (.iadd, 1) := by decide +kernel
theorem dX5_blanks_32 : decode cX5_blanks 32 = .ok (.putfield 65, 3) := by decide +kernel
theorem dX5_blanks_35 : decode cX5_blanks 35 = .ok (.goto (-35), 3) := by decide +kernel
theorem dX5_blanks_38 : decode cX5_blanks 38 = .ok (.aload_n 0, 1) := by decide +kernel
theorem dX5_blanks_39 : decode cX5_blanks 39 = .ok (.aload_n 0, 1) := by decide +kernel
theorem dX5_blanks_40 : decode cX5_blanks 40 = .ok (.getfield 65, 3) := by decide +kernel
theorem dX5_blanks_43 : decode cX5_blanks 43 = .ok (.putfield 68, 3) := by decide +kernel
theorem dX5_blanks_46 : decode cX5_blanks 46 = .ok (.return_, 1) := by decide +kernel
theorem dX5_number_0 : decode cX5_number 0 = .ok (.aload_n 0, 1) := by decide +kernel
theorem dX5_number_1 : decode cX5_number 1 = .ok (.invokevirtual 71, 3) := by decide +kernel
theorem dX5_number_4 : decode cX5_number 4 = .ok (.aload_n 0, 1) := by decide +kernel
theorem dX5_number_5 : decode cX5_number 5 = .ok (.iconst 0, 1) := by decide +kernel
theorem dX5_number_6 : decode cX5_number 6 = .ok (.putfield 74, 3) := by decide +kernel
theorem dX5_number_9 : decode cX5_number 9 = .ok (.aload_n 0, 1) := by decide +kernel
theorem dX5_number_10 : decode cX5_number 10 = .ok (.getfield 65, 3) := by decide +kernel
theorem dX5_number_13 : decode cX5_number 13 = .ok (.aload_n 0, 1) := by decide +kernel
theorem dX5_number_14 : decode cX5_number 14 = .ok (.getfield 62, 3) := by decide +kernel
theorem dX5_number_17 : decode cX5_number 17 = .ok (.if_icmp .ge 81, 3) := by decide +kernel
theorem dX5_number_20 : decode cX5_number 20 = .ok (.aload_n 0, 1) := by decide +kernel
theorem dX5_number_21 : decode cX5_number 21 = .ok (.getfield 7, 3) := by decide +kernel
theorem dX5_number_24 : decode cX5_number 24 = .ok (.aload_n 0, 1) := by decide +kernel
theorem dX5_number_25 : decode cX5_number 25 = .ok (.getfield 65, 3) := by decide +kernel
theorem dX5_number_28 : decode cX5_number 28 = .ok (.baload, 1) := by decide +kernel
theorem dX5_number_29 : decode cX5_number 29 = .ok (.i2l, 1) := by decide +kernel
theorem dX5_number_30 : decode cX5_number 30 = .ok (.ldc2_w 77, 3) := by decide +kernel
theorem dX5_number_33 : decode cX5_number 33 = .ok (.ldc2_w 79, 3) := by decide +kernel
theorem dX5_number_36 : decode cX5_number 36 = .ok (.invokestatic 58, 3) := by decide +kernel
theorem dX5_number_39 : decode cX5_number 39 = .ok (.ifCond .eq 59, 3) := by decide +kernel
theorem dX5_number_42 : decode cX5_number 42 = .ok (.aload_n 0, 1) := by decide +kernel
theorem dX5_number_43 : decode cX5_number 43 = .ok (.aload_n 0, 1) := by decide +kernel
theorem dX5_number_44 : decode cX5_number 44 = .ok (.getfield 65, 3) := by decide +kernel
theorem dX5_number_47 : decode cX5_number 47 = .ok (.aload_n 0, 1) := by decide +kernel
theorem dX5_number_48 : decode cX5_number 48 = .ok (.getfield 68, 3) := by decide +kernel
theorem dX5_number_51 : decode cX5_number 51 = .ok (.isub, 1) := by decide +kernel
theorem dX5_number_52 : decode cX5_number 52 = .ok (.iconst 3, 1) := by decide +kernel
theorem dX5_number_53 : decode cX5_number 53 = .ok (.if_icmp .ge 26, 3) := by decide +kernel
theorem dX5_number_56 : decode cX5_number 56 = .ok (.bipush 10, 2) := by decide +kernel
theorem dX5_number_58 : decode cX5_number 58 = .ok (.aload_n 0, 1) := by decide +kernel
theorem dX5_number_59 : decode cX5_number 59 = .ok (.getfield 74, 3) := by decide +kernel
theorem dX5_number_62 : decode cX5_number 62 = .ok (.imul, 1) := by decide +kernel
theorem dX5_number_63 : decode cX5_number 63 = .ok (.aload_n 0, 1) := by decide +kernel
theorem dX5_number_64 : decode cX5_number 64 = .ok (.getfield 7, 3) := by decide +kernel
theorem dX5_number_67 : decode cX5_number 67 = .ok (.aload_n 0, 1) := by decide +kernel
theorem dX5_number_68 : decode cX5_number 68 = .ok (.getfield 65, 3) := by decide +kernel
theorem dX5_number_71 : decode cX5_number 71 = .ok (.baload, 1) := by decide +kernel
theorem dX5_number_72 : decode cX5_number 72 = .ok (.iadd, 1) := by decide +kernel
theorem dX5_number_73 : decode cX5_number 73 = .ok (.bipush 48, 2) := by decide +kernel
theorem dX5_number_75 : decode cX5_number 75 = .ok (.isub, 1) := by decide +kernel
theorem dX5_number_76 : decode cX5_number 76 = .ok (.goto 6, 3) := by decide +kernel
theorem dX5_number_79 : decode cX5_number 79 = .ok (.sipush 1000, 3) := by decide +kernel
theorem dX5_number_82 : decode cX5_number 82 = .ok (.putfield 74, 3) := by decide +kernel
theorem dX5_number_85 : decode cX5_number 85 = .ok (.aload_n 0, 1) := by decide +kernel
theorem dX5_number_86 : decode cX5_number 86 = .ok (.dup, 1) := by decide +kernel
theorem dX5_number_87 : decode cX5_number 87 = .ok (.getfield 65, 3) := by decide +kernel
theorem dX5_number_90 : decode cX5_number 90 = .ok (.iconst 1, 1) := by decide +kernel
theorem dX5_number_91 : decode cX5_number 91 = .ok (.iadd, 1) := by decide +kernel
theorem dX5_number_92 : decode cX5_number 92 = .ok (.putfield 65, 3) := by decide +kernel
theorem dX5_number_95 : decode cX5_number 95 = .ok (.goto (-86), 3) := by decide +kernel
theorem dX5_number_98 : decode cX5_number 98 = .ok (.aload_n 0, 1) := by decide +kernel
theorem dX5_number_99 : decode cX5_number 99 = .ok (.getfield 65, 3) := by decide +kernel
theorem dX5_number_102 : decode cX5_number 102 = .ok (.aload_n 0, 1) := by decide +kernel
theorem dX5_number_103 : decode cX5_number 103 = .ok (.getfield 68, 3) := by decide +kernel
theorem dX5_number_106 : decode cX5_number 106 = .ok (.if_icmp .le 34, 3) := by decide +kernel
theorem dX5_number_109 : decode cX5_number 109 = .ok (.aload_n 0, 1) := by decide +kernel
theorem dX5_number_110 : decode cX5_number 110 = .ok (.getfield 7, 3) := by decide +kernel
theorem dX5_number_113 : decode cX5_number 113 = .ok (.aload_n 0, 1) := by decide +kernel
theorem dX5_number_114 : decode cX5_number 114 = .ok (.getfield 68, 3) := by decide +kernel
theorem dX5_number_117 : decode cX5_number 117 = .ok (.baload, 1) := by decide +kernel
theorem dX5_number_118 : decode cX5_number 118 = .ok (.bipush 48, 2) := by decide +kernel
theorem dX5_number_120 : decode cX5_number 120 = .ok (.if_icmp .ne 16, 3) := by decide +kernel
theorem dX5_number_123 : decode cX5_number 123 = .ok (.aload_n 0, 1) := by decide +kernel
theorem dX5_number_124 : decode cX5_number 124 = .ok (.getfield 65, 3) := by decide +kernel
theorem dX5_number_127 : decode cX5_number 127 = .ok (.aload_n 0, 1) := by decide +kernel
theorem dX5_number_128 : decode cX5_number 128 = .ok (.getfield 68, 3) := by decide +kernel
theorem dX5_number_131 : decode cX5_number 131 = .ok (.iconst 1, 1) := by decide +kernel
theorem dX5_number_132 : decode cX5_number 132 = .ok (.iadd, 1) := by decide +kernel
theorem dX5_number_133 : decode cX5_number 133 = .ok (.if_icmp .ne 7, 3) := by decide +kernel
theorem dX5_number_136 : decode cX5_number 136 = .ok (.iconst 1, 1) := by decide +kernel
theorem dX5_number_137 : decode cX5_number 137 = .ok (.goto 4, 3) := by decide +kernel
theorem dX5_number_140 : decode cX5_number 140 = .ok (.iconst 0, 1) := by decide +kernel
theorem dX5_number_141 : decode cX5_number 141 = .ok (.istore_n 3, 1) := by decide +kernel
theorem dX5_number_142 : decode cX5_number 142 = .ok (.iload_n 3, 1) := by decide +kernel
theorem dX5_number_143 : decode cX5_number 143 = .ok (.ifCond .eq 22, 3) := by decide +kernel
theorem dX5_number_146 : decode cX5_number 146 = .ok (.aload_n 0, 1) := by decide +kernel
theorem dX5_number_147 : decode cX5_number 147 = .ok (.getfield 74, 3) := by decide +kernel
theorem dX5_number_150 : decode cX5_number 150 = .ok (.i2l, 1) := by decide +kernel
theorem dX5_number_151 : decode cX5_number 151 = .ok (.iload_n 1, 1) := by decide +kernel
theorem dX5_number_152 : decode cX5_number 152 = .ok (.i2l, 1) := by decide +kernel
theorem dX5_number_153 : decode cX5_number 153 = .ok (.iload_n 2, 1) := by decide +kernel
theorem dX5_number_154 : decode cX5_number 154 = .ok (.i2l, 1) := by decide +kernel
theorem dX5_number_155 : decode cX5_number 155 = .ok (.invokestatic 58, 3) := by decide +kernel
theorem dX5_number_158 : decode cX5_number 158 = .ok (.ifCond .eq 7, 3) := by decide +kernel
theorem dX5_number_161 : decode cX5_number 161 = .ok (.iconst 1, 1) := by decide +kernel
theorem dX5_number_162 : decode cX5_number 162 = .ok (.goto 4, 3) := by decide +kernel
theorem dX5_number_165 : decode cX5_number 165 = .ok (.iconst 0, 1) := by decide +kernel
theorem dX5_number_166 : decode cX5_number 166 = .ok (.ireturn, 1) := by decide +kernel
theorem dX5_ends_0 : decode cX5_ends 0 = .ok (.aload_n 0, 1) := by decide +kernel
theorem dX5_ends_1 : decode cX5_ends 1 = .ok (.invokevirtual 71, 3) := by decide +kernel
theorem dX5_ends_4 : decode cX5_ends 4 = .ok (.aload_n 0, 1) := by decide +kernel
theorem dX5_ends_5 : decode cX5_ends 5 = .ok (.dup, 1) := by decide +kernel
theorem dX5_ends_6 : decode cX5_ends 6 = .ok (.getfield 65, 3) := by decide +kernel
theorem dX5_ends_9 : decode cX5_ends 9 = .ok (.iconst 1, 1) := by decide +kernel
theorem dX5_ends_10 : decode cX5_ends 10 = .ok (.iadd, 1) := by decide +kernel
theorem dX5_ends_11 : decode cX5_ends 11 = .ok (.putfield 65, 3) := by decide +kernel
theorem dX5_ends_14 : decode cX5_ends 14 = .ok (.aload_n 0, 1) := by decide +kernel
theorem dX5_ends_15 : decode cX5_ends 15 = .ok (.getfield 68, 3) := by decide +kernel
theorem dX5_ends_18 : decode cX5_ends 18 = .ok (.aload_n 0, 1) := by decide +kernel
theorem dX5_ends_19 : decode cX5_ends 19 = .ok (.getfield 62, 3) := by decide +kernel
theorem dX5_ends_22 : decode cX5_ends 22 = .ok (.if_icmp .ge 21, 3) := by decide +kernel
theorem dX5_ends_25 : decode cX5_ends 25 = .ok (.aload_n 0, 1) := by decide +kernel
theorem dX5_ends_26 : decode cX5_ends 26 = .ok (.getfield 7, 3) := by decide +kernel
theorem dX5_ends_29 : decode cX5_ends 29 = .ok (.aload_n 0, 1) := by decide +kernel
theorem dX5_ends_30 : decode cX5_ends 30 = .ok (.getfield 68, 3) := by decide +kernel
theorem dX5_ends_33 : decode cX5_ends 33 = .ok (.baload, 1) := by decide +kernel
theorem dX5_ends_34 : decode cX5_ends 34 = .ok (.bipush 59, 2) := by decide +kernel
theorem dX5_ends_36 : decode cX5_ends 36 = .ok (.if_icmp .ne 7, 3) := by decide +kernel
theorem dX5_ends_39 : decode cX5_ends 39 = .ok (.iconst 1, 1) := by decide +kernel
theorem dX5_ends_40 : decode cX5_ends 40 = .ok (.goto 4, 3) := by decide +kernel
theorem dX5_ends_43 : decode cX5_ends 43 = .ok (.iconst 0, 1) := by decide +kernel
theorem dX5_ends_44 : decode cX5_ends 44 = .ok (.ireturn, 1) := by decide +kernel
theorem dX5_word_0 : decode cX5_word 0 = .ok (.aload_n 0, 1) := by decide +kernel
theorem dX5_word_1 : decode cX5_word 1 = .ok (.invokevirtual 71, 3) := by decide +kernel
theorem dX5_word_4 : decode cX5_word 4 = .ok (.lconst 0, 1) := by decide +kernel
theorem dX5_word_5 : decode cX5_word 5 = .ok (.lstore_n 1, 1) := by decide +kernel
theorem dX5_word_6 : decode cX5_word 6 = .ok (.aload_n 0, 1) := by decide +kernel
theorem dX5_word_7 : decode cX5_word 7 = .ok (.getfield 65, 3) := by decide +kernel
theorem dX5_word_10 : decode cX5_word 10 = .ok (.aload_n 0, 1) := by decide +kernel
theorem dX5_word_11 : decode cX5_word 11 = .ok (.getfield 62, 3) := by decide +kernel
theorem dX5_word_14 : decode cX5_word 14 = .ok (.if_icmp .ge 75, 3) := by decide +kernel
theorem dX5_word_17 : decode cX5_word 17 = .ok (.aload_n 0, 1) := by decide +kernel
theorem dX5_word_18 : decode cX5_word 18 = .ok (.getfield 7, 3) := by decide +kernel
theorem dX5_word_21 : decode cX5_word 21 = .ok (.aload_n 0, 1) := by decide +kernel
theorem dX5_word_22 : decode cX5_word 22 = .ok (.getfield 65, 3) := by decide +kernel
theorem dX5_word_25 : decode cX5_word 25 = .ok (.baload, 1) := by decide +kernel
theorem dX5_word_26 : decode cX5_word 26 = .ok (.i2l, 1) := by decide +kernel
theorem dX5_word_27 : decode cX5_word 27 = .ok (.ldc2_w 81, 3) := by decide +kernel
theorem dX5_word_30 : decode cX5_word 30 = .ok (.ldc2_w 83, 3) := by decide +kernel
theorem dX5_word_33 : decode cX5_word 33 = .ok (.invokestatic 58, 3) := by decide +kernel
theorem dX5_word_36 : decode cX5_word 36 = .ok (.ifCond .eq 53, 3) := by decide +kernel
theorem dX5_word_39 : decode cX5_word 39 = .ok (.aload_n 0, 1) := by decide +kernel
theorem dX5_word_40 : decode cX5_word 40 = .ok (.getfield 65, 3) := by decide +kernel
theorem dX5_word_43 : decode cX5_word 43 = .ok (.aload_n 0, 1) := by decide +kernel
theorem dX5_word_44 : decode cX5_word 44 = .ok (.getfield 68, 3) := by decide +kernel
theorem dX5_word_47 : decode cX5_word 47 = .ok (.isub, 1) := by decide +kernel
theorem dX5_word_48 : decode cX5_word 48 = .ok (.bipush 8, 2) := by decide +kernel
theorem dX5_word_50 : decode cX5_word 50 = .ok (.if_icmp .ge 22, 3) := by decide +kernel
theorem dX5_word_53 : decode cX5_word 53 = .ok (.ldc2_w 85, 3) := by decide +kernel
theorem dX5_word_56 : decode cX5_word 56 = .ok (.lload_n 1, 1) := by decide +kernel
theorem dX5_word_57 : decode cX5_word 57 = .ok (.lmul, 1) := by decide +kernel
theorem dX5_word_58 : decode cX5_word 58 = .ok (.aload_n 0, 1) := by decide +kernel
theorem dX5_word_59 : decode cX5_word 59 = .ok (.getfield 7, 3) := by decide +kernel
theorem dX5_word_62 : decode cX5_word 62 = .ok (.aload_n 0, 1) := by decide +kernel
theorem dX5_word_63 : decode cX5_word 63 = .ok (.getfield 65, 3) := by decide +kernel
theorem dX5_word_66 : decode cX5_word 66 = .ok (.baload, 1) := by decide +kernel
theorem dX5_word_67 : decode cX5_word 67 = .ok (.i2l, 1) := by decide +kernel
theorem dX5_word_68 : decode cX5_word 68 = .ok (.ladd, 1) := by decide +kernel
theorem dX5_word_69 : decode cX5_word 69 = .ok (.goto 6, 3) := by decide +kernel
theorem dX5_word_72 : decode cX5_word 72 = .ok (.ldc2_w 87, 3) := by decide +kernel
theorem dX5_word_75 : decode cX5_word 75 = .ok (.lstore_n 1, 1) := by decide +kernel
theorem dX5_word_76 : decode cX5_word 76 = .ok (.aload_n 0, 1) := by decide +kernel
theorem dX5_word_77 : decode cX5_word 77 = .ok (.dup, 1) := by decide +kernel
theorem dX5_word_78 : decode cX5_word 78 = .ok (.getfield 65, 3) := by decide +kernel
theorem dX5_word_81 : decode cX5_word 81 = .ok (.iconst 1, 1) := by decide +kernel
theorem dX5_word_82 : decode cX5_word 82 = .ok (.iadd, 1) := by decide +kernel
theorem dX5_word_83 : decode cX5_word 83 = .ok (.putfield 65, 3) := by decide +kernel
theorem dX5_word_86 : decode cX5_word 86 = .ok (.goto (-80), 3) := by decide +kernel
theorem dX5_word_89 : decode cX5_word 89 = .ok (.lload_n 1, 1) := by decide +kernel
theorem dX5_word_90 : decode cX5_word 90 = .ok (.ldc2_w 89, 3) := by decide +kernel
theorem dX5_word_93 : decode cX5_word 93 = .ok (.lcmp, 1) := by decide +kernel
theorem dX5_word_94 : decode cX5_word 94 = .ok (.ifCond .ne 7, 3) := by decide +kernel
theorem dX5_word_97 : decode cX5_word 97 = .ok (.iconst 0, 1) := by decide +kernel
theorem dX5_word_98 : decode cX5_word 98 = .ok (.goto 64, 3) := by decide +kernel
theorem dX5_word_101 : decode cX5_word 101 = .ok (.lload_n 1, 1) := by decide +kernel
theorem dX5_word_102 : decode cX5_word 102 = .ok (.ldc2_w 91, 3) := by decide +kernel
theorem dX5_word_105 : decode cX5_word 105 = .ok (.lcmp, 1) := by decide +kernel
theorem dX5_word_106 : decode cX5_word 106 = .ok (.ifCond .ne 7, 3) := by decide +kernel
theorem dX5_word_109 : decode cX5_word 109 = .ok (.iconst 1, 1) := by decide +kernel
theorem dX5_word_110 : decode cX5_word 110 = .ok (.goto 52, 3) := by decide +kernel
theorem dX5_word_113 : decode cX5_word 113 = .ok (.lload_n 1, 1) := by decide +kernel
theorem dX5_word_114 : decode cX5_word 114 = .ok (.ldc2_w 93, 3) := by decide +kernel
theorem dX5_word_117 : decode cX5_word 117 = .ok (.lcmp, 1) := by decide +kernel
theorem dX5_word_118 : decode cX5_word 118 = .ok (.ifCond .ne 7, 3) := by decide +kernel
theorem dX5_word_121 : decode cX5_word 121 = .ok (.iconst 2, 1) := by decide +kernel
theorem dX5_word_122 : decode cX5_word 122 = .ok (.goto 40, 3) := by decide +kernel
theorem dX5_word_125 : decode cX5_word 125 = .ok (.lload_n 1, 1) := by decide +kernel
theorem dX5_word_126 : decode cX5_word 126 = .ok (.ldc2_w 95, 3) := by decide +kernel
theorem dX5_word_129 : decode cX5_word 129 = .ok (.lcmp, 1) := by decide +kernel
theorem dX5_word_130 : decode cX5_word 130 = .ok (.ifCond .ne 7, 3) := by decide +kernel
theorem dX5_word_133 : decode cX5_word 133 = .ok (.iconst 3, 1) := by decide +kernel
theorem dX5_word_134 : decode cX5_word 134 = .ok (.goto 28, 3) := by decide +kernel
theorem dX5_word_137 : decode cX5_word 137 = .ok (.lload_n 1, 1) := by decide +kernel
theorem dX5_word_138 : decode cX5_word 138 = .ok (.ldc2_w 97, 3) := by decide +kernel
theorem dX5_word_141 : decode cX5_word 141 = .ok (.lcmp, 1) := by decide +kernel
theorem dX5_word_142 : decode cX5_word 142 = .ok (.ifCond .ne 7, 3) := by decide +kernel
theorem dX5_word_145 : decode cX5_word 145 = .ok (.iconst 4, 1) := by decide +kernel
theorem dX5_word_146 : decode cX5_word 146 = .ok (.goto 16, 3) := by decide +kernel
theorem dX5_word_149 : decode cX5_word 149 = .ok (.lload_n 1, 1) := by decide +kernel
theorem dX5_word_150 : decode cX5_word 150 = .ok (.ldc2_w 99, 3) := by decide +kernel
theorem dX5_word_153 : decode cX5_word 153 = .ok (.lcmp, 1) := by decide +kernel
theorem dX5_word_154 : decode cX5_word 154 = .ok (.ifCond .ne 7, 3) := by decide +kernel
theorem dX5_word_157 : decode cX5_word 157 = .ok (.iconst 5, 1) := by decide +kernel
theorem dX5_word_158 : decode cX5_word 158 = .ok (.goto 4, 3) := by decide +kernel
theorem dX5_word_161 : decode cX5_word 161 = .ok (.iconst (-1), 1) := by decide +kernel
theorem dX5_word_162 : decode cX5_word 162 = .ok (.ireturn, 1) := by decide +kernel
theorem dX5_highest_0 : decode cX5_highest 0 = .ok (.iload_n 0, 1) := by decide +kernel
theorem dX5_highest_1 : decode cX5_highest 1 = .ok (.ifCond .ne 8, 3) := by decide +kernel
theorem dX5_highest_4 : decode cX5_highest 4 = .ok (.bipush 9, 2) := by decide +kernel
theorem dX5_highest_6 : decode cX5_highest 6 = .ok (.goto 27, 3) := by decide +kernel
theorem dX5_highest_9 : decode cX5_highest 9 = .ok (.iload_n 0, 1) := by decide +kernel
theorem dX5_highest_10 : decode cX5_highest 10 = .ok (.iconst 2, 1) := by decide +kernel
theorem dX5_highest_11 : decode cX5_highest 11 = .ok (.if_icmp .ne 8, 3) := by decide +kernel
theorem dX5_highest_14 : decode cX5_highest 14 = .ok (.bipush 99, 2) := by decide +kernel
theorem dX5_highest_16 : decode cX5_highest 16 = .ok (.goto 17, 3) := by decide +kernel
theorem dX5_highest_19 : decode cX5_highest 19 = .ok (.iload_n 0, 1) := by decide +kernel
theorem dX5_highest_20 : decode cX5_highest 20 = .ok (.bipush 6, 2) := by decide +kernel
theorem dX5_highest_22 : decode cX5_highest 22 = .ok (.if_icmp .ne 8, 3) := by decide +kernel
theorem dX5_highest_25 : decode cX5_highest 25 = .ok (.bipush 10, 2) := by decide +kernel
theorem dX5_highest_27 : decode cX5_highest 27 = .ok (.goto 6, 3) := by decide +kernel
theorem dX5_highest_30 : decode cX5_highest 30 = .ok (.sipush 999, 3) := by decide +kernel
theorem dX5_highest_33 : decode cX5_highest 33 = .ok (.ireturn, 1) := by decide +kernel
theorem dX5_isSkin_0 : decode cX5_isSkin 0 = .ok (.aload_n 0, 1) := by decide +kernel
theorem dX5_isSkin_1 : decode cX5_isSkin 1 = .ok (.getfield 101, 3) := by decide +kernel
theorem dX5_isSkin_4 : decode cX5_isSkin 4 = .ok (.ifCond .ne 7, 3) := by decide +kernel
theorem dX5_isSkin_7 : decode cX5_isSkin 7 = .ok (.iconst 1, 1) := by decide +kernel
theorem dX5_isSkin_8 : decode cX5_isSkin 8 = .ok (.goto 4, 3) := by decide +kernel
theorem dX5_isSkin_11 : decode cX5_isSkin 11 = .ok (.iconst 0, 1) := by decide +kernel
theorem dX5_isSkin_12 : decode cX5_isSkin 12 = .ok (.istore_n 1, 1) := by decide +kernel
theorem dX5_isSkin_13 : decode cX5_isSkin 13 = .ok (.aload_n 0, 1) := by decide +kernel
theorem dX5_isSkin_14 : decode cX5_isSkin 14 = .ok (.iconst 1, 1) := by decide +kernel
theorem dX5_isSkin_15 : decode cX5_isSkin 15 = .ok (.putfield 101, 3) := by decide +kernel
theorem dX5_isSkin_18 : decode cX5_isSkin 18 = .ok (.iconst 0, 1) := by decide +kernel
theorem dX5_isSkin_19 : decode cX5_isSkin 19 = .ok (.istore_n 2, 1) := by decide +kernel
theorem dX5_isSkin_20 : decode cX5_isSkin 20 = .ok (.iload_n 2, 1) := by decide +kernel
theorem dX5_isSkin_21 : decode cX5_isSkin 21 = .ok (.bipush 7, 2) := by decide +kernel
theorem dX5_isSkin_23 : decode cX5_isSkin 23 = .ok (.if_icmp .ge 50, 3) := by decide +kernel
theorem dX5_isSkin_26 : decode cX5_isSkin 26 = .ok (.iload_n 1, 1) := by decide +kernel
theorem dX5_isSkin_27 : decode cX5_isSkin 27 = .ok (.ifCond .eq 46, 3) := by decide +kernel
theorem dX5_isSkin_30 : decode cX5_isSkin 30 = .ok (.aload_n 0, 1) := by decide +kernel
theorem dX5_isSkin_31 : decode cX5_isSkin 31 = .ok (.iload_n 2, 1) := by decide +kernel
theorem dX5_isSkin_32 : decode cX5_isSkin 32 = .ok (.iconst 2, 1) := by decide +kernel
theorem dX5_isSkin_33 : decode cX5_isSkin 33 = .ok (.if_icmp .lt 8, 3) := by decide +kernel
theorem dX5_isSkin_36 : decode cX5_isSkin 36 = .ok (.iload_n 2, 1) := by decide +kernel
theorem dX5_isSkin_37 : decode cX5_isSkin 37 = .ok (.iconst 4, 1) := by decide +kernel
theorem dX5_isSkin_38 : decode cX5_isSkin 38 = .ok (.if_icmp .ne 7, 3) := by decide +kernel
theorem dX5_isSkin_41 : decode cX5_isSkin 41 = .ok (.iconst 1, 1) := by decide +kernel
theorem dX5_isSkin_42 : decode cX5_isSkin 42 = .ok (.goto 4, 3) := by decide +kernel
theorem dX5_isSkin_45 : decode cX5_isSkin 45 = .ok (.iconst 0, 1) := by decide +kernel
theorem dX5_isSkin_46 : decode cX5_isSkin 46 = .ok (.iload_n 2, 1) := by decide +kernel
theorem dX5_isSkin_47 : decode cX5_isSkin 47 = .ok (.invokestatic 105, 3) := by decide +kernel
theorem dX5_isSkin_50 : decode cX5_isSkin 50 = .ok (.invokevirtual 109, 3) := by decide +kernel
theorem dX5_isSkin_53 : decode cX5_isSkin 53 = .ok (.istore_n 1, 1) := by decide +kernel
theorem dX5_isSkin_54 : decode cX5_isSkin 54 = .ok (.aload_n 0, 1) := by decide +kernel
theorem dX5_isSkin_55 : decode cX5_isSkin 55 = .ok (.getfield 13, 3) := by decide +kernel
theorem dX5_isSkin_58 : decode cX5_isSkin 58 = .ok (.bipush 9, 2) := by decide +kernel
theorem dX5_isSkin_60 : decode cX5_isSkin 60 = .ok (.iload_n 2, 1) := by decide +kernel
theorem dX5_isSkin_61 : decode cX5_isSkin 61 = .ok (.iadd, 1) := by decide +kernel
theorem dX5_isSkin_62 : decode cX5_isSkin 62 = .ok (.aload_n 0, 1) := by decide +kernel
theorem dX5_isSkin_63 : decode cX5_isSkin 63 = .ok (.getfield 74, 3) := by decide +kernel
theorem dX5_isSkin_66 : decode cX5_isSkin 66 = .ok (.iastore, 1) := by decide +kernel
theorem dX5_isSkin_67 : decode cX5_isSkin 67 = .ok (.iinc 2 1, 3) := by decide +kernel
theorem dX5_isSkin_70 : decode cX5_isSkin 70 = .ok (.goto (-50), 3) := by decide +kernel
theorem dX5_isSkin_73 : decode cX5_isSkin 73 = .ok (.iload_n 1, 1) := by decide +kernel
theorem dX5_isSkin_74 : decode cX5_isSkin 74 = .ok (.ireturn, 1) := by decide +kernel
theorem dX5_isBend_0 : decode cX5_isBend 0 = .ok (.aload_n 0, 1) := by decide +kernel
theorem dX5_isBend_1 : decode cX5_isBend 1 = .ok (.getfield 113, 3) := by decide +kernel
theorem dX5_isBend_4 : decode cX5_isBend 4 = .ok (.ifCond .ne 12, 3) := by decide +kernel
theorem dX5_isBend_7 : decode cX5_isBend 7 = .ok (.aload_n 0, 1) := by decide +kernel
theorem dX5_isBend_8 : decode cX5_isBend 8 = .ok (.iconst 0, 1) := by decide +kernel
theorem dX5_isBend_9 : decode cX5_isBend 9 = .ok (.iconst 3, 1) := by decide +kernel
theorem dX5_isBend_10 : decode cX5_isBend 10 = .ok (.invokevirtual 109, 3) := by decide +kernel
theorem dX5_isBend_13 : decode cX5_isBend 13 = .ok (.ifCond .ne 5, 3) := by decide +kernel
theorem dX5_isBend_16 : decode cX5_isBend 16 = .ok (.iconst 0, 1) := by decide +kernel
theorem dX5_isBend_17 : decode cX5_isBend 17 = .ok (.ireturn, 1) := by decide +kernel
theorem dX5_isBend_18 : decode cX5_isBend 18 = .ok (.aload_n 0, 1) := by decide +kernel
theorem dX5_isBend_19 : decode cX5_isBend 19 = .ok (.iconst 1, 1) := by decide +kernel
theorem dX5_isBend_20 : decode cX5_isBend 20 = .ok (.putfield 113, 3) := by decide +kernel
theorem dX5_isBend_23 : decode cX5_isBend 23 = .ok (.aload_n 0, 1) := by decide +kernel
theorem dX5_isBend_24 : decode cX5_isBend 24 = .ok (.getfield 13, 3) := by decide +kernel
theorem dX5_isBend_27 : decode cX5_isBend 27 = .ok (.bipush 16, 2) := by decide +kernel
theorem dX5_isBend_29 : decode cX5_isBend 29 = .ok (.aload_n 0, 1) := by decide +kernel
theorem dX5_isBend_30 : decode cX5_isBend 30 = .ok (.getfield 74, 3) := by decide +kernel
theorem dX5_isBend_33 : decode cX5_isBend 33 = .ok (.iastore, 1) := by decide +kernel
theorem dX5_isBend_34 : decode cX5_isBend 34 = .ok (.aload_n 0, 1) := by decide +kernel
theorem dX5_isBend_35 : decode cX5_isBend 35 = .ok (.iconst 0, 1) := by decide +kernel
theorem dX5_isBend_36 : decode cX5_isBend 36 = .ok (.bipush 99, 2) := by decide +kernel
theorem dX5_isBend_38 : decode cX5_isBend 38 = .ok (.invokevirtual 109, 3) := by decide +kernel
theorem dX5_isBend_41 : decode cX5_isBend 41 = .ok (.istore_n 1, 1) := by decide +kernel
theorem dX5_isBend_42 : decode cX5_isBend 42 = .ok (.aload_n 0, 1) := by decide +kernel
theorem dX5_isBend_43 : decode cX5_isBend 43 = .ok (.getfield 13, 3) := by decide +kernel
theorem dX5_isBend_46 : decode cX5_isBend 46 = .ok (.bipush 17, 2) := by decide +kernel
theorem dX5_isBend_48 : decode cX5_isBend 48 = .ok (.aload_n 0, 1) := by decide +kernel
theorem dX5_isBend_49 : decode cX5_isBend 49 = .ok (.getfield 74, 3) := by decide +kernel
theorem dX5_isBend_52 : decode cX5_isBend 52 = .ok (.iastore, 1) := by decide +kernel
theorem dX5_isBend_53 : decode cX5_isBend 53 = .ok (.iload_n 1, 1) := by decide +kernel
theorem dX5_isBend_54 : decode cX5_isBend 54 = .ok (.ireturn, 1) := by decide +kernel
theorem dX5_isDoing_0 : decode cX5_isDoing 0 = .ok (.bipush 36, 2) := by decide +kernel
theorem dX5_isDoing_2 : decode cX5_isDoing 2 = .ok (.iconst 3, 1) := by decide +kernel
theorem dX5_isDoing_3 : decode cX5_isDoing 3 = .ok (.aload_n 0, 1) := by decide +kernel
theorem dX5_isDoing_4 : decode cX5_isDoing 4 = .ok (.getfield 17, 3) := by decide +kernel
theorem dX5_isDoing_7 : decode cX5_isDoing 7 = .ok (.iconst 1, 1) := by decide +kernel
theorem dX5_isDoing_8 : decode cX5_isDoing 8 = .ok (.iaload, 1) := by decide +kernel
theorem dX5_isDoing_9 : decode cX5_isDoing 9 = .ok (.imul, 1) := by decide +kernel
theorem dX5_isDoing_10 : decode cX5_isDoing 10 = .ok (.iadd, 1) := by decide +kernel
theorem dX5_isDoing_11 : decode cX5_isDoing 11 = .ok (.istore_n 2, 1) := by decide +kernel
theorem dX5_isDoing_12 : decode cX5_isDoing 12 = .ok (.aload_n 0, 1) := by decide +kernel
theorem dX5_isDoing_13 : decode cX5_isDoing 13 = .ok (.getfield 17, 3) := by decide +kernel
theorem dX5_isDoing_16 : decode cX5_isDoing 16 = .ok (.iconst 1, 1) := by decide +kernel
theorem dX5_isDoing_17 : decode cX5_isDoing 17 = .ok (.iaload, 1) := by decide +kernel
theorem dX5_isDoing_18 : decode cX5_isDoing 18 = .ok (.bipush 12, 2) := by decide +kernel
theorem dX5_isDoing_20 : decode cX5_isDoing 20 = .ok (.if_icmp .eq 60, 3) := by decide +kernel
theorem dX5_isDoing_23 : decode cX5_isDoing 23 = .ok (.aload_n 0, 1) := by decide +kernel
theorem dX5_isDoing_24 : decode cX5_isDoing 24 = .ok (.iload_n 1, 1) := by decide +kernel
theorem dX5_isDoing_25 : decode cX5_isDoing 25 = .ok (.iconst 3, 1) := by decide +kernel
theorem dX5_isDoing_26 : decode cX5_isDoing 26 = .ok (.if_icmp .ne 8, 3) := by decide +kernel
theorem dX5_isDoing_29 : decode cX5_isDoing 29 = .ok (.bipush 20, 2) := by decide +kernel
theorem dX5_isDoing_31 : decode cX5_isDoing 31 = .ok (.goto 12, 3) := by decide +kernel
theorem dX5_isDoing_34 : decode cX5_isDoing 34 = .ok (.iload_n 1, 1) := by decide +kernel
theorem dX5_isDoing_35 : decode cX5_isDoing 35 = .ok (.ifCond .ne 7, 3) := by decide +kernel
theorem dX5_isDoing_38 : decode cX5_isDoing 38 = .ok (.iconst 0, 1) := by decide +kernel
theorem dX5_isDoing_39 : decode cX5_isDoing 39 = .ok (.goto 4, 3) := by decide +kernel
theorem dX5_isDoing_42 : decode cX5_isDoing 42 = .ok (.iconst 1, 1) := by decide +kernel
theorem dX5_isDoing_43 : decode cX5_isDoing 43 = .ok (.iload_n 1, 1) := by decide +kernel
theorem dX5_isDoing_44 : decode cX5_isDoing 44 = .ok (.ifCond .ne 9, 3) := by decide +kernel
theorem dX5_isDoing_47 : decode cX5_isDoing 47 = .ok (.sipush 300, 3) := by decide +kernel
theorem dX5_isDoing_50 : decode cX5_isDoing 50 = .ok (.goto 24, 3) := by decide +kernel
theorem dX5_isDoing_53 : decode cX5_isDoing 53 = .ok (.iload_n 1, 1) := by decide +kernel
theorem dX5_isDoing_54 : decode cX5_isDoing 54 = .ok (.iconst 1, 1) := by decide +kernel
theorem dX5_isDoing_55 : decode cX5_isDoing 55 = .ok (.if_icmp .ne 7, 3) := by decide +kernel
theorem dX5_isDoing_58 : decode cX5_isDoing 58 = .ok (.iconst 3, 1) := by decide +kernel
theorem dX5_isDoing_59 : decode cX5_isDoing 59 = .ok (.goto 15, 3) := by decide +kernel
theorem dX5_isDoing_62 : decode cX5_isDoing 62 = .ok (.iload_n 1, 1) := by decide +kernel
theorem dX5_isDoing_63 : decode cX5_isDoing 63 = .ok (.iconst 2, 1) := by decide +kernel
theorem dX5_isDoing_64 : decode cX5_isDoing 64 = .ok (.if_icmp .ne 8, 3) := by decide +kernel
theorem dX5_isDoing_67 : decode cX5_isDoing 67 = .ok (.bipush 9, 2) := by decide +kernel
theorem dX5_isDoing_69 : decode cX5_isDoing 69 = .ok (.goto 5, 3) := by decide +kernel
theorem dX5_isDoing_72 : decode cX5_isDoing 72 = .ok (.bipush 100, 2) := by decide +kernel
theorem dX5_isDoing_74 : decode cX5_isDoing 74 = .ok (.invokevirtual 109, 3) := by decide +kernel
theorem dX5_isDoing_77 : decode cX5_isDoing 77 = .ok (.ifCond .ne 5, 3) := by decide +kernel
theorem dX5_isDoing_80 : decode cX5_isDoing 80 = .ok (.iconst 0, 1) := by decide +kernel
theorem dX5_isDoing_81 : decode cX5_isDoing 81 = .ok (.ireturn, 1) := by decide +kernel
theorem dX5_isDoing_82 : decode cX5_isDoing 82 = .ok (.aload_n 0, 1) := by decide +kernel
theorem dX5_isDoing_83 : decode cX5_isDoing 83 = .ok (.getfield 20, 3) := by decide +kernel
theorem dX5_isDoing_86 : decode cX5_isDoing 86 = .ok (.iload_n 2, 1) := by decide +kernel
theorem dX5_isDoing_87 : decode cX5_isDoing 87 = .ok (.iload_n 1, 1) := by decide +kernel
theorem dX5_isDoing_88 : decode cX5_isDoing 88 = .ok (.iastore, 1) := by decide +kernel
theorem dX5_isDoing_89 : decode cX5_isDoing 89 = .ok (.aload_n 0, 1) := by decide +kernel
theorem dX5_isDoing_90 : decode cX5_isDoing 90 = .ok (.getfield 20, 3) := by decide +kernel
theorem dX5_isDoing_93 : decode cX5_isDoing 93 = .ok (.iload_n 2, 1) := by decide +kernel
theorem dX5_isDoing_94 : decode cX5_isDoing 94 = .ok (.iconst 1, 1) := by decide +kernel
theorem dX5_isDoing_95 : decode cX5_isDoing 95 = .ok (.iadd, 1) := by decide +kernel
theorem dX5_isDoing_96 : decode cX5_isDoing 96 = .ok (.aload_n 0, 1) := by decide +kernel
theorem dX5_isDoing_97 : decode cX5_isDoing 97 = .ok (.getfield 74, 3) := by decide +kernel
theorem dX5_isDoing_100 : decode cX5_isDoing 100 = .ok (.iastore, 1) := by decide +kernel
theorem dX5_isDoing_101 : decode cX5_isDoing 101 = .ok (.aload_n 0, 1) := by decide +kernel
theorem dX5_isDoing_102 : decode cX5_isDoing 102 = .ok (.getfield 20, 3) := by decide +kernel
theorem dX5_isDoing_105 : decode cX5_isDoing 105 = .ok (.iload_n 2, 1) := by decide +kernel
theorem dX5_isDoing_106 : decode cX5_isDoing 106 = .ok (.iconst 2, 1) := by decide +kernel
theorem dX5_isDoing_107 : decode cX5_isDoing 107 = .ok (.iadd, 1) := by decide +kernel
theorem dX5_isDoing_108 : decode cX5_isDoing 108 = .ok (.iconst 0, 1) := by decide +kernel
theorem dX5_isDoing_109 : decode cX5_isDoing 109 = .ok (.iastore, 1) := by decide +kernel
theorem dX5_isDoing_110 : decode cX5_isDoing 110 = .ok (.iload_n 1, 1) := by decide +kernel
theorem dX5_isDoing_111 : decode cX5_isDoing 111 = .ok (.ifCond .eq 8, 3) := by decide +kernel
theorem dX5_isDoing_114 : decode cX5_isDoing 114 = .ok (.iload_n 1, 1) := by decide +kernel
theorem dX5_isDoing_115 : decode cX5_isDoing 115 = .ok (.iconst 3, 1) := by decide +kernel
theorem dX5_isDoing_116 : decode cX5_isDoing 116 = .ok (.if_icmp .ne 27, 3) := by decide +kernel
theorem dX5_isDoing_119 : decode cX5_isDoing 119 = .ok (.aload_n 0, 1) := by decide +kernel
theorem dX5_isDoing_120 : decode cX5_isDoing 120 = .ok (.iconst 1, 1) := by decide +kernel
theorem dX5_isDoing_121 : decode cX5_isDoing 121 = .ok (.bipush 99, 2) := by decide +kernel
theorem dX5_isDoing_123 : decode cX5_isDoing 123 = .ok (.invokevirtual 109, 3) := by decide +kernel
theorem dX5_isDoing_126 : decode cX5_isDoing 126 = .ok (.ifCond .ne 5, 3) := by decide +kernel
theorem dX5_isDoing_129 : decode cX5_isDoing 129 = .ok (.iconst 0, 1) := by decide +kernel
theorem dX5_isDoing_130 : decode cX5_isDoing 130 = .ok (.ireturn, 1) := by decide +kernel
theorem dX5_isDoing_131 : decode cX5_isDoing 131 = .ok (.aload_n 0, 1) := by decide +kernel
theorem dX5_isDoing_132 : decode cX5_isDoing 132 = .ok (.getfield 20, 3) := by decide +kernel
theorem dX5_isDoing_135 : decode cX5_isDoing 135 = .ok (.iload_n 2, 1) := by decide +kernel
theorem dX5_isDoing_136 : decode cX5_isDoing 136 = .ok (.iconst 2, 1) := by decide +kernel
theorem dX5_isDoing_137 : decode cX5_isDoing 137 = .ok (.iadd, 1) := by decide +kernel
theorem dX5_isDoing_138 : decode cX5_isDoing 138 = .ok (.aload_n 0, 1) := by decide +kernel
theorem dX5_isDoing_139 : decode cX5_isDoing 139 = .ok (.getfield 74, 3) := by decide +kernel
theorem dX5_isDoing_142 : decode cX5_isDoing 142 = .ok (.iastore, 1) := by decide +kernel
theorem dX5_isDoing_143 : decode cX5_isDoing 143 = .ok (.aload_n 0, 1) := by decide +kernel
theorem dX5_isDoing_144 : decode cX5_isDoing 144 = .ok (.getfield 17, 3) := by decide +kernel
theorem dX5_isDoing_147 : decode cX5_isDoing 147 = .ok (.iconst 1, 1) := by decide +kernel
theorem dX5_isDoing_148 : decode cX5_isDoing 148 = .ok (.dup2, 1) := by decide +kernel
theorem dX5_isDoing_149 : decode cX5_isDoing 149 = .ok (.iaload, 1) := by decide +kernel
theorem dX5_isDoing_150 : decode cX5_isDoing 150 = .ok (.iconst 1, 1) := by decide +kernel
theorem dX5_isDoing_151 : decode cX5_isDoing 151 = .ok (.iadd, 1) := by decide +kernel
theorem dX5_isDoing_152 : decode cX5_isDoing 152 = .ok (.iastore, 1) := by decide +kernel
theorem dX5_isDoing_153 : decode cX5_isDoing 153 = .ok (.iconst 1, 1) := by decide +kernel
theorem dX5_isDoing_154 : decode cX5_isDoing 154 = .ok (.ireturn, 1) := by decide +kernel
theorem dX5_isItem_0 : decode cX5_isItem 0 = .ok (.aload_n 0, 1) := by decide +kernel
theorem dX5_isItem_1 : decode cX5_isItem 1 = .ok (.invokevirtual 116, 3) := by decide +kernel
theorem dX5_isItem_4 : decode cX5_isItem 4 = .ok (.istore_n 1, 1) := by decide +kernel
theorem dX5_isItem_5 : decode cX5_isItem 5 = .ok (.iload_n 1, 1) := by decide +kernel
theorem dX5_isItem_6 : decode cX5_isItem 6 = .ok (.ifCond .lt 45, 3) := by decide +kernel
theorem dX5_isItem_9 : decode cX5_isItem 9 = .ok (.iload_n 1, 1) := by decide +kernel
theorem dX5_isItem_10 : decode cX5_isItem 10 = .ok (.iconst 4, 1) := by decide +kernel
theorem dX5_isItem_11 : decode cX5_isItem 11 = .ok (.if_icmp .ne 13, 3) := by decide +kernel
theorem dX5_isItem_14 : decode cX5_isItem 14 = .ok (.aload_n 0, 1) := by decide +kernel
theorem dX5_isItem_15 : decode cX5_isItem 15 = .ok (.invokevirtual 120, 3) := by decide +kernel
theorem dX5_isItem_18 : decode cX5_isItem 18 = .ok (.ifCond .eq 33, 3) := by decide +kernel
theorem dX5_isItem_21 : decode cX5_isItem 21 = .ok (.goto 26, 3) := by decide +kernel
theorem dX5_isItem_24 : decode cX5_isItem 24 = .ok (.iload_n 1, 1) := by decide +kernel
theorem dX5_isItem_25 : decode cX5_isItem 25 = .ok (.iconst 5, 1) := by decide +kernel
theorem dX5_isItem_26 : decode cX5_isItem 26 = .ok (.if_icmp .ne 13, 3) := by decide +kernel
theorem dX5_isItem_29 : decode cX5_isItem 29 = .ok (.aload_n 0, 1) := by decide +kernel
theorem dX5_isItem_30 : decode cX5_isItem 30 = .ok (.invokevirtual 124, 3) := by decide +kernel
theorem dX5_isItem_33 : decode cX5_isItem 33 = .ok (.ifCond .eq 18, 3) := by decide +kernel
theorem dX5_isItem_36 : decode cX5_isItem 36 = .ok (.goto 11, 3) := by decide +kernel
theorem dX5_isItem_39 : decode cX5_isItem 39 = .ok (.aload_n 0, 1) := by decide +kernel
theorem dX5_isItem_40 : decode cX5_isItem 40 = .ok (.iload_n 1, 1) := by decide +kernel
theorem dX5_isItem_41 : decode cX5_isItem 41 = .ok (.invokevirtual 127, 3) := by decide +kernel
theorem dX5_isItem_44 : decode cX5_isItem 44 = .ok (.ifCond .eq 7, 3) := by decide +kernel
theorem dX5_isItem_47 : decode cX5_isItem 47 = .ok (.iconst 1, 1) := by decide +kernel
theorem dX5_isItem_48 : decode cX5_isItem 48 = .ok (.goto 4, 3) := by decide +kernel
theorem dX5_isItem_51 : decode cX5_isItem 51 = .ok (.iconst 0, 1) := by decide +kernel
theorem dX5_isItem_52 : decode cX5_isItem 52 = .ok (.istore_n 2, 1) := by decide +kernel
theorem dX5_isItem_53 : decode cX5_isItem 53 = .ok (.iload_n 2, 1) := by decide +kernel
theorem dX5_isItem_54 : decode cX5_isItem 54 = .ok (.ifCond .eq 14, 3) := by decide +kernel
theorem dX5_isItem_57 : decode cX5_isItem 57 = .ok (.aload_n 0, 1) := by decide +kernel
theorem dX5_isItem_58 : decode cX5_isItem 58 = .ok (.invokevirtual 131, 3) := by decide +kernel
theorem dX5_isItem_61 : decode cX5_isItem 61 = .ok (.ifCond .eq 7, 3) := by decide +kernel
theorem dX5_isItem_64 : decode cX5_isItem 64 = .ok (.iconst 1, 1) := by decide +kernel
theorem dX5_isItem_65 : decode cX5_isItem 65 = .ok (.goto 4, 3) := by decide +kernel
theorem dX5_isItem_68 : decode cX5_isItem 68 = .ok (.iconst 0, 1) := by decide +kernel
theorem dX5_isItem_69 : decode cX5_isItem 69 = .ok (.ireturn, 1) := by decide +kernel
theorem dX5_reads_0 : decode cX5_reads 0 = .ok (.aload_n 0, 1) := by decide +kernel
theorem dX5_reads_1 : decode cX5_reads 1 = .ok (.iconst 0, 1) := by decide +kernel
theorem dX5_reads_2 : decode cX5_reads 2 = .ok (.putfield 65, 3) := by decide +kernel
theorem dX5_reads_5 : decode cX5_reads 5 = .ok (.aload_n 0, 1) := by decide +kernel
theorem dX5_reads_6 : decode cX5_reads 6 = .ok (.iconst 0, 1) := by decide +kernel
theorem dX5_reads_7 : decode cX5_reads 7 = .ok (.putfield 134, 3) := by decide +kernel
theorem dX5_reads_10 : decode cX5_reads 10 = .ok (.aload_n 0, 1) := by decide +kernel
theorem dX5_reads_11 : decode cX5_reads 11 = .ok (.getfield 17, 3) := by decide +kernel
theorem dX5_reads_14 : decode cX5_reads 14 = .ok (.iconst 1, 1) := by decide +kernel
theorem dX5_reads_15 : decode cX5_reads 15 = .ok (.iconst 0, 1) := by decide +kernel
theorem dX5_reads_16 : decode cX5_reads 16 = .ok (.iastore, 1) := by decide +kernel
theorem dX5_reads_17 : decode cX5_reads 17 = .ok (.aload_n 0, 1) := by decide +kernel
theorem dX5_reads_18 : decode cX5_reads 18 = .ok (.iconst 0, 1) := by decide +kernel
theorem dX5_reads_19 : decode cX5_reads 19 = .ok (.putfield 101, 3) := by decide +kernel
theorem dX5_reads_22 : decode cX5_reads 22 = .ok (.aload_n 0, 1) := by decide +kernel
theorem dX5_reads_23 : decode cX5_reads 23 = .ok (.iconst 0, 1) := by decide +kernel
theorem dX5_reads_24 : decode cX5_reads 24 = .ok (.putfield 113, 3) := by decide +kernel
theorem dX5_reads_27 : decode cX5_reads 27 = .ok (.iconst 0, 1) := by decide +kernel
theorem dX5_reads_28 : decode cX5_reads 28 = .ok (.istore_n 1, 1) := by decide +kernel
theorem dX5_reads_29 : decode cX5_reads 29 = .ok (.iload_n 1, 1) := by decide +kernel
theorem dX5_reads_30 : decode cX5_reads 30 = .ok (.bipush 9, 2) := by decide +kernel
theorem dX5_reads_32 : decode cX5_reads 32 = .ok (.if_icmp .ge 94, 3) := by decide +kernel
theorem dX5_reads_35 : decode cX5_reads 35 = .ok (.aload_n 0, 1) := by decide +kernel
theorem dX5_reads_36 : decode cX5_reads 36 = .ok (.getfield 13, 3) := by decide +kernel
theorem dX5_reads_39 : decode cX5_reads 39 = .ok (.bipush 9, 2) := by decide +kernel
theorem dX5_reads_41 : decode cX5_reads 41 = .ok (.iload_n 1, 1) := by decide +kernel
theorem dX5_reads_42 : decode cX5_reads 42 = .ok (.iadd, 1) := by decide +kernel
theorem dX5_reads_43 : decode cX5_reads 43 = .ok (.iload_n 1, 1) := by decide +kernel
theorem dX5_reads_44 : decode cX5_reads 44 = .ok (.ifCond .ne 7, 3) := by decide +kernel
theorem dX5_reads_47 : decode cX5_reads 47 = .ok (.iconst 3, 1) := by decide +kernel
theorem dX5_reads_48 : decode cX5_reads 48 = .ok (.goto 71, 3) := by decide +kernel
theorem dX5_reads_51 : decode cX5_reads 51 = .ok (.iload_n 1, 1) := by decide +kernel
theorem dX5_reads_52 : decode cX5_reads 52 = .ok (.iconst 1, 1) := by decide +kernel
theorem dX5_reads_53 : decode cX5_reads 53 = .ok (.if_icmp .ne 9, 3) := by decide +kernel
theorem dX5_reads_56 : decode cX5_reads 56 = .ok (.sipush 200, 3) := by decide +kernel
theorem dX5_reads_59 : decode cX5_reads 59 = .ok (.goto 60, 3) := by decide +kernel
theorem dX5_reads_62 : decode cX5_reads 62 = .ok (.iload_n 1, 1) := by decide +kernel
theorem dX5_reads_63 : decode cX5_reads 63 = .ok (.iconst 2, 1) := by decide +kernel
theorem dX5_reads_64 : decode cX5_reads 64 = .ok (.if_icmp .ne 8, 3) := by decide +kernel
theorem dX5_reads_67 : decode cX5_reads 67 = .ok (.bipush 10, 2) := by decide +kernel
theorem dX5_reads_69 : decode cX5_reads 69 = .ok (.goto 50, 3) := by decide +kernel
theorem dX5_reads_72 : decode cX5_reads 72 = .ok (.iload_n 1, 1) := by decide +kernel
theorem dX5_reads_73 : decode cX5_reads 73 = .ok (.iconst 3, 1) := by decide +kernel
theorem dX5_reads_74 : decode cX5_reads 74 = .ok (.if_icmp .eq 8, 3) := by decide +kernel
theorem dX5_reads_77 : decode cX5_reads 77 = .ok (.iload_n 1, 1) := by decide +kernel
theorem dX5_reads_78 : decode cX5_reads 78 = .ok (.iconst 4, 1) := by decide +kernel
theorem dX5_reads_79 : decode cX5_reads 79 = .ok (.if_icmp .ne 9, 3) := by decide +kernel
