set_option maxRecDepth 20000 in
theorem ggX5_init_X5_begins : GoodIn wsX5_init wsX5_begins := goodIn_r _ [24, 10, 7, 25, 26, 27, 28, 29, 30, 31, 32, 33, 34, 35, 36, 37, 38, 39, 40, 41, 42, 43, 44, 45, 46, 47, 48, 49] (by decide +kernel) (by decide +kernel)
set_option maxRecDepth 20000 in
theorem gX5_init_X5_begins : GoodIn wsX5_init (wsV RX5 52 RX5 yX5_begins wsX5_begins) := goodIn_app (goodIn_of _ (by decide +kernel)) ggX5_init_X5_begins
theorem dX5_init_0 : decode cX5_init 0 = .ok (.aload_n 0, 1) := by decide +kernel
theorem dX5_init_1 : decode cX5_init 1 = .ok (.invokespecial 1, 3) := by decide +kernel
theorem dX5_init_4 : decode cX5_init 4 = .ok (.aload_n 0, 1) := by decide +kernel
theorem dX5_init_5 : decode cX5_init 5 = .ok (.sipush 300, 3) := by decide +kernel
theorem dX5_init_8 : decode cX5_init 8 = .ok (.newarray .byte, 2) := by decide +kernel
theorem dX5_init_10 : decode cX5_init 10 = .ok (.putfield 7, 3) := by decide +kernel
theorem dX5_init_13 : decode cX5_init 13 = .ok (.aload_n 0, 1) := by decide +kernel
theorem dX5_init_14 : decode cX5_init 14 = .ok (.bipush 18, 2) := by decide +kernel
theorem dX5_init_16 : decode cX5_init 16 = .ok (.newarray .int, 2) := by decide +kernel
theorem dX5_init_18 : decode cX5_init 18 = .ok (.dup, 1) := by decide +kernel
theorem dX5_init_19 : decode cX5_init 19 = .ok (.iconst 0, 1) := by decide +kernel
theorem dX5_init_20 : decode cX5_init 20 = .ok (.iconst 3, 1) := by decide +kernel
theorem dX5_init_21 : decode cX5_init 21 = .ok (.iastore, 1) := by decide +kernel
theorem dX5_init_22 : decode cX5_init 22 = .ok (.dup, 1) := by decide +kernel
theorem dX5_init_23 : decode cX5_init 23 = .ok (.iconst 1, 1) := by decide +kernel
theorem dX5_init_24 : decode cX5_init 24 = .ok (.sipush 200, 3) := by decide +kernel
theorem dX5_init_27 : decode cX5_init 27 = .ok (.iastore, 1) := by decide +kernel
theorem dX5_init_28 : decode cX5_init 28 = .ok (.dup, 1) := by decide +kernel
theorem dX5_init_29 : decode cX5_init 29 = .ok (.iconst 2, 1) := by decide +kernel
theorem dX5_init_30 : decode cX5_init 30 = .ok (.bipush 10, 2) := by decide +kernel
theorem dX5_init_32 : decode cX5_init 32 = .ok (.iastore, 1) := by decide +kernel
theorem dX5_init_33 : decode cX5_init 33 = .ok (.dup, 1) := by decide +kernel
theorem dX5_init_34 : decode cX5_init 34 = .ok (.iconst 3, 1) := by decide +kernel
theorem dX5_init_35 : decode cX5_init 35 = .ok (.sipush 300, 3) := by decide +kernel
theorem dX5_init_38 : decode cX5_init 38 = .ok (.iastore, 1) := by decide +kernel
theorem dX5_init_39 : decode cX5_init 39 = .ok (.dup, 1) := by decide +kernel
theorem dX5_init_40 : decode cX5_init 40 = .ok (.iconst 4, 1) := by decide +kernel
theorem dX5_init_41 : decode cX5_init 41 = .ok (.sipush 300, 3) := by decide +kernel
theorem dX5_init_44 : decode cX5_init 44 = .ok (.iastore, 1) := by decide +kernel
theorem dX5_init_45 : decode cX5_init 45 = .ok (.dup, 1) := by decide +kernel
theorem dX5_init_46 : decode cX5_init 46 = .ok (.iconst 5, 1) := by decide +kernel
theorem dX5_init_47 : decode cX5_init 47 = .ok (.bipush 40, 2) := by decide +kernel
theorem dX5_init_49 : decode cX5_init 49 = .ok (.iastore, 1) := by decide +kernel
theorem dX5_init_50 : decode cX5_init 50 = .ok (.dup, 1) := by decide +kernel
theorem dX5_init_51 : decode cX5_init 51 = .ok (.bipush 6, 2) := by decide +kernel
theorem dX5_init_53 : decode cX5_init 53 = .ok (.iconst 2, 1) := by decide +kernel
theorem dX5_init_54 : decode cX5_init 54 = .ok (.iastore, 1) := by decide +kernel
theorem dX5_init_55 : decode cX5_init 55 = .ok (.dup, 1) := by decide +kernel
theorem dX5_init_56 : decode cX5_init 56 = .ok (.bipush 7, 2) := by decide +kernel
theorem dX5_init_58 : decode cX5_init 58 = .ok (.iconst 4, 1) := by decide +kernel
theorem dX5_init_59 : decode cX5_init 59 = .ok (.iastore, 1) := by decide +kernel
theorem dX5_init_60 : decode cX5_init 60 = .ok (.dup, 1) := by decide +kernel
theorem dX5_init_61 : decode cX5_init 61 = .ok (.bipush 8, 2) := by decide +kernel
theorem dX5_init_63 : decode cX5_init 63 = .ok (.iconst 0, 1) := by decide +kernel
theorem dX5_init_64 : decode cX5_init 64 = .ok (.iastore, 1) := by decide +kernel
theorem dX5_init_65 : decode cX5_init 65 = .ok (.dup, 1) := by decide +kernel
theorem dX5_init_66 : decode cX5_init 66 = .ok (.bipush 9, 2) := by decide +kernel
theorem dX5_init_68 : decode cX5_init 68 = .ok (.iconst 0, 1) := by decide +kernel
theorem dX5_init_69 : decode cX5_init 69 = .ok (.iastore, 1) := by decide +kernel
theorem dX5_init_70 : decode cX5_init 70 = .ok (.dup, 1) := by decide +kernel
theorem dX5_init_71 : decode cX5_init 71 = .ok (.bipush 10, 2) := by decide +kernel
theorem dX5_init_73 : decode cX5_init 73 = .ok (.iconst 0, 1) := by decide +kernel
theorem dX5_init_74 : decode cX5_init 74 = .ok (.iastore, 1) := by decide +kernel
theorem dX5_init_75 : decode cX5_init 75 = .ok (.dup, 1) := by decide +kernel
theorem dX5_init_76 : decode cX5_init 76 = .ok (.bipush 11, 2) := by decide +kernel
theorem dX5_init_78 : decode cX5_init 78 = .ok (.iconst 0, 1) := by decide +kernel
theorem dX5_init_79 : decode cX5_init 79 = .ok (.iastore, 1) := by decide +kernel
theorem dX5_init_80 : decode cX5_init 80 = .ok (.dup, 1) := by decide +kernel
theorem dX5_init_81 : decode cX5_init 81 = .ok (.bipush 12, 2) := by decide +kernel
theorem dX5_init_83 : decode cX5_init 83 = .ok (.iconst 0, 1) := by decide +kernel
theorem dX5_init_84 : decode cX5_init 84 = .ok (.iastore, 1) := by decide +kernel
theorem dX5_init_85 : decode cX5_init 85 = .ok (.dup, 1) := by decide +kernel
theorem dX5_init_86 : decode cX5_init 86 = .ok (.bipush 13, 2) := by decide +kernel
theorem dX5_init_88 : decode cX5_init 88 = .ok (.iconst 0, 1) := by decide +kernel
theorem dX5_init_89 : decode cX5_init 89 = .ok (.iastore, 1) := by decide +kernel
theorem dX5_init_90 : decode cX5_init 90 = .ok (.dup, 1) := by decide +kernel
theorem dX5_init_91 : decode cX5_init 91 = .ok (.bipush 14, 2) := by decide +kernel
theorem dX5_init_93 : decode cX5_init 93 = .ok (.iconst 0, 1) := by decide +kernel
theorem dX5_init_94 : decode cX5_init 94 = .ok (.iastore, 1) := by decide +kernel
theorem dX5_init_95 : decode cX5_init 95 = .ok (.dup, 1) := by decide +kernel
theorem dX5_init_96 : decode cX5_init 96 = .ok (.bipush 15, 2) := by decide +kernel
theorem dX5_init_98 : decode cX5_init 98 = .ok (.iconst 0, 1) := by decide +kernel
theorem dX5_init_99 : decode cX5_init 99 = .ok (.iastore, 1) := by decide +kernel
theorem dX5_init_100 : decode cX5_init 100 = .ok (.dup, 1) := by decide +kernel
theorem dX5_init_101 : decode cX5_init 101 = .ok (.bipush 16, 2) := by decide +kernel
theorem dX5_init_103 : decode cX5_init 103 = .ok (.iconst 0, 1) := by decide +kernel
theorem dX5_init_104 : decode cX5_init 104 = .ok (.iastore, 1) := by decide +kernel
theorem dX5_init_105 : decode cX5_init 105 = .ok (.dup, 1) := by decide +kernel
theorem dX5_init_106 : decode cX5_init 106 = .ok (.bipush 17, 2) := by decide +kernel
theorem dX5_init_108 : decode cX5_init 108 = .ok (.iconst 0, 1) := by decide +kernel
theorem dX5_init_109 : decode cX5_init 109 = .ok (.iastore, 1) := by decide +kernel
theorem dX5_init_110 : decode cX5_init 110 = .ok (.putfield 13, 3) := by decide +kernel
theorem dX5_init_113 : decode cX5_init 113 = .ok (.aload_n 0, 1) := by decide +kernel
theorem dX5_init_114 : decode cX5_init 114 = .ok (.iconst 2, 1) := by decide +kernel
theorem dX5_init_115 : decode cX5_init 115 = .ok (.newarray .int, 2) := by decide +kernel
theorem dX5_init_117 : decode cX5_init 117 = .ok (.putfield 17, 3) := by decide +kernel
theorem dX5_init_120 : decode cX5_init 120 = .ok (.aload_n 0, 1) := by decide +kernel
theorem dX5_init_121 : decode cX5_init 121 = .ok (.bipush 72, 2) := by decide +kernel
theorem dX5_init_123 : decode cX5_init 123 = .ok (.newarray .int, 2) := by decide +kernel
theorem dX5_init_125 : decode cX5_init 125 = .ok (.putfield 20, 3) := by decide +kernel
theorem dX5_init_128 : decode cX5_init 128 = .ok (.aload_n 0, 1) := by decide +kernel
theorem dX5_init_129 : decode cX5_init 129 = .ok (.bipush 80, 2) := by decide +kernel
theorem dX5_init_131 : decode cX5_init 131 = .ok (.newarray .int, 2) := by decide +kernel
theorem dX5_init_133 : decode cX5_init 133 = .ok (.putfield 23, 3) := by decide +kernel
theorem dX5_init_136 : decode cX5_init 136 = .ok (.aload_n 0, 1) := by decide +kernel
theorem dX5_init_137 : decode cX5_init 137 = .ok (.iconst 2, 1) := by decide +kernel
theorem dX5_init_138 : decode cX5_init 138 = .ok (.newarray .boolean, 2) := by decide +kernel
theorem dX5_init_140 : decode cX5_init 140 = .ok (.putfield 26, 3) := by decide +kernel
theorem dX5_init_143 : decode cX5_init 143 = .ok (.aload_n 0, 1) := by decide +kernel
theorem dX5_init_144 : decode cX5_init 144 = .ok (.bipush (-9), 2) := by decide +kernel
theorem dX5_init_146 : decode cX5_init 146 = .ok (.putfield 30, 3) := by decide +kernel
theorem dX5_init_149 : decode cX5_init 149 = .ok (.aload_n 0, 1) := by decide +kernel
theorem dX5_init_150 : decode cX5_init 150 = .ok (.iconst 3, 1) := by decide +kernel
theorem dX5_init_151 : decode cX5_init 151 = .ok (.newarray .int, 2) := by decide +kernel
theorem dX5_init_153 : decode cX5_init 153 = .ok (.putfield 34, 3) := by decide +kernel
theorem dX5_init_156 : decode cX5_init 156 = .ok (.aload_n 0, 1) := by decide +kernel
theorem dX5_init_157 : decode cX5_init 157 = .ok (.iconst 4, 1) := by decide +kernel
theorem dX5_init_158 : decode cX5_init 158 = .ok (.newarray .int, 2) := by decide +kernel
theorem dX5_init_160 : decode cX5_init 160 = .ok (.dup, 1) := by decide +kernel
theorem dX5_init_161 : decode cX5_init 161 = .ok (.iconst 0, 1) := by decide +kernel
theorem dX5_init_162 : decode cX5_init 162 = .ok (.bipush 40, 2) := by decide +kernel
theorem dX5_init_164 : decode cX5_init 164 = .ok (.iastore, 1) := by decide +kernel
theorem dX5_init_165 : decode cX5_init 165 = .ok (.dup, 1) := by decide +kernel
theorem dX5_init_166 : decode cX5_init 166 = .ok (.iconst 1, 1) := by decide +kernel
theorem dX5_init_167 : decode cX5_init 167 = .ok (.bipush 90, 2) := by decide +kernel
theorem dX5_init_169 : decode cX5_init 169 = .ok (.iastore, 1) := by decide +kernel
theorem dX5_init_170 : decode cX5_init 170 = .ok (.dup, 1) := by decide +kernel
theorem dX5_init_171 : decode cX5_init 171 = .ok (.iconst 2, 1) := by decide +kernel
theorem dX5_init_172 : decode cX5_init 172 = .ok (.bipush 90, 2) := by decide +kernel
theorem dX5_init_174 : decode cX5_init 174 = .ok (.iastore, 1) := by decide +kernel
theorem dX5_init_175 : decode cX5_init 175 = .ok (.dup, 1) := by decide +kernel
theorem dX5_init_176 : decode cX5_init 176 = .ok (.iconst 3, 1) := by decide +kernel
theorem dX5_init_177 : decode cX5_init 177 = .ok (.bipush 40, 2) := by decide +kernel
theorem dX5_init_179 : decode cX5_init 179 = .ok (.iastore, 1) := by decide +kernel
theorem dX5_init_180 : decode cX5_init 180 = .ok (.putfield 37, 3) := by decide +kernel
theorem dX5_init_183 : decode cX5_init 183 = .ok (.aload_n 0, 1) := by decide +kernel
theorem dX5_init_184 : decode cX5_init 184 = .ok (.bipush 96, 2) := by decide +kernel
theorem dX5_init_186 : decode cX5_init 186 = .ok (.newarray .int, 2) := by decide +kernel
theorem dX5_init_188 : decode cX5_init 188 = .ok (.putfield 40, 3) := by decide +kernel
theorem dX5_init_191 : decode cX5_init 191 = .ok (.aload_n 0, 1) := by decide +kernel
theorem dX5_init_192 : decode cX5_init 192 = .ok (.iconst 4, 1) := by decide +kernel
theorem dX5_init_193 : decode cX5_init 193 = .ok (.newarray .int, 2) := by decide +kernel
theorem dX5_init_195 : decode cX5_init 195 = .ok (.putfield 43, 3) := by decide +kernel
theorem dX5_init_198 : decode cX5_init 198 = .ok (.aload_n 0, 1) := by decide +kernel
theorem dX5_init_199 : decode cX5_init 199 = .ok (.bipush 20, 2) := by decide +kernel
theorem dX5_init_201 : decode cX5_init 201 = .ok (.newarray .int, 2) := by decide +kernel
theorem dX5_init_203 : decode cX5_init 203 = .ok (.putfield 46, 3) := by decide +kernel
theorem dX5_init_206 : decode cX5_init 206 = .ok (.aload_n 0, 1) := by decide +kernel
theorem dX5_init_207 : decode cX5_init 207 = .ok (.bipush 20, 2) := by decide +kernel
theorem dX5_init_209 : decode cX5_init 209 = .ok (.newarray .int, 2) := by decide +kernel
theorem dX5_init_211 : decode cX5_init 211 = .ok (.putfield 49, 3) := by decide +kernel
theorem dX5_init_214 : decode cX5_init 214 = .ok (.aload_n 0, 1) := by decide +kernel
theorem dX5_init_215 : decode cX5_init 215 = .ok (.iconst 0, 1) := by decide +kernel
theorem dX5_init_216 : decode cX5_init 216 = .ok (.invokevirtual 52, 3) := by decide +kernel
theorem dX5_init_219 : decode cX5_init 219 = .ok (.iconst 0, 1) := by decide +kernel
theorem dX5_init_220 : decode cX5_init 220 = .ok (.istore_n 1, 1) := by decide +kernel
theorem dX5_init_221 : decode cX5_init 221 = .ok (.iconst 0, 1) := by decide +kernel
theorem dX5_init_222 : decode cX5_init 222 = .ok (.istore_n 2, 1) := by decide +kernel
theorem dX5_init_223 : decode cX5_init 223 = .ok (.iload_n 2, 1) := by decide +kernel
theorem dX5_init_224 : decode cX5_init 224 = .ok (.sipush 256, 3) := by decide +kernel
theorem dX5_init_227 : decode cX5_init 227 = .ok (.if_icmp .ge 121, 3) := by decide +kernel
theorem dX5_init_230 : decode cX5_init 230 = .ok (.iload_n 2, 1) := by decide +kernel
theorem dX5_init_231 : decode cX5_init 231 = .ok (.bipush 64, 2) := by decide +kernel
theorem dX5_init_233 : decode cX5_init 233 = .ok (.idiv, 1) := by decide +kernel
theorem dX5_init_234 : decode cX5_init 234 = .ok (.istore_n 3, 1) := by decide +kernel
theorem dX5_init_235 : decode cX5_init 235 = .ok (.iload_n 2, 1) := by decide +kernel
theorem dX5_init_236 : decode cX5_init 236 = .ok (.bipush 16, 2) := by decide +kernel
theorem dX5_init_238 : decode cX5_init 238 = .ok (.idiv, 1) := by decide +kernel
theorem dX5_init_239 : decode cX5_init 239 = .ok (.iconst 4, 1) := by decide +kernel
theorem dX5_init_240 : decode cX5_init 240 = .ok (.irem, 1) := by decide +kernel
theorem dX5_init_241 : decode cX5_init 241 = .ok (.istore 4, 2) := by decide +kernel
theorem dX5_init_243 : decode cX5_init 243 = .ok (.iload_n 2, 1) := by decide +kernel
theorem dX5_init_244 : decode cX5_init 244 = .ok (.iconst 4, 1) := by decide +kernel
theorem dX5_init_245 : decode cX5_init 245 = .ok (.idiv, 1) := by decide +kernel
theorem dX5_init_246 : decode cX5_init 246 = .ok (.iconst 4, 1) := by decide +kernel
theorem dX5_init_247 : decode cX5_init 247 = .ok (.irem, 1) := by decide +kernel
theorem dX5_init_248 : decode cX5_init 248 = .ok (.istore 5, 2) := by decide +kernel
theorem dX5_init_250 : decode cX5_init 250 = .ok (.iload_n 2, 1) := by decide +kernel
theorem dX5_init_251 : decode cX5_init 251 = .ok (.iconst 4, 1) := by decide +kernel
theorem dX5_init_252 : decode cX5_init 252 = .ok (.irem, 1) := by decide +kernel
theorem dX5_init_253 : decode cX5_init 253 = .ok (.istore 6, 2) := by decide +kernel
theorem dX5_init_255 : decode cX5_init 255 = .ok (.iload_n 3, 1) := by decide +kernel
theorem dX5_init_256 : decode cX5_init 256 = .ok (.iload 4, 2) := by decide +kernel
theorem dX5_init_258 : decode cX5_init 258 = .ok (.if_icmp .eq 84, 3) := by decide +kernel
theorem dX5_init_261 : decode cX5_init 261 = .ok (.iload_n 3, 1) := by decide +kernel
theorem dX5_init_262 : decode cX5_init 262 = .ok (.iload 5, 2) := by decide +kernel
theorem dX5_init_264 : decode cX5_init 264 = .ok (.if_icmp .eq 78, 3) := by decide +kernel
theorem dX5_init_267 : decode cX5_init 267 = .ok (.iload_n 3, 1) := by decide +kernel
theorem dX5_init_268 : decode cX5_init 268 = .ok (.iload 6, 2) := by decide +kernel
theorem dX5_init_270 : decode cX5_init 270 = .ok (.if_icmp .eq 72, 3) := by decide +kernel
theorem dX5_init_273 : decode cX5_init 273 = .ok (.iload 4, 2) := by decide +kernel
theorem dX5_init_275 : decode cX5_init 275 = .ok (.iload 5, 2) := by decide +kernel
theorem dX5_init_277 : decode cX5_init 277 = .ok (.if_icmp .eq 65, 3) := by decide +kernel
theorem dX5_init_280 : decode cX5_init 280 = .ok (.iload 4, 2) := by decide +kernel
theorem dX5_init_282 : decode cX5_init 282 = .ok (.iload 6, 2) := by decide +kernel
theorem dX5_init_284 : decode cX5_init 284 = .ok (.if_icmp .eq 58, 3) := by decide +kernel
theorem dX5_init_287 : decode cX5_init 287 = .ok (.iload 5, 2) := by decide +kernel
theorem dX5_init_289 : decode cX5_init 289 = .ok (.iload 6, 2) := by decide +kernel
theorem dX5_init_291 : decode cX5_init 291 = .ok (.if_icmp .eq 51, 3) := by decide +kernel
theorem dX5_init_294 : decode cX5_init 294 = .ok (.aload_n 0, 1) := by decide +kernel
theorem dX5_init_295 : decode cX5_init 295 = .ok (.getfield 40, 3) := by decide +kernel
theorem dX5_init_298 : decode cX5_init 298 = .ok (.iconst 4, 1) := by decide +kernel
theorem dX5_init_299 : decode cX5_init 299 = .ok (.iload_n 1, 1) := by decide +kernel
theorem dX5_init_300 : decode cX5_init 300 = .ok (.imul, 1) := by decide +kernel
theorem dX5_init_301 : decode cX5_init 301 = .ok (.iload_n 3, 1) := by decide +kernel
theorem dX5_init_302 : decode cX5_init 302 = .ok (.iastore, 1) := by decide +kernel
theorem dX5_init_303 : decode cX5_init 303 = .ok (.aload_n 0, 1) := by decide +kernel
theorem dX5_init_304 : decode cX5_init 304 = .ok (.getfield 40, 3) := by decide +kernel
theorem dX5_init_307 : decode cX5_init 307 = .ok (.iconst 4, 1) := by decide +kernel
theorem dX5_init_308 : decode cX5_init 308 = .ok (.iload_n 1, 1) := by decide +kernel
theorem dX5_init_309 : decode cX5_init 309 = .ok (.imul, 1) := by decide +kernel
theorem dX5_init_310 : decode cX5_init 310 = .ok (.iconst 1, 1) := by decide +kernel
theorem dX5_init_311 : decode cX5_init 311 = .ok (.iadd, 1) := by decide +kernel
theorem dX5_init_312 : decode cX5_init 312 = .ok (.iload 4, 2) := by decide +kernel
theorem dX5_init_314 : decode cX5_init 314 = .ok (.iastore, 1) := by decide +kernel
theorem dX5_init_315 : decode cX5_init 315 = .ok (.aload_n 0, 1) := by decide +kernel
theorem dX5_init_316 : decode cX5_init 316 = .ok (.getfield 40, 3) := by decide +kernel
theorem dX5_init_319 : decode cX5_init 319 = .ok (.iconst 4, 1) := by decide +kernel
theorem dX5_init_320 : decode cX5_init 320 = .ok (.iload_n 1, 1) := by decide +kernel
theorem dX5_init_321 : decode cX5_init 321 = .ok (.imul, 1) := by decide +kernel
theorem dX5_init_322 : decode cX5_init 322 = .ok (.iconst 2, 1) := by decide +kernel
theorem dX5_init_323 : decode cX5_init 323 = .ok (.iadd, 1) := by decide +kernel
theorem dX5_init_324 : decode cX5_init 324 = .ok (.iload 5, 2) := by decide +kernel
theorem dX5_init_326 : decode cX5_init 326 = .ok (.iastore, 1) := by decide +kernel
theorem dX5_init_327 : decode cX5_init 327 = .ok (.aload_n 0, 1) := by decide +kernel
theorem dX5_init_328 : decode cX5_init 328 = .ok (.getfield 40, 3) := by decide +kernel
theorem dX5_init_331 : decode cX5_init 331 = .ok (.iconst 4, 1) := by decide +kernel
theorem dX5_init_332 : decode cX5_init 332 = .ok (.iload_n 1, 1) := by decide +kernel
theorem dX5_init_333 : decode cX5_init 333 = .ok (.imul, 1) := by decide +kernel
theorem dX5_init_334 : decode cX5_init 334 = .ok (.iconst 3, 1) := by decide +kernel
theorem dX5_init_335 : decode cX5_init 335 = .ok (.iadd, 1) := by decide +kernel
theorem dX5_init_336 : decode cX5_init 336 = .ok (.iload 6, 2) := by decide +kernel
theorem dX5_init_338 : decode cX5_init 338 = .ok (.iastore, 1) := by decide +kernel
theorem dX5_init_339 : decode cX5_init 339 = .ok (.iinc 1 1, 3) := by decide +kernel
theorem dX5_init_342 : decode cX5_init 342 = .ok (.iinc 2 1, 3) := by decide +kernel
theorem dX5_init_345 : decode cX5_init 345 = .ok (.goto (-122), 3) := by decide +kernel
theorem dX5_init_348 : decode cX5_init 348 = .ok (.return_, 1) := by decide +kernel
theorem dX5_in_0 : decode cX5_in 0 = .ok (.lload_n 0, 1) := by decide +kernel
theorem dX5_in_1 : decode cX5_in 1 = .ok (.lload_n 2, 1) := by decide +kernel
theorem dX5_in_2 : decode cX5_in 2 = .ok (.lcmp, 1) := by decide +kernel
theorem dX5_in_3 : decode cX5_in 3 = .ok (.ifCond .lt 14, 3) := by decide +kernel
theorem dX5_in_6 : decode cX5_in 6 = .ok (.lload_n 0, 1) := by decide +kernel
theorem dX5_in_7 : decode cX5_in 7 = .ok (.lload 4, 2) := by decide +kernel
theorem dX5_in_9 : decode cX5_in 9 = .ok (.lcmp, 1) := by decide +kernel
theorem dX5_in_10 : decode cX5_in 10 = .ok (.ifCond .gt 7, 3) := by decide +kernel
theorem dX5_in_13 : decode cX5_in 13 = .ok (.iconst 1, 1) := by decide +kernel
theorem dX5_in_14 : decode cX5_in 14 = .ok (.goto 4, 3) := by decide +kernel
theorem dX5_in_17 : decode cX5_in 17 = .ok (.iconst 0, 1) := by decide +kernel
theorem dX5_in_18 : decode cX5_in 18 = .ok (.ireturn, 1) := by decide +kernel
set_option maxRecDepth 20000 in
theorem ggX5_type_X5_in : GoodIn wsX5_type wsX5_in := goodIn_r _ [7] (by decide +kernel) (by decide +kernel)
set_option maxRecDepth 20000 in
theorem gX5_type_X5_in : GoodIn wsX5_type (va_wsS RX5 58 yX5_in wsX5_in) := goodIn_app (goodIn_of _ (by decide +kernel)) ggX5_type_X5_in
theorem dX5_type_0 : decode cX5_type 0 = .ok (.iload_n 3, 1) := by decide +kernel
theorem dX5_type_1 : decode cX5_type 1 = .ok (.i2l, 1) := by decide +kernel
theorem dX5_type_2 : decode cX5_type 2 = .ok (.lconst 1, 1) := by decide +kernel
theorem dX5_type_3 : decode cX5_type 3 = .ok (.ldc2_w 56, 3) := by decide +kernel
theorem dX5_type_6 : decode cX5_type 6 = .ok (.invokestatic 58, 3) := by decide +kernel
theorem dX5_type_9 : decode cX5_type 9 = .ok (.ifCond .ne 5, 3) := by decide +kernel
theorem dX5_type_12 : decode cX5_type 12 = .ok (.iconst (-1), 1) := by decide +kernel
theorem dX5_type_13 : decode cX5_type 13 = .ok (.ireturn, 1) := by decide +kernel
theorem dX5_type_14 : decode cX5_type 14 = .ok (.aload_n 0, 1) := by decide +kernel
theorem dX5_type_15 : decode cX5_type 15 = .ok (.getfield 62, 3) := by decide +kernel
theorem dX5_type_18 : decode cX5_type 18 = .ok (.iload_n 3, 1) := by decide +kernel
theorem dX5_type_19 : decode cX5_type 19 = .ok (.iadd, 1) := by decide +kernel
theorem dX5_type_20 : decode cX5_type 20 = .ok (.sipush 300, 3) := by decide +kernel
theorem dX5_type_23 : decode cX5_type 23 = .ok (.if_icmp .le 6, 3) := by decide +kernel
theorem dX5_type_26 : decode cX5_type 26 = .ok (.bipush (-3), 2) := by decide +kernel
theorem dX5_type_28 : decode cX5_type 28 = .ok (.ireturn, 1) := by decide +kernel
theorem dX5_type_29 : decode cX5_type 29 = .ok (.iload_n 3, 1) := by decide +kernel
theorem dX5_type_30 : decode cX5_type 30 = .ok (.iconst 1, 1) := by decide +kernel
theorem dX5_type_31 : decode cX5_type 31 = .ok (.isub, 1) := by decide +kernel
theorem dX5_type_32 : decode cX5_type 32 = .ok (.istore 4, 2) := by decide +kernel
theorem dX5_type_34 : decode cX5_type 34 = .ok (.iload 4, 2) := by decide +kernel
theorem dX5_type_36 : decode cX5_type 36 = .ok (.ifCond .lt 37, 3) := by decide +kernel
theorem dX5_type_39 : decode cX5_type 39 = .ok (.aload_n 0, 1) := by decide +kernel
theorem dX5_type_40 : decode cX5_type 40 = .ok (.getfield 7, 3) := by decide +kernel
theorem dX5_type_43 : decode cX5_type 43 = .ok (.aload_n 0, 1) := by decide +kernel
theorem dX5_type_44 : decode cX5_type 44 = .ok (.getfield 62, 3) := by decide +kernel
theorem dX5_type_47 : decode cX5_type 47 = .ok (.lload_n 1, 1) := by decide +kernel
theorem dX5_type_48 : decode cX5_type 48 = .ok (.bipush 8, 2) := by decide +kernel
theorem dX5_type_50 : decode cX5_type 50 = .ok (.iload 4, 2) := by decide +kernel
theorem dX5_type_52 : decode cX5_type 52 = .ok (.imul, 1) := by decide +kernel
theorem dX5_type_53 : decode cX5_type 53 = .ok (.lshr, 1) := by decide +kernel
theorem dX5_type_54 : decode cX5_type 54 = .ok (.l2i, 1) := by decide +kernel
theorem dX5_type_55 : decode cX5_type 55 = .ok (.i2b, 1) := by decide +kernel
theorem dX5_type_56 : decode cX5_type 56 = .ok (.bastore, 1) := by decide +kernel
theorem dX5_type_57 : decode cX5_type 57 = .ok (.aload_n 0, 1) := by decide +kernel
theorem dX5_type_58 : decode cX5_type 58 = .ok (.dup, 1) := by decide +kernel
theorem dX5_type_59 : decode cX5_type 59 = .ok (.getfield 62, 3) := by decide +kernel
theorem dX5_type_62 : decode cX5_type 62 = .ok (.iconst 1, 1) := by decide +kernel
theorem dX5_type_63 : decode cX5_type 63 = .ok (.iadd, 1) := by decide +kernel
theorem dX5_type_64 : decode cX5_type 64 = .ok (.putfield 62, 3) := by decide +kernel
theorem dX5_type_67 : decode cX5_type 67 = .ok (.iinc 4 (-1), 3) := by decide +kernel
theorem dX5_type_70 : decode cX5_type 70 = .ok (.goto (-36), 3) := by decide +kernel
theorem dX5_type_73 : decode cX5_type 73 = .ok (.aload_n 0, 1) := by decide +kernel
theorem dX5_type_74 : decode cX5_type 74 = .ok (.getfield 62, 3) := by decide +kernel
theorem dX5_type_77 : decode cX5_type 77 = .ok (.ireturn, 1) := by decide +kernel
theorem dX5_clear_0 : decode cX5_clear 0 = .ok (.aload_n 0, 1) := by decide +kernel
theorem dX5_clear_1 : decode cX5_clear 1 = .ok (.getfield 62, 3) := by decide +kernel
theorem dX5_clear_4 : decode cX5_clear 4 = .ok (.istore_n 1, 1) := by decide +kernel
theorem dX5_clear_5 : decode cX5_clear 5 = .ok (.aload_n 0, 1) := by decide +kernel
theorem dX5_clear_6 : decode cX5_clear 6 = .ok (.iconst 0, 1) := by decide +kernel
theorem dX5_clear_7 : decode cX5_clear 7 = .ok (.putfield 62, 3) := by decide +kernel
theorem dX5_clear_10 : decode cX5_clear 10 = .ok (.iload_n 1, 1) := by decide +kernel
theorem dX5_clear_11 : decode cX5_clear 11 = .ok (.ireturn, 1) := by decide +kernel
theorem dX5_blanks_0 : decode cX5_blanks 0 = .ok (.aload_n 0, 1) := by decide +kernel
theorem dX5_blanks_1 : decode cX5_blanks 1 = .ok (.getfield 65, 3) := by decide +kernel
theorem dX5_blanks_4 : decode cX5_blanks 4 = .ok (.aload_n 0, 1) := by decide +kernel
theorem dX5_blanks_5 : decode cX5_blanks 5 = .ok (.getfield 62, 3) := by decide +kernel
theorem dX5_blanks_8 : decode cX5_blanks 8 = .ok (.if_icmp .ge 30, 3) := by decide +kernel
theorem dX5_blanks_11 : decode cX5_blanks 11 = .ok (.aload_n 0, 1) := by decide +kernel
theorem dX5_blanks_12 : decode cX5_blanks 12 = .ok (.getfield 7, 3) := by decide +kernel
theorem dX5_blanks_15 : decode cX5_blanks 15 = .ok (.aload_n 0, 1) := by decide +kernel
theorem dX5_blanks_16 : decode cX5_blanks 16 = .ok (.getfield 65, 3) := by decide +kernel
theorem dX5_blanks_19 : decode cX5_blanks 19 = .ok (.baload, 1) := by decide +kernel
theorem dX5_blanks_20 : decode cX5_blanks 20 = .ok (.bipush 32, 2) := by decide +kernel
theorem dX5_blanks_22 : decode cX5_blanks 22 = .ok (.if_icmp .ne 16, 3) := by decide +kernel
theorem dX5_blanks_25 : decode cX5_blanks 25 = .ok (.aload_n 0, 1) := by decide +kernel
theorem dX5_blanks_26 : decode cX5_blanks 26 = .ok (.dup, 1) := by decide +kernel
theorem dX5_blanks_27 : decode cX5_blanks 27 = .ok (.getfield 65, 3) := by decide +kernel
theorem dX5_blanks_30 : decode cX5_blanks 30 = .ok (.iconst 1, 1) := by decide +kernel
theorem dX5_blanks_31 : decode cX5_blanks 31 = .ok (.iadd, 1) := by decide +kernel
theorem dX5_blanks_32 : decode cX5_blanks 32 = .ok (.putfield 65, 3) := by decide +kernel
theorem dX5_blanks_35 : decode cX5_blanks 35 = .ok (.goto (-35), 3) := by decide +kernel
theorem dX5_blanks_38 : decode cX5_blanks 38 = .ok (.aload_n 0, 1) := by decide +kernel
theorem dX5_blanks_39 : decode cX5_blanks 39 = .ok (.aload_n 0, 1) := by decide +kernel
theorem dX5_blanks_40 : decode cX5_blanks 40 = .ok (.getfield 65, 3) := by decide +kernel
theorem dX5_blanks_43 : decode cX5_blanks 43 = .ok (.putfield 68, 3) := by decide +kernel
theorem dX5_blanks_46 : decode cX5_blanks 46 = .ok (.return_, 1) := by decide +kernel
set_option maxRecDepth 20000 in
theorem ggX5_number_X5_blanks : GoodIn wsX5_number wsX5_blanks := goodIn_r _ [12, 2, 3, 4, 7, 16, 17, 18, 19, 20, 21, 22, 23, 24, 25, 26, 27, 28, 29, 30, 31, 32, 33, 34, 35, 36, 37, 38, 39, 40] (by decide +kernel) (by decide +kernel)
set_option maxRecDepth 20000 in
theorem gX5_number_X5_blanks : GoodIn wsX5_number (wsV RX5 71 RX5 yX5_blanks wsX5_blanks) := goodIn_app (goodIn_of _ (by decide +kernel)) ggX5_number_X5_blanks
set_option maxRecDepth 20000 in
theorem ggX5_number_X5_in : GoodIn wsX5_number wsX5_in := goodIn_r _ [15] (by decide +kernel) (by decide +kernel)
set_option maxRecDepth 20000 in
theorem gX5_number_X5_in : GoodIn wsX5_number (va_wsS RX5 58 yX5_in wsX5_in) := goodIn_app (goodIn_of _ (by decide +kernel)) ggX5_number_X5_in
theorem dX5_number_0 : decode cX5_number 0 = .ok (.aload_n 0, 1) := by decide +kernel
theorem dX5_number_1 : decode cX5_number 1 = .ok (.invokevirtual 71, 3) := by decide +kernel
theorem dX5_number_4 : decode cX5_number 4 = .ok (.aload_n 0, 1) := by decide +kernel
theorem dX5_number_5 : decode cX5_number 5 = .ok (.iconst 0, 1) := by decide +kernel
theorem dX5_number_6 : decode cX5_number 6 = .ok (.putfield 74, 3) := by decide +kernel
theorem dX5_number_9 : decode cX5_number 9 = .ok (.aload_n 0, 1) := by decide +kernel
theorem dX5_number_10 : decode cX5_number 10 = .ok (.getfield 65, 3) := by decide +kernel
theorem dX5_number_13 : decode cX5_number 13 = .ok (.aload_n 0, 1) := by decide +kernel
theorem dX5_number_14 : decode cX5_number 14 = .ok (.getfield 62, 3) := by decide +kernel
theorem dX5_number_17 : decode cX5_number 17 = .ok (.if_icmp .ge 81, 3) := by decide +kernel
theorem dX5_number_20 : decode cX5_number 20 = .ok (.aload_n 0, 1) := by decide +kernel
theorem dX5_number_21 : decode cX5_number 21 = .ok (.getfield 7, 3) := by decide +kernel
theorem dX5_number_24 : decode cX5_number 24 = .ok (.aload_n 0, 1) := by decide +kernel
theorem dX5_number_25 : decode cX5_number 25 = .ok (.getfield 65, 3) := by decide +kernel
theorem dX5_number_28 : decode cX5_number 28 = .ok (.baload, 1) := by decide +kernel
theorem dX5_number_29 : decode cX5_number 29 = .ok (.i2l, 1) := by decide +kernel
theorem dX5_number_30 : decode cX5_number 30 = .ok (.ldc2_w 77, 3) := by decide +kernel
theorem dX5_number_33 : decode cX5_number 33 = .ok (.ldc2_w 79, 3) := by decide +kernel
theorem dX5_number_36 : decode cX5_number 36 = .ok (.invokestatic 58, 3) := by decide +kernel
theorem dX5_number_39 : decode cX5_number 39 = .ok (.ifCond .eq 59, 3) := by decide +kernel
theorem dX5_number_42 : decode cX5_number 42 = .ok (.aload_n 0, 1) := by decide +kernel
theorem dX5_number_43 : decode cX5_number 43 = .ok (.aload_n 0, 1) := by decide +kernel
theorem dX5_number_44 : decode cX5_number 44 = .ok (.getfield 65, 3) := by decide +kernel
theorem dX5_number_47 : decode cX5_number 47 = .ok (.aload_n 0, 1) := by decide +kernel
theorem dX5_number_48 : decode cX5_number 48 = .ok (.getfield 68, 3) := by decide +kernel
theorem dX5_number_51 : decode cX5_number 51 = .ok (.isub, 1) := by decide +kernel
theorem dX5_number_52 : decode cX5_number 52 = .ok (.iconst 3, 1) := by decide +kernel
theorem dX5_number_53 : decode cX5_number 53 = .ok (.if_icmp .ge 26, 3) := by decide +kernel
theorem dX5_number_56 : decode cX5_number 56 = .ok (.bipush 10, 2) := by decide +kernel
theorem dX5_number_58 : decode cX5_number 58 = .ok (.aload_n 0, 1) := by decide +kernel
theorem dX5_number_59 : decode cX5_number 59 = .ok (.getfield 74, 3) := by decide +kernel
theorem dX5_number_62 : decode cX5_number 62 = .ok (.imul, 1) := by decide +kernel
theorem dX5_number_63 : decode cX5_number 63 = .ok (.aload_n 0, 1) := by decide +kernel
theorem dX5_number_64 : decode cX5_number 64 = .ok (.getfield 7, 3) := by decide +kernel
theorem dX5_number_67 : decode cX5_number 67 = .ok (.aload_n 0, 1) := by decide +kernel
theorem dX5_number_68 : decode cX5_number 68 = .ok (.getfield 65, 3) := by decide +kernel
theorem dX5_number_71 : decode cX5_number 71 = .ok (.baload, 1) := by decide +kernel
theorem dX5_number_72 : decode cX5_number 72 = .ok (.iadd, 1) := by decide +kernel
theorem dX5_number_73 : decode cX5_number 73 = .ok (.bipush 48, 2) := by decide +kernel
theorem dX5_number_75 : decode cX5_number 75 = .ok (.isub, 1) := by decide +kernel
theorem dX5_number_76 : decode cX5_number 76 = .ok (.goto 6, 3) := by decide +kernel
theorem dX5_number_79 : decode cX5_number 79 = .ok (.sipush 1000, 3) := by decide +kernel
theorem dX5_number_82 : decode cX5_number 82 = .ok (.putfield 74, 3) := by decide +kernel
theorem dX5_number_85 : decode cX5_number 85 = .ok (.aload_n 0, 1) := by decide +kernel
theorem dX5_number_86 : decode cX5_number 86 = .ok (.dup, 1) := by decide +kernel
theorem dX5_number_87 : decode cX5_number 87 = .ok (.getfield 65, 3) := by decide +kernel
theorem dX5_number_90 : decode cX5_number 90 = .ok (.iconst 1, 1) := by decide +kernel
theorem dX5_number_91 : decode cX5_number 91 = .ok (.iadd, 1) := by decide +kernel
theorem dX5_number_92 : decode cX5_number 92 = .ok (.putfield 65, 3) := by decide +kernel
theorem dX5_number_95 : decode cX5_number 95 = .ok (.goto (-86), 3) := by decide +kernel
theorem dX5_number_98 : decode cX5_number 98 = .ok (.aload_n 0, 1) := by decide +kernel
theorem dX5_number_99 : decode cX5_number 99 = .ok (.getfield 65, 3) := by decide +kernel
theorem dX5_number_102 : decode cX5_number 102 = .ok (.aload_n 0, 1) := by decide +kernel
theorem dX5_number_103 : decode cX5_number 103 = .ok (.getfield 68, 3) := by decide +kernel
theorem dX5_number_106 : decode cX5_number 106 = .ok (.if_icmp .le 34, 3) := by decide +kernel
theorem dX5_number_109 : decode cX5_number 109 = .ok (.aload_n 0, 1) := by decide +kernel
theorem dX5_number_110 : decode cX5_number 110 = .ok (.getfield 7, 3) := by decide +kernel
theorem dX5_number_113 : decode cX5_number 113 = .ok (.aload_n 0, 1) := by decide +kernel
theorem dX5_number_114 : decode cX5_number 114 = .ok (.getfield 68, 3) := by decide +kernel
theorem dX5_number_117 : decode cX5_number 117 = .ok (.baload, 1) := by decide +kernel
theorem dX5_number_118 : decode cX5_number 118 = .ok (.bipush 48, 2) := by decide +kernel
theorem dX5_number_120 : decode cX5_number 120 = .ok (.if_icmp .ne 16, 3) := by decide +kernel
theorem dX5_number_123 : decode cX5_number 123 = .ok (.aload_n 0, 1) := by decide +kernel
theorem dX5_number_124 : decode cX5_number 124 = .ok (.getfield 65, 3) := by decide +kernel
theorem dX5_number_127 : decode cX5_number 127 = .ok (.aload_n 0, 1) := by decide +kernel
theorem dX5_number_128 : decode cX5_number 128 = .ok (.getfield 68, 3) := by decide +kernel
theorem dX5_number_131 : decode cX5_number 131 = .ok (.iconst 1, 1) := by decide +kernel
theorem dX5_number_132 : decode cX5_number 132 = .ok (.iadd, 1) := by decide +kernel
theorem dX5_number_133 : decode cX5_number 133 = .ok (.if_icmp .ne 7, 3) := by decide +kernel
theorem dX5_number_136 : decode cX5_number 136 = .ok (.iconst 1, 1) := by decide +kernel
theorem dX5_number_137 : decode cX5_number 137 = .ok (.goto 4, 3) := by decide +kernel
theorem dX5_number_140 : decode cX5_number 140 = .ok (.iconst 0, 1) := by decide +kernel
theorem dX5_number_141 : decode cX5_number 141 = .ok (.istore_n 3, 1) := by decide +kernel
theorem dX5_number_142 : decode cX5_number 142 = .ok (.iload_n 3, 1) := by decide +kernel
theorem dX5_number_143 : decode cX5_number 143 = .ok (.ifCond .eq 22, 3) := by decide +kernel
theorem dX5_number_146 : decode cX5_number 146 = .ok (.aload_n 0, 1) := by decide +kernel
theorem dX5_number_147 : decode cX5_number 147 = .ok (.getfield 74, 3) := by decide +kernel
theorem dX5_number_150 : decode cX5_number 150 = .ok (.i2l, 1) := by decide +kernel
theorem dX5_number_151 : decode cX5_number 151 = .ok (.iload_n 1, 1) := by decide +kernel
theorem dX5_number_152 : decode cX5_number 152 = .ok (.i2l, 1) := by decide +kernel
theorem dX5_number_153 : decode cX5_number 153 = .ok (.iload_n 2, 1) := by decide +kernel
theorem dX5_number_154 : decode cX5_number 154 = .ok (.i2l, 1) := by decide +kernel
theorem dX5_number_155 : decode cX5_number 155 = .ok (.invokestatic 58, 3) := by decide +kernel
theorem dX5_number_158 : decode cX5_number 158 = .ok (.ifCond .eq 7, 3) := by decide +kernel
theorem dX5_number_161 : decode cX5_number 161 = .ok (.iconst 1, 1) := by decide +kernel
theorem dX5_number_162 : decode cX5_number 162 = .ok (.goto 4, 3) := by decide +kernel
theorem dX5_number_165 : decode cX5_number 165 = .ok (.iconst 0, 1) := by decide +kernel
theorem dX5_number_166 : decode cX5_number 166 = .ok (.ireturn, 1) := by decide +kernel
set_option maxRecDepth 20000 in
theorem ggX5_ends_X5_blanks : GoodIn wsX5_ends wsX5_blanks := goodIn_r _ [9, 1, 3, 4, 2, 10, 11, 12, 13, 14, 15, 16, 17, 18, 19, 20, 21, 22, 23, 24, 25, 26, 27, 28, 29, 30, 31, 32, 33, 34] (by decide +kernel) (by decide +kernel)
set_option maxRecDepth 20000 in
theorem gX5_ends_X5_blanks : GoodIn wsX5_ends (wsV RX5 71 RX5 yX5_blanks wsX5_blanks) := goodIn_app (goodIn_of _ (by decide +kernel)) ggX5_ends_X5_blanks
theorem dX5_ends_0 : decode cX5_ends 0 = .ok (.aload_n 0, 1) := by decide +kernel
theorem dX5_ends_1 : decode cX5_ends 1 = .ok (.invokevirtual 71, 3) := by decide +kernel
theorem dX5_ends_4 : decode cX5_ends 4 = .ok (.aload_n 0, 1) := by decide +kernel
theorem dX5_ends_5 : decode cX5_ends 5 = .ok (.dup, 1) := by decide +kernel
theorem dX5_ends_6 : decode cX5_ends 6 = .ok (.getfield 65, 3) := by decide +kernel
theorem dX5_ends_9 : decode cX5_ends 9 = .ok (.iconst 1, 1) := by decide +kernel
theorem dX5_ends_10 : decode cX5_ends 10 = .ok (.iadd, 1) := by decide +kernel
theorem dX5_ends_11 : decode cX5_ends 11 = .ok (.putfield 65, 3) := by decide +kernel
theorem dX5_ends_14 : decode cX5_ends 14 = .ok (.aload_n 0, 1) := by decide +kernel
theorem dX5_ends_15 : decode cX5_ends 15 = .ok (.getfield 68, 3) := by decide +kernel
theorem dX5_ends_18 : decode cX5_ends 18 = .ok (.aload_n 0, 1) := by decide +kernel
theorem dX5_ends_19 : decode cX5_ends 19 = .ok (.getfield 62, 3) := by decide +kernel
theorem dX5_ends_22 : decode cX5_ends 22 = .ok (.if_icmp .ge 21, 3) := by decide +kernel
theorem dX5_ends_25 : decode cX5_ends 25 = .ok (.aload_n 0, 1) := by decide +kernel
theorem dX5_ends_26 : decode cX5_ends 26 = .ok (.getfield 7, 3) := by decide +kernel
theorem dX5_ends_29 : decode cX5_ends 29 = .ok (.aload_n 0, 1) := by decide +kernel
theorem dX5_ends_30 : decode cX5_ends 30 = .ok (.getfield 68, 3) := by decide +kernel
theorem dX5_ends_33 : decode cX5_ends 33 = .ok (.baload, 1) := by decide +kernel
theorem dX5_ends_34 : decode cX5_ends 34 = .ok (.bipush 59, 2) := by decide +kernel
theorem dX5_ends_36 : decode cX5_ends 36 = .ok (.if_icmp .ne 7, 3) := by decide +kernel
theorem dX5_ends_39 : decode cX5_ends 39 = .ok (.iconst 1, 1) := by decide +kernel
theorem dX5_ends_40 : decode cX5_ends 40 = .ok (.goto 4, 3) := by decide +kernel
theorem dX5_ends_43 : decode cX5_ends 43 = .ok (.iconst 0, 1) := by decide +kernel
theorem dX5_ends_44 : decode cX5_ends 44 = .ok (.ireturn, 1) := by decide +kernel
set_option maxRecDepth 20000 in
theorem ggX5_word_X5_blanks : GoodIn wsX5_word wsX5_blanks := goodIn_r _ [19, 1, 2, 3, 6, 23, 24, 25, 26, 27, 28, 29, 30, 31, 32, 33, 34, 35, 36, 37, 38, 39, 40, 41, 42, 43, 44, 45, 46, 47] (by decide +kernel) (by decide +kernel)
set_option maxRecDepth 20000 in
theorem gX5_word_X5_blanks : GoodIn wsX5_word (wsV RX5 71 RX5 yX5_blanks wsX5_blanks) := goodIn_app (goodIn_of _ (by decide +kernel)) ggX5_word_X5_blanks
set_option maxRecDepth 20000 in
theorem ggX5_word_X5_in : GoodIn wsX5_word wsX5_in := goodIn_r _ [22] (by decide +kernel) (by decide +kernel)
set_option maxRecDepth 20000 in
theorem gX5_word_X5_in : GoodIn wsX5_word (va_wsS RX5 58 yX5_in wsX5_in) := goodIn_app (goodIn_of _ (by decide +kernel)) ggX5_word_X5_in
theorem dX5_word_0 : decode cX5_word 0 = .ok (.aload_n 0, 1) := by decide +kernel
theorem dX5_word_1 : decode cX5_word 1 = .ok (.invokevirtual 71, 3) := by decide +kernel
theorem dX5_word_4 : decode cX5_word 4 = .ok (.lconst 0, 1) := by decide +kernel
theorem dX5_word_5 : decode cX5_word 5 = .ok (.lstore_n 1, 1) := by decide +kernel
theorem dX5_word_6 : decode cX5_word 6 = .ok (.aload_n 0, 1) := by decide +kernel
theorem dX5_word_7 : decode cX5_word 7 = .ok (.getfield 65, 3) := by decide +kernel
theorem dX5_word_10 : decode cX5_word 10 = .ok (.aload_n 0, 1) := by decide +kernel
theorem dX5_word_11 : decode cX5_word 11 = .ok (.getfield 62, 3) := by decide +kernel
theorem dX5_word_14 : decode cX5_word 14 = .ok (.if_icmp .ge 75, 3) := by decide +kernel
theorem dX5_word_17 : decode cX5_word 17 = .ok (.aload_n 0, 1) := by decide +kernel
theorem dX5_word_18 : decode cX5_word 18 = .ok (.getfield 7, 3) := by decide +kernel
theorem dX5_word_21 : decode cX5_word 21 = .ok (.aload_n 0, 1) := by decide +kernel
theorem dX5_word_22 : decode cX5_word 22 = .ok (.getfield 65, 3) := by decide +kernel
theorem dX5_word_25 : decode cX5_word 25 = .ok (.baload, 1) := by decide +kernel
theorem dX5_word_26 : decode cX5_word 26 = .ok (.i2l, 1) := by decide +kernel
theorem dX5_word_27 : decode cX5_word 27 = .ok (.ldc2_w 81, 3) := by decide +kernel
theorem dX5_word_30 : decode cX5_word 30 = .ok (.ldc2_w 83, 3) := by decide +kernel
theorem dX5_word_33 : decode cX5_word 33 = .ok (.invokestatic 58, 3) := by decide +kernel
theorem dX5_word_36 : decode cX5_word 36 = .ok (.ifCond .eq 53, 3) := by decide +kernel
theorem dX5_word_39 : decode cX5_word 39 = .ok (.aload_n 0, 1) := by decide +kernel
theorem dX5_word_40 : decode cX5_word 40 = .ok (.getfield 65, 3) := by decide +kernel
theorem dX5_word_43 : decode cX5_word 43 = .ok (.aload_n 0, 1) := by decide +kernel
theorem dX5_word_44 : decode cX5_word 44 = .ok (.getfield 68, 3) := by decide +kernel
theorem dX5_word_47 : decode cX5_word 47 = .ok (.isub, 1) := by decide +kernel
theorem dX5_word_48 : decode cX5_word 48 = .ok (.bipush 8, 2) := by decide +kernel
theorem dX5_word_50 : decode cX5_word 50 = .ok (.if_icmp .ge 22, 3) := by decide +kernel
theorem dX5_word_53 : decode cX5_word 53 = .ok (.ldc2_w 85, 3) := by decide +kernel
theorem dX5_word_56 : decode cX5_word 56 = .ok (.lload_n 1, 1) := by decide +kernel
theorem dX5_word_57 : decode cX5_word 57 = .ok (.lmul, 1) := by decide +kernel
theorem dX5_word_58 : decode cX5_word 58 = .ok (.aload_n 0, 1) := by decide +kernel
theorem dX5_word_59 : decode cX5_word 59 = .ok (.getfield 7, 3) := by decide +kernel
theorem dX5_word_62 : decode cX5_word 62 = .ok (.aload_n 0, 1) := by decide +kernel
theorem dX5_word_63 : decode cX5_word 63 = .ok (.getfield 65, 3) := by decide +kernel
theorem dX5_word_66 : decode cX5_word 66 = .ok (.baload, 1) := by decide +kernel
theorem dX5_word_67 : decode cX5_word 67 = .ok (.i2l, 1) := by decide +kernel
theorem dX5_word_68 : decode cX5_word 68 = .ok (.ladd, 1) := by decide +kernel
theorem dX5_word_69 : decode cX5_word 69 = .ok (.goto 6, 3) := by decide +kernel
theorem dX5_word_72 : decode cX5_word 72 = .ok (.ldc2_w 87, 3) := by decide +kernel
theorem dX5_word_75 : decode cX5_word 75 = .ok (.lstore_n 1, 1) := by decide +kernel
theorem dX5_word_76 : decode cX5_word 76 = .ok (.aload_n 0, 1) := by decide +kernel
theorem dX5_word_77 : decode cX5_word 77 = .ok (.dup, 1) := by decide +kernel
theorem dX5_word_78 : decode cX5_word 78 = .ok (.getfield 65, 3) := by decide +kernel
theorem dX5_word_81 : decode cX5_word 81 = .ok (.iconst 1, 1) := by decide +kernel
theorem dX5_word_82 : decode cX5_word 82 = .ok (.iadd, 1) := by decide +kernel
theorem dX5_word_83 : decode cX5_word 83 = .ok (.putfield 65, 3) := by decide +kernel
theorem dX5_word_86 : decode cX5_word 86 = .ok (.goto (-80), 3) := by decide +kernel
theorem dX5_word_89 : decode cX5_word 89 = .ok (.lload_n 1, 1) := by decide +kernel
theorem dX5_word_90 : decode cX5_word 90 = .ok (.ldc2_w 89, 3) := by decide +kernel
theorem dX5_word_93 : decode cX5_word 93 = .ok (.lcmp, 1) := by decide +kernel
theorem dX5_word_94 : decode cX5_word 94 = .ok (.ifCond .ne 7, 3) := by decide +kernel
theorem dX5_word_97 : decode cX5_word 97 = .ok (.iconst 0, 1) := by decide +kernel
theorem dX5_word_98 : decode cX5_word 98 = .ok (.goto 64, 3) := by decide +kernel
theorem dX5_word_101 : decode cX5_word 101 = .ok (.lload_n 1, 1) := by decide +kernel
theorem dX5_word_102 : decode cX5_word 102 = .ok (.ldc2_w 91, 3) := by decide +kernel
theorem dX5_word_105 : decode cX5_word 105 = .ok (.lcmp, 1) := by decide +kernel
theorem dX5_word_106 : decode cX5_word 106 = .ok (.ifCond .ne 7, 3) := by decide +kernel
theorem dX5_word_109 : decode cX5_word 109 = .ok (.iconst 1, 1) := by decide +kernel
theorem dX5_word_110 : decode cX5_word 110 = .ok (.goto 52, 3) := by decide +kernel
theorem dX5_word_113 : decode cX5_word 113 = .ok (.lload_n 1, 1) := by decide +kernel
theorem dX5_word_114 : decode cX5_word 114 = .ok (.ldc2_w 93, 3) := by decide +kernel
theorem dX5_word_117 : decode cX5_word 117 = .ok (.lcmp, 1) := by decide +kernel
theorem dX5_word_118 : decode cX5_word 118 = .ok (.ifCond .ne 7, 3) := by decide +kernel
theorem dX5_word_121 : decode cX5_word 121 = .ok (.iconst 2, 1) := by decide +kernel
theorem dX5_word_122 : decode cX5_word 122 = .ok (.goto 40, 3) := by decide +kernel
theorem dX5_word_125 : decode cX5_word 125 = .ok (.lload_n 1, 1) := by decide +kernel
theorem dX5_word_126 : decode cX5_word 126 = .ok (.ldc2_w 95, 3) := by decide +kernel
theorem dX5_word_129 : decode cX5_word 129 = .ok (.lcmp, 1) := by decide +kernel
theorem dX5_word_130 : decode cX5_word 130 = .ok (.ifCond .ne 7, 3) := by decide +kernel
theorem dX5_word_133 : decode cX5_word 133 = .ok (.iconst 3, 1) := by decide +kernel
theorem dX5_word_134 : decode cX5_word 134 = .ok (.goto 28, 3) := by decide +kernel
theorem dX5_word_137 : decode cX5_word 137 = .ok (.lload_n 1, 1) := by decide +kernel
theorem dX5_word_138 : decode cX5_word 138 = .ok (.ldc2_w 97, 3) := by decide +kernel
theorem dX5_word_141 : decode cX5_word 141 = .ok (.lcmp, 1) := by decide +kernel
theorem dX5_word_142 : decode cX5_word 142 = .ok (.ifCond .ne 7, 3) := by decide +kernel
theorem dX5_word_145 : decode cX5_word 145 = .ok (.iconst 4, 1) := by decide +kernel
theorem dX5_word_146 : decode cX5_word 146 = .ok (.goto 16, 3) := by decide +kernel
theorem dX5_word_149 : decode cX5_word 149 = .ok (.lload_n 1, 1) := by decide +kernel
theorem dX5_word_150 : decode cX5_word 150 = .ok (.ldc2_w 99, 3) := by decide +kernel
theorem dX5_word_153 : decode cX5_word 153 = .ok (.lcmp, 1) := by decide +kernel
theorem dX5_word_154 : decode cX5_word 154 = .ok (.ifCond .ne 7, 3) := by decide +kernel
theorem dX5_word_157 : decode cX5_word 157 = .ok (.iconst 5, 1) := by decide +kernel
theorem dX5_word_158 : decode cX5_word 158 = .ok (.goto 4, 3) := by decide +kernel
theorem dX5_word_161 : decode cX5_word 161 = .ok (.iconst (-1), 1) := by decide +kernel
theorem dX5_word_162 : decode cX5_word 162 = .ok (.ireturn, 1) := by decide +kernel
theorem dX5_highest_0 : decode cX5_highest 0 = .ok (.iload_n 0, 1) := by decide +kernel
theorem dX5_highest_1 : decode cX5_highest 1 = .ok (.ifCond .ne 8, 3) := by decide +kernel
theorem dX5_highest_4 : decode cX5_highest 4 = .ok (.bipush 9, 2) := by decide +kernel
theorem dX5_highest_6 : decode cX5_highest 6 = .ok (.goto 27, 3) := by decide +kernel
theorem dX5_highest_9 : decode cX5_highest 9 = .ok (.iload_n 0, 1) := by decide +kernel
theorem dX5_highest_10 : decode cX5_highest 10 = .ok (.iconst 2, 1) := by decide +kernel
theorem dX5_highest_11 : decode cX5_highest 11 = .ok (.if_icmp .ne 8, 3) := by decide +kernel
theorem dX5_highest_14 : decode cX5_highest 14 = .ok (.bipush 99, 2) := by decide +kernel
theorem dX5_highest_16 : decode cX5_highest 16 = .ok (.goto 17, 3) := by decide +kernel
theorem dX5_highest_19 : decode cX5_highest 19 = .ok (.iload_n 0, 1) := by decide +kernel
theorem dX5_highest_20 : decode cX5_highest 20 = .ok (.bipush 6, 2) := by decide +kernel
theorem dX5_highest_22 : decode cX5_highest 22 = .ok (.if_icmp .ne 8, 3) := by decide +kernel
theorem dX5_highest_25 : decode cX5_highest 25 = .ok (.bipush 10, 2) := by decide +kernel
theorem dX5_highest_27 : decode cX5_highest 27 = .ok (.goto 6, 3) := by decide +kernel
theorem dX5_highest_30 : decode cX5_highest 30 = .ok (.sipush 999, 3) := by decide +kernel
theorem dX5_highest_33 : decode cX5_highest 33 = .ok (.ireturn, 1) := by decide +kernel
set_option maxRecDepth 20000 in
theorem ggX5_isSkin_X5_highest : GoodIn wsX5_isSkin wsX5_highest := goodIn_r _ [7] (by decide +kernel) (by decide +kernel)
set_option maxRecDepth 20000 in
theorem gX5_isSkin_X5_highest : GoodIn wsX5_isSkin (va_wsS RX5 105 yX5_highest wsX5_highest) := goodIn_app (goodIn_of _ (by decide +kernel)) ggX5_isSkin_X5_highest
set_option maxRecDepth 20000 in
theorem ggX5_isSkin_X5_number : GoodIn wsX5_isSkin wsX5_number := goodIn_r _ [11, 3, 12, 13, 14, 15, 16, 17, 18, 19, 20, 6, 21, 22, 23, 24, 25, 26, 27, 28, 29, 30, 31, 32, 33, 34, 35, 36, 37, 38, 39, 40, 41, 42, 43, 44, 45, 46, 47, 48, 49] (by decide +kernel) (by decide +kernel)
set_option maxRecDepth 20000 in
theorem gX5_isSkin_X5_number : GoodIn wsX5_isSkin (wsV RX5 109 RX5 yX5_number wsX5_number) := goodIn_app (goodIn_of _ (by decide +kernel)) ggX5_isSkin_X5_number
theorem dX5_isSkin_0 : decode cX5_isSkin 0 = .ok (.aload_n 0, 1) := by decide +kernel
theorem dX5_isSkin_1 : decode cX5_isSkin 1 = .ok (.getfield 101, 3) := by decide +kernel
theorem dX5_isSkin_4 : decode cX5_isSkin 4 = .ok (.ifCond .ne 7, 3) := by decide +kernel
theorem dX5_isSkin_7 : decode cX5_isSkin 7 = .ok (.iconst 1, 1) := by decide +kernel
theorem dX5_isSkin_8 : decode cX5_isSkin 8 = .ok (.goto 4, 3) := by decide +kernel
theorem dX5_isSkin_11 : decode cX5_isSkin 11 = .ok (.iconst 0, 1) := by decide +kernel
theorem dX5_isSkin_12 : decode cX5_isSkin 12 = .ok (.istore_n 1, 1) := by decide +kernel
theorem dX5_isSkin_13 : decode cX5_isSkin 13 = .ok (.aload_n 0, 1) := by decide +kernel
theorem dX5_isSkin_14 : decode cX5_isSkin 14 = .ok (.iconst 1, 1) := by decide +kernel
theorem dX5_isSkin_15 : decode cX5_isSkin 15 = .ok (.putfield 101, 3) := by decide +kernel
theorem dX5_isSkin_18 : decode cX5_isSkin 18 = .ok (.iconst 0, 1) := by decide +kernel
theorem dX5_isSkin_19 : decode cX5_isSkin 19 = .ok (.istore_n 2, 1) := by decide +kernel
theorem dX5_isSkin_20 : decode cX5_isSkin 20 = .ok (.iload_n 2, 1) := by decide +kernel
theorem dX5_isSkin_21 : decode cX5_isSkin 21 = .ok (.bipush 7, 2) := by decide +kernel
theorem dX5_isSkin_23 : decode cX5_isSkin 23 = .ok (.if_icmp .ge 50, 3) := by decide +kernel
theorem dX5_isSkin_26 : decode cX5_isSkin 26 = .ok (.iload_n 1, 1) := by decide +kernel
theorem dX5_isSkin_27 : decode cX5_isSkin 27 = .ok (.ifCond .eq 46, 3) := by decide +kernel
theorem dX5_isSkin_30 : decode cX5_isSkin 30 = .ok (.aload_n 0, 1) := by decide +kernel
theorem dX5_isSkin_31 : decode cX5_isSkin 31 = .ok (.iload_n 2, 1) := by decide +kernel
theorem dX5_isSkin_32 : decode cX5_isSkin 32 = .ok (.iconst 2, 1) := by decide +kernel
theorem dX5_isSkin_33 : decode cX5_isSkin 33 = .ok (.if_icmp .lt 8, 3) := by decide +kernel
theorem dX5_isSkin_36 : decode cX5_isSkin 36 = .ok (.iload_n 2, 1) := by decide +kernel
theorem dX5_isSkin_37 : decode cX5_isSkin 37 = .ok (.iconst 4, 1) := by decide +kernel
theorem dX5_isSkin_38 : decode cX5_isSkin 38 = .ok (.if_icmp .ne 7, 3) := by decide +kernel
theorem dX5_isSkin_41 : decode cX5_isSkin 41 = .ok (.iconst 1, 1) := by decide +kernel
theorem dX5_isSkin_42 : decode cX5_isSkin 42 = .ok (.goto 4, 3) := by decide +kernel
theorem dX5_isSkin_45 : decode cX5_isSkin 45 = .ok (.iconst 0, 1) := by decide +kernel
theorem dX5_isSkin_46 : decode cX5_isSkin 46 = .ok (.iload_n 2, 1) := by decide +kernel
theorem dX5_isSkin_47 : decode cX5_isSkin 47 = .ok (.invokestatic 105, 3) := by decide +kernel
theorem dX5_isSkin_50 : decode cX5_isSkin 50 = .ok (.invokevirtual 109, 3) := by decide +kernel
theorem dX5_isSkin_53 : decode cX5_isSkin 53 = .ok (.istore_n 1, 1) := by decide +kernel
theorem dX5_isSkin_54 : decode cX5_isSkin 54 = .ok (.aload_n 0, 1) := by decide +kernel
theorem dX5_isSkin_55 : decode cX5_isSkin 55 = .ok (.getfield 13, 3) := by decide +kernel
theorem dX5_isSkin_58 : decode cX5_isSkin 58 = .ok (.bipush 9, 2) := by decide +kernel
theorem dX5_isSkin_60 : decode cX5_isSkin 60 = .ok (.iload_n 2, 1) := by decide +kernel
theorem dX5_isSkin_61 : decode cX5_isSkin 61 = .ok (.iadd, 1) := by decide +kernel
theorem dX5_isSkin_62 : decode cX5_isSkin 62 = .ok (.aload_n 0, 1) := by decide +kernel
theorem dX5_isSkin_63 : decode cX5_isSkin 63 = .ok (.getfield 74, 3) := by decide +kernel
theorem dX5_isSkin_66 : decode cX5_isSkin 66 = .ok (.iastore, 1) := by decide +kernel
theorem dX5_isSkin_67 : decode cX5_isSkin 67 = .ok (.iinc 2 1, 3) := by decide +kernel
theorem dX5_isSkin_70 : decode cX5_isSkin 70 = .ok (.goto (-50), 3) := by decide +kernel
theorem dX5_isSkin_73 : decode cX5_isSkin 73 = .ok (.iload_n 1, 1) := by decide +kernel
theorem dX5_isSkin_74 : decode cX5_isSkin 74 = .ok (.ireturn, 1) := by decide +kernel
set_option maxRecDepth 20000 in
theorem ggX5_isBend_X5_number : GoodIn wsX5_isBend wsX5_number := goodIn_r _ [8, 3, 9, 10, 11, 12, 13, 14, 15, 16, 17, 7, 18, 19, 20, 21, 22, 23, 24, 25, 26, 27, 28, 29, 30, 31, 32, 33, 34, 35, 36, 37, 38, 39, 40, 41, 42, 43, 44, 45, 46] (by decide +kernel) (by decide +kernel)
set_option maxRecDepth 20000 in
theorem gX5_isBend_X5_number : GoodIn wsX5_isBend (wsV RX5 109 RX5 yX5_number wsX5_number) := goodIn_app (goodIn_of _ (by decide +kernel)) ggX5_isBend_X5_number
theorem dX5_isBend_0 : decode cX5_isBend 0 = .ok (.aload_n 0, 1) := by decide +kernel
theorem dX5_isBend_1 : decode cX5_isBend 1 = .ok (.getfield 113, 3) := by decide +kernel
theorem dX5_isBend_4 : decode cX5_isBend 4 = .ok (.ifCond .ne 12, 3) := by decide +kernel
theorem dX5_isBend_7 : decode cX5_isBend 7 = .ok (.aload_n 0, 1) := by decide +kernel
theorem dX5_isBend_8 : decode cX5_isBend 8 = .ok (.iconst 0, 1) := by decide +kernel
theorem dX5_isBend_9 : decode cX5_isBend 9 = .ok (.iconst 3, 1) := by decide +kernel
theorem dX5_isBend_10 : decode cX5_isBend 10 = .ok (.invokevirtual 109, 3) := by decide +kernel
theorem dX5_isBend_13 : decode cX5_isBend 13 = .ok (.ifCond .ne 5, 3) := by decide +kernel
theorem dX5_isBend_16 : decode cX5_isBend 16 = .ok (.iconst 0, 1) := by decide +kernel
theorem dX5_isBend_17 : decode cX5_isBend 17 = .ok (.ireturn, 1) := by decide +kernel
theorem dX5_isBend_18 : decode cX5_isBend 18 = .ok (.aload_n 0, 1) := by decide +kernel
theorem dX5_isBend_19 : decode cX5_isBend 19 = .ok (.iconst 1, 1) := by decide +kernel
theorem dX5_isBend_20 : decode cX5_isBend 20 = .ok (.putfield 113, 3) := by decide +kernel
theorem dX5_isBend_23 : decode cX5_isBend 23 = .ok (.aload_n 0, 1) := by decide +kernel
theorem dX5_isBend_24 : decode cX5_isBend 24 = .ok (.getfield 13, 3) := by decide +kernel
theorem dX5_isBend_27 : decode cX5_isBend 27 = .ok (.bipush 16, 2) := by decide +kernel
theorem dX5_isBend_29 : decode cX5_isBend 29 = .ok (.aload_n 0, 1) := by decide +kernel
theorem dX5_isBend_30 : decode cX5_isBend 30 = .ok (.getfield 74, 3) := by decide +kernel
theorem dX5_isBend_33 : decode cX5_isBend 33 = .ok (.iastore, 1) := by decide +kernel
theorem dX5_isBend_34 : decode cX5_isBend 34 = .ok (.aload_n 0, 1) := by decide +kernel
theorem dX5_isBend_35 : decode cX5_isBend 35 = .ok (.iconst 0, 1) := by decide +kernel
theorem dX5_isBend_36 : decode cX5_isBend 36 = .ok (.bipush 99, 2) := by decide +kernel
theorem dX5_isBend_38 : decode cX5_isBend 38 = .ok (.invokevirtual 109, 3) := by decide +kernel
theorem dX5_isBend_41 : decode cX5_isBend 41 = .ok (.istore_n 1, 1) := by decide +kernel
theorem dX5_isBend_42 : decode cX5_isBend 42 = .ok (.aload_n 0, 1) := by decide +kernel
theorem dX5_isBend_43 : decode cX5_isBend 43 = .ok (.getfield 13, 3) := by decide +kernel
theorem dX5_isBend_46 : decode cX5_isBend 46 = .ok (.bipush 17, 2) := by decide +kernel
theorem dX5_isBend_48 : decode cX5_isBend 48 = .ok (.aload_n 0, 1) := by decide +kernel
theorem dX5_isBend_49 : decode cX5_isBend 49 = .ok (.getfield 74, 3) := by decide +kernel
theorem dX5_isBend_52 : decode cX5_isBend 52 = .ok (.iastore, 1) := by decide +kernel
theorem dX5_isBend_53 : decode cX5_isBend 53 = .ok (.iload_n 1, 1) := by decide +kernel
theorem dX5_isBend_54 : decode cX5_isBend 54 = .ok (.ireturn, 1) := by decide +kernel
set_option maxRecDepth 20000 in
theorem ggX5_isDoing_X5_number : GoodIn wsX5_isDoing wsX5_number := goodIn_r _ [8, 3, 9, 10, 11, 12, 13, 14, 15, 16, 17, 7, 18, 19, 20, 21, 22, 23, 24, 25, 26, 27, 28, 29, 30, 31, 32, 33, 34, 35, 36, 37, 38, 39, 40, 41, 42, 43, 44, 45, 46] (by decide +kernel) (by decide +kernel)
set_option maxRecDepth 20000 in
theorem gX5_isDoing_X5_number : GoodIn wsX5_isDoing (wsV RX5 109 RX5 yX5_number wsX5_number) := goodIn_app (goodIn_of _ (by decide +kernel)) ggX5_isDoing_X5_number
theorem dX5_isDoing_0 : decode cX5_isDoing 0 = .ok (.bipush 36, 2) := by decide +kernel
theorem dX5_isDoing_2 : decode cX5_isDoing 2 = .ok (.iconst 3, 1) := by decide +kernel
theorem dX5_isDoing_3 : decode cX5_isDoing 3 = .ok (.aload_n 0, 1) := by decide +kernel
theorem dX5_isDoing_4 : decode cX5_isDoing 4 = .ok (.getfield 17, 3) := by decide +kernel
theorem dX5_isDoing_7 : decode cX5_isDoing 7 = .ok (.iconst 1, 1) := by decide +kernel
theorem dX5_isDoing_8 : decode cX5_isDoing 8 = .ok (.iaload, 1) := by decide +kernel
theorem dX5_isDoing_9 : decode cX5_isDoing 9 = .ok (.imul, 1) := by decide +kernel
theorem dX5_isDoing_10 : decode cX5_isDoing 10 = .ok (.iadd, 1) := by decide +kernel
theorem dX5_isDoing_11 : decode cX5_isDoing 11 = .ok (.istore_n 2, 1) := by decide +kernel
theorem dX5_isDoing_12 : decode cX5_isDoing 12 = .ok (.aload_n 0, 1) := by decide +kernel
theorem dX5_isDoing_13 : decode cX5_isDoing 13 = .ok (.getfield 17, 3) := by decide +kernel
theorem dX5_isDoing_16 : decode cX5_isDoing 16 = .ok (.iconst 1, 1) := by decide +kernel
theorem dX5_isDoing_17 : decode cX5_isDoing 17 = .ok (.iaload, 1) := by decide +kernel
theorem dX5_isDoing_18 : decode cX5_isDoing 18 = .ok (.bipush 12, 2) := by decide +kernel
theorem dX5_isDoing_20 : decode cX5_isDoing 20 = .ok (.if_icmp .eq 60, 3) := by decide +kernel
theorem dX5_isDoing_23 : decode cX5_isDoing 23 = .ok (.aload_n 0, 1) := by decide +kernel
theorem dX5_isDoing_24 : decode cX5_isDoing 24 = .ok (.iload_n 1, 1) := by decide +kernel
theorem dX5_isDoing_25 : decode cX5_isDoing 25 = .ok (.iconst 3, 1) := by decide +kernel
theorem dX5_isDoing_26 : decode cX5_isDoing 26 = .ok (.if_icmp .ne 8, 3) := by decide +kernel
theorem dX5_isDoing_29 : decode cX5_isDoing 29 = .ok (.bipush 20, 2) := by decide +kernel
theorem dX5_isDoing_31 : decode cX5_isDoing 31 = .ok (.goto 12, 3) := by decide +kernel
theorem dX5_isDoing_34 : decode cX5_isDoing 34 = .ok (.iload_n 1, 1) := by decide +kernel
theorem dX5_isDoing_35 : decode cX5_isDoing 35 = .ok (.ifCond .ne 7, 3) := by decide +kernel
theorem dX5_isDoing_38 : decode cX5_isDoing 38 = .ok (.iconst 0, 1) := by decide +kernel
theorem dX5_isDoing_39 : decode cX5_isDoing 39 = .ok (.goto 4, 3) := by decide +kernel
theorem dX5_isDoing_42 : decode cX5_isDoing 42 = .ok (.iconst 1, 1) := by decide +kernel
theorem dX5_isDoing_43 : decode cX5_isDoing 43 = .ok (.iload_n 1, 1) := by decide +kernel
theorem dX5_isDoing_44 : decode cX5_isDoing 44 = .ok (.ifCond .ne 9, 3) := by decide +kernel
theorem dX5_isDoing_47 : decode cX5_isDoing 47 = .ok (.sipush 300, 3) := by decide +kernel
theorem dX5_isDoing_50 : decode cX5_isDoing 50 = .ok (.goto 24, 3) := by decide +kernel
theorem dX5_isDoing_53 : decode cX5_isDoing 53 = .ok (.iload_n 1, 1) := by decide +kernel
theorem dX5_isDoing_54 : decode cX5_isDoing 54 = .ok (.iconst 1, 1) := by decide +kernel
theorem dX5_isDoing_55 : decode cX5_isDoing 55 = .ok (.if_icmp .ne 7, 3) := by decide +kernel
theorem dX5_isDoing_58 : decode cX5_isDoing 58 = .ok (.iconst 3, 1) := by decide +kernel
theorem dX5_isDoing_59 : decode cX5_isDoing 59 = .ok (.goto 15, 3) := by decide +kernel
theorem dX5_isDoing_62 : decode cX5_isDoing 62 = .ok (.iload_n 1, 1) := by decide +kernel
theorem dX5_isDoing_63 : decode cX5_isDoing 63 = .ok (.iconst 2, 1) := by decide +kernel
theorem dX5_isDoing_64 : decode cX5_isDoing 64 = .ok (.if_icmp .ne 8, 3) := by decide +kernel
theorem dX5_isDoing_67 : decode cX5_isDoing 67 = .ok (.bipush 9, 2) := by decide +kernel
theorem dX5_isDoing_69 : decode cX5_isDoing 69 = .ok (.goto 5, 3) := by decide +kernel
theorem dX5_isDoing_72 : decode cX5_isDoing 72 = .ok (.bipush 100, 2) := by decide +kernel
theorem dX5_isDoing_74 : decode cX5_isDoing 74 = .ok (.invokevirtual 109, 3) := by decide +kernel
theorem dX5_isDoing_77 : decode cX5_isDoing 77 = .ok (.ifCond .ne 5, 3) := by decide +kernel
theorem dX5_isDoing_80 : decode cX5_isDoing 80 = .ok (.iconst 0, 1) := by decide +kernel
theorem dX5_isDoing_81 : decode cX5_isDoing 81 = .ok (.ireturn, 1) := by decide +kernel
theorem dX5_isDoing_82 : decode cX5_isDoing 82 = .ok (.aload_n 0, 1) := by decide +kernel
theorem dX5_isDoing_83 : decode cX5_isDoing 83 = .ok (.getfield 20, 3) := by decide +kernel
theorem dX5_isDoing_86 : decode cX5_isDoing 86 = .ok (.iload_n 2, 1) := by decide +kernel
theorem dX5_isDoing_87 : decode cX5_isDoing 87 = .ok (.iload_n 1, 1) := by decide +kernel
theorem dX5_isDoing_88 : decode cX5_isDoing 88 = .ok (.iastore, 1) := by decide +kernel
theorem dX5_isDoing_89 : decode cX5_isDoing 89 = .ok (.aload_n 0, 1) := by decide +kernel
theorem dX5_isDoing_90 : decode cX5_isDoing 90 = .ok (.getfield 20, 3) := by decide +kernel
theorem dX5_isDoing_93 : decode cX5_isDoing 93 = .ok (.iload_n 2, 1) := by decide +kernel
theorem dX5_isDoing_94 : decode cX5_isDoing 94 = .ok (.iconst 1, 1) := by decide +kernel
theorem dX5_isDoing_95 : decode cX5_isDoing 95 = .ok (.iadd, 1) := by decide +kernel
theorem dX5_isDoing_96 : decode cX5_isDoing 96 = .ok (.aload_n 0, 1) := by decide +kernel
theorem dX5_isDoing_97 : decode cX5_isDoing 97 = .ok (.getfield 74, 3) := by decide +kernel
theorem dX5_isDoing_100 : decode cX5_isDoing 100 = .ok (.iastore, 1) := by decide +kernel
theorem dX5_isDoing_101 : decode cX5_isDoing 101 = .ok (.aload_n 0, 1) := by decide +kernel
theorem dX5_isDoing_102 : decode cX5_isDoing 102 = .ok (.getfield 20, 3) := by decide +kernel
theorem dX5_isDoing_105 : decode cX5_isDoing 105 = .ok (.iload_n 2, 1) := by decide +kernel
theorem dX5_isDoing_106 : decode cX5_isDoing 106 = .ok (.iconst 2, 1) := by decide +kernel
theorem dX5_isDoing_107 : decode cX5_isDoing 107 = .ok (.iadd, 1) := by decide +kernel
theorem dX5_isDoing_108 : decode cX5_isDoing 108 = .ok (.iconst 0, 1) := by decide +kernel
theorem dX5_isDoing_109 : decode cX5_isDoing 109 = .ok (.iastore, 1) := by decide +kernel
theorem dX5_isDoing_110 : decode cX5_isDoing 110 = .ok (.iload_n 1, 1) := by decide +kernel
theorem dX5_isDoing_111 : decode cX5_isDoing 111 = .ok (.ifCond .eq 8, 3) := by decide +kernel
theorem dX5_isDoing_114 : decode cX5_isDoing 114 = .ok (.iload_n 1, 1) := by decide +kernel
theorem dX5_isDoing_115 : decode cX5_isDoing 115 = .ok (.iconst 3, 1) := by decide +kernel
theorem dX5_isDoing_116 : decode cX5_isDoing 116 = .ok (.if_icmp .ne 27, 3) := by decide +kernel
theorem dX5_isDoing_119 : decode cX5_isDoing 119 = .ok (.aload_n 0, 1) := by decide +kernel
theorem dX5_isDoing_120 : decode cX5_isDoing 120 = .ok (.iconst 1, 1) := by decide +kernel
theorem dX5_isDoing_121 : decode cX5_isDoing 121 = .ok (.bipush 99, 2) := by decide +kernel
theorem dX5_isDoing_123 : decode cX5_isDoing 123 = .ok (.invokevirtual 109, 3) := by decide +kernel
theorem dX5_isDoing_126 : decode cX5_isDoing 126 = .ok (.ifCond .ne 5, 3) := by decide +kernel
theorem dX5_isDoing_129 : decode cX5_isDoing 129 = .ok (.iconst 0, 1) := by decide +kernel
theorem dX5_isDoing_130 : decode cX5_isDoing 130 = .ok (.ireturn, 1) := by decide +kernel
theorem dX5_isDoing_131 : decode cX5_isDoing 131 = .ok (.aload_n 0, 1) := by decide +kernel
theorem dX5_isDoing_132 : decode cX5_isDoing 132 = .ok (.getfield 20, 3) := by decide +kernel
theorem dX5_isDoing_135 : decode cX5_isDoing 135 = .ok (.iload_n 2, 1) := by decide +kernel
theorem dX5_isDoing_136 : decode cX5_isDoing 136 = .ok (.iconst 2, 1) := by decide +kernel
theorem dX5_isDoing_137 : decode cX5_isDoing 137 = .ok (.iadd, 1) := by decide +kernel
theorem dX5_isDoing_138 : decode cX5_isDoing 138 = .ok (.aload_n 0, 1) := by decide +kernel
theorem dX5_isDoing_139 : decode cX5_isDoing 139 = .ok (.getfield 74, 3) := by decide +kernel
theorem dX5_isDoing_142 : decode cX5_isDoing 142 = .ok (.iastore, 1) := by decide +kernel
theorem dX5_isDoing_143 : decode cX5_isDoing 143 = .ok (.aload_n 0, 1) := by decide +kernel
theorem dX5_isDoing_144 : decode cX5_isDoing 144 = .ok (.getfield 17, 3) := by decide +kernel
theorem dX5_isDoing_147 : decode cX5_isDoing 147 = .ok (.iconst 1, 1) := by decide +kernel
theorem dX5_isDoing_148 : decode cX5_isDoing 148 = .ok (.dup2, 1) := by decide +kernel
theorem dX5_isDoing_149 : decode cX5_isDoing 149 = .ok (.iaload, 1) := by decide +kernel
theorem dX5_isDoing_150 : decode cX5_isDoing 150 = .ok (.iconst 1, 1) := by decide +kernel
theorem dX5_isDoing_151 : decode cX5_isDoing 151 = .ok (.iadd, 1) := by decide +kernel
theorem dX5_isDoing_152 : decode cX5_isDoing 152 = .ok (.iastore, 1) := by decide +kernel
theorem dX5_isDoing_153 : decode cX5_isDoing 153 = .ok (.iconst 1, 1) := by decide +kernel
theorem dX5_isDoing_154 : decode cX5_isDoing 154 = .ok (.ireturn, 1) := by decide +kernel
set_option maxRecDepth 20000 in
theorem ggX5_isItem_X5_word : GoodIn wsX5_isItem wsX5_word := goodIn_r _ [5, 6, 7, 8, 9, 10, 11, 12, 13, 14, 15, 16, 17, 18, 19, 20, 21, 22, 4, 23, 24, 25, 26, 58, 59, 60, 61, 62, 63, 64, 65, 66, 67, 68, 69, 70, 71, 72, 73, 74, 75, 76, 77, 78, 79, 80, 81, 82] (by decide +kernel) (by decide +kernel)
set_option maxRecDepth 20000 in
theorem gX5_isItem_X5_word : GoodIn wsX5_isItem (wsV RX5 116 RX5 yX5_word wsX5_word) := goodIn_app (goodIn_of _ (by decide +kernel)) ggX5_isItem_X5_word
set_option maxRecDepth 20000 in
theorem ggX5_isItem_X5_isSkin : GoodIn wsX5_isItem wsX5_isSkin := goodIn_r _ [30, 31, 32, 33, 34, 35, 4, 36, 37, 38, 39, 40, 6, 7, 8, 41, 42, 11, 20, 21, 22, 23, 24, 25, 26, 58, 59, 60, 61, 62, 63, 64, 65, 66, 67, 68, 69, 70, 71, 72, 73, 74, 75, 76, 77, 78, 79, 80, 81, 82] (by decide +kernel) (by decide +kernel)
set_option maxRecDepth 20000 in
theorem gX5_isItem_X5_isSkin : GoodIn wsX5_isItem (wsV RX5 120 RX5 yX5_isSkin wsX5_isSkin) := goodIn_app (goodIn_of _ (by decide +kernel)) ggX5_isItem_X5_isSkin
set_option maxRecDepth 20000 in
theorem ggX5_isItem_X5_isBend : GoodIn wsX5_isItem wsX5_isBend := goodIn_r _ [46, 47, 32, 33, 37, 38, 39, 4, 40, 6, 7, 8, 41, 42, 11, 20, 21, 22, 23, 24, 25, 26, 58, 59, 60, 61, 62, 63, 64, 65, 66, 67, 68, 69, 70, 71, 72, 73, 74, 75, 76, 77, 78, 79, 80, 81, 82] (by decide +kernel) (by decide +kernel)
set_option maxRecDepth 20000 in
theorem gX5_isItem_X5_isBend : GoodIn wsX5_isItem (wsV RX5 124 RX5 yX5_isBend wsX5_isBend) := goodIn_app (goodIn_of _ (by decide +kernel)) ggX5_isItem_X5_isBend
set_option maxRecDepth 20000 in
theorem ggX5_isItem_X5_isDoing : GoodIn wsX5_isItem wsX5_isDoing := goodIn_r _ [51, 52, 53, 33, 37, 38, 39, 4, 40, 6, 7, 8, 41, 42, 11, 20, 21, 22, 23, 24, 25, 26, 58, 59, 60, 61, 62, 63, 64, 65, 66, 67, 68, 69, 70, 71, 72, 73, 74, 75, 76, 77, 78, 79, 80, 81, 82] (by decide +kernel) (by decide +kernel)
set_option maxRecDepth 20000 in
theorem gX5_isItem_X5_isDoing : GoodIn wsX5_isItem (wsV RX5 127 RX5 yX5_isDoing wsX5_isDoing) := goodIn_app (goodIn_of _ (by decide +kernel)) ggX5_isItem_X5_isDoing
set_option maxRecDepth 20000 in
theorem ggX5_isItem_X5_ends : GoodIn wsX5_isItem wsX5_ends := goodIn_r _ [57, 6, 11, 7, 8, 20, 21, 22, 4, 23, 58, 59, 60, 61, 62, 63, 64, 65, 66, 67, 68, 69, 70, 71, 72, 73, 74, 75, 76, 77, 78, 79, 80, 81, 82] (by decide +kernel) (by decide +kernel)
set_option maxRecDepth 20000 in
theorem gX5_isItem_X5_ends : GoodIn wsX5_isItem (wsV RX5 131 RX5 yX5_ends wsX5_ends) := goodIn_app (goodIn_of _ (by decide +kernel)) ggX5_isItem_X5_ends
theorem dX5_isItem_0 : decode cX5_isItem 0 = .ok (.aload_n 0, 1) := by decide +kernel
theorem dX5_isItem_1 : decode cX5_isItem 1 = .ok (.invokevirtual 116, 3) := by decide +kernel
theorem dX5_isItem_4 : decode cX5_isItem 4 = .ok (.istore_n 1, 1) := by decide +kernel
theorem dX5_isItem_5 : decode cX5_isItem 5 = .ok (.iload_n 1, 1) := by decide +kernel
theorem dX5_isItem_6 : decode cX5_isItem 6 = .ok (.ifCond .lt 45, 3) := by decide +kernel
theorem dX5_isItem_9 : decode cX5_isItem 9 = .ok (.iload_n 1, 1) := by decide +kernel
theorem dX5_isItem_10 : decode cX5_isItem 10 = .ok (.iconst 4, 1) := by decide +kernel
theorem dX5_isItem_11 : decode cX5_isItem 11 = .ok (.if_icmp .ne 13, 3) := by decide +kernel
theorem dX5_isItem_14 : decode cX5_isItem 14 = .ok (.aload_n 0, 1) := by decide +kernel
theorem dX5_isItem_15 : decode cX5_isItem 15 = .ok (.invokevirtual 120, 3) := by decide +kernel
theorem dX5_isItem_18 : decode cX5_isItem 18 = .ok (.ifCond .eq 33, 3) := by decide +kernel
theorem dX5_isItem_21 : decode cX5_isItem 21 = .ok (.goto 26, 3) := by decide +kernel
theorem dX5_isItem_24 : decode cX5_isItem 24 = .ok (.iload_n 1, 1) := by decide +kernel
theorem dX5_isItem_25 : decode cX5_isItem 25 = .ok (.iconst 5, 1) := by decide +kernel
theorem dX5_isItem_26 : decode cX5_isItem 26 = .ok (.if_icmp .ne 13, 3) := by decide +kernel
theorem dX5_isItem_29 : decode cX5_isItem 29 = .ok (.aload_n 0, 1) := by decide +kernel
theorem dX5_isItem_30 : decode cX5_isItem 30 = .ok (.invokevirtual 124, 3) := by decide +kernel
theorem dX5_isItem_33 : decode cX5_isItem 33 = .ok (.ifCond .eq 18, 3) := by decide +kernel
theorem dX5_isItem_36 : decode cX5_isItem 36 = .ok (.goto 11, 3) := by decide +kernel
theorem dX5_isItem_39 : decode cX5_isItem 39 = .ok (.aload_n 0, 1) := by decide +kernel
theorem dX5_isItem_40 : decode cX5_isItem 40 = .ok (.iload_n 1, 1) := by decide +kernel
theorem dX5_isItem_41 : decode cX5_isItem 41 = .ok (.invokevirtual 127, 3) := by decide +kernel
theorem dX5_isItem_44 : decode cX5_isItem 44 = .ok (.ifCond .eq 7, 3) := by decide +kernel
theorem dX5_isItem_47 : decode cX5_isItem 47 = .ok (.iconst 1, 1) := by decide +kernel
theorem dX5_isItem_48 : decode cX5_isItem 48 = .ok (.goto 4, 3) := by decide +kernel
theorem dX5_isItem_51 : decode cX5_isItem 51 = .ok (.iconst 0, 1) := by decide +kernel
theorem dX5_isItem_52 : decode cX5_isItem 52 = .ok (.istore_n 2, 1) := by decide +kernel
theorem dX5_isItem_53 : decode cX5_isItem 53 = .ok (.iload_n 2, 1) := by decide +kernel
theorem dX5_isItem_54 : decode cX5_isItem 54 = .ok (.ifCond .eq 14, 3) := by decide +kernel
theorem dX5_isItem_57 : decode cX5_isItem 57 = .ok (.aload_n 0, 1) := by decide +kernel
theorem dX5_isItem_58 : decode cX5_isItem 58 = .ok (.invokevirtual 131, 3) := by decide +kernel
theorem dX5_isItem_61 : decode cX5_isItem 61 = .ok (.ifCond .eq 7, 3) := by decide +kernel
theorem dX5_isItem_64 : decode cX5_isItem 64 = .ok (.iconst 1, 1) := by decide +kernel
theorem dX5_isItem_65 : decode cX5_isItem 65 = .ok (.goto 4, 3) := by decide +kernel
theorem dX5_isItem_68 : decode cX5_isItem 68 = .ok (.iconst 0, 1) := by decide +kernel
theorem dX5_isItem_69 : decode cX5_isItem 69 = .ok (.ireturn, 1) := by decide +kernel
set_option maxRecDepth 20000 in
theorem ggX5_reads_X5_blanks : GoodIn wsX5_reads wsX5_blanks := goodIn_r _ [13, 1, 7, 14, 8, 63, 64, 65, 66, 67, 68, 69, 70, 71, 72, 73, 74, 75, 76, 77, 78, 79, 80, 81, 82, 83, 84, 85, 86, 87] (by decide +kernel) (by decide +kernel)
set_option maxRecDepth 20000 in
theorem gX5_reads_X5_blanks : GoodIn wsX5_reads (wsV RX5 71 RX5 yX5_blanks wsX5_blanks) := goodIn_app (goodIn_of _ (by decide +kernel)) ggX5_reads_X5_blanks
set_option maxRecDepth 20000 in
theorem ggX5_reads_X5_isItem : GoodIn wsX5_reads wsX5_isItem := goodIn_r _ [18, 19, 20, 21, 12, 22, 1, 7, 14, 23, 24, 8, 25, 26, 27, 28, 29, 30, 31, 32, 9, 10, 11, 13, 33, 34, 35, 36, 37, 38, 39, 4, 6, 40, 41, 42, 43, 44, 45, 46, 47, 48, 49, 50, 51, 52, 53, 5, 54, 55, 56, 57, 3, 58, 59, 60, 61, 62, 63, 64, 65, 66, 67, 68, 69, 70, 71, 72, 73, 74, 75, 76, 77, 78, 79, 80, 81, 82, 83, 84, 85, 86, 87] (by decide +kernel) (by decide +kernel)
set_option maxRecDepth 20000 in
theorem gX5_reads_X5_isItem : GoodIn wsX5_reads (wsV RX5 137 RX5 yX5_isItem wsX5_isItem) := goodIn_app (goodIn_of _ (by decide +kernel)) ggX5_reads_X5_isItem
theorem dX5_reads_0 : decode cX5_reads 0 = .ok (.aload_n 0, 1) := by decide +kernel
theorem dX5_reads_1 : decode cX5_reads 1 = .ok (.iconst 0, 1) := by decide +kernel
theorem dX5_reads_2 : decode cX5_reads 2 = .ok (.putfield 65, 3) := by decide +kernel
theorem dX5_reads_5 : decode cX5_reads 5 = .ok (.aload_n 0, 1) := by decide +kernel
theorem dX5_reads_6 : decode cX5_reads 6 = .ok (.iconst 0, 1) := by decide +kernel
theorem dX5_reads_7 : decode cX5_reads 7 = .ok (.putfield 134, 3) := by decide +kernel
theorem dX5_reads_10 : decode cX5_reads 10 = .ok (.aload_n 0, 1) := by decide +kernel
theorem dX5_reads_11 : decode cX5_reads 11 = .ok (.getfield 17, 3) := by decide +kernel
theorem dX5_reads_14 : decode cX5_reads 14 = .ok (.iconst 1, 1) := by decide +kernel
theorem dX5_reads_15 : decode cX5_reads 15 = .ok (.iconst 0, 1) := by decide +kernel
theorem dX5_reads_16 : decode cX5_reads 16 = .ok (.iastore, 1) := by decide +kernel
theorem dX5_reads_17 : decode cX5_reads 17 = .ok (.aload_n 0, 1) := by decide +kernel
theorem dX5_reads_18 : decode cX5_reads 18 = .ok (.iconst 0, 1) := by decide +kernel
theorem dX5_reads_19 : decode cX5_reads 19 = .ok (.putfield 101, 3) := by decide +kernel
theorem dX5_reads_22 : decode cX5_reads 22 = .ok (.aload_n 0, 1) := by decide +kernel
theorem dX5_reads_23 : decode cX5_reads 23 = .ok (.iconst 0, 1) := by decide +kernel
theorem dX5_reads_24 : decode cX5_reads 24 = .ok (.putfield 113, 3) := by decide +kernel
theorem dX5_reads_27 : decode cX5_reads 27 = .ok (.iconst 0, 1) := by decide +kernel
theorem dX5_reads_28 : decode cX5_reads 28 = .ok (.istore_n 1, 1) := by decide +kernel
theorem dX5_reads_29 : decode cX5_reads 29 = .ok (.iload_n 1, 1) := by decide +kernel
theorem dX5_reads_30 : decode cX5_reads 30 = .ok (.bipush 9, 2) := by decide +kernel
theorem dX5_reads_32 : decode cX5_reads 32 = .ok (.if_icmp .ge 94, 3) := by decide +kernel
theorem dX5_reads_35 : decode cX5_reads 35 = .ok (.aload_n 0, 1) := by decide +kernel
theorem dX5_reads_36 : decode cX5_reads 36 = .ok (.getfield 13, 3) := by decide +kernel
theorem dX5_reads_39 : decode cX5_reads 39 = .ok (.bipush 9, 2) := by decide +kernel
theorem dX5_reads_41 : decode cX5_reads 41 = .ok (.iload_n 1, 1) := by decide +kernel
theorem dX5_reads_42 : decode cX5_reads 42 = .ok (.iadd, 1) := by decide +kernel
theorem dX5_reads_43 : decode cX5_reads 43 = .ok (.iload_n 1, 1) := by decide +kernel
theorem dX5_reads_44 : decode cX5_reads 44 = .ok (.ifCond .ne 7, 3) := by decide +kernel
theorem dX5_reads_47 : decode cX5_reads 47 = .ok (.iconst 3, 1) := by decide +kernel
theorem dX5_reads_48 : decode cX5_reads 48 = .ok (.goto 71, 3) := by decide +kernel
theorem dX5_reads_51 : decode cX5_reads 51 = .ok (.iload_n 1, 1) := by decide +kernel
theorem dX5_reads_52 : decode cX5_reads 52 = .ok (.iconst 1, 1) := by decide +kernel
theorem dX5_reads_53 : decode cX5_reads 53 = .ok (.if_icmp .ne 9, 3) := by decide +kernel
theorem dX5_reads_56 : decode cX5_reads 56 = .ok (.sipush 200, 3) := by decide +kernel
theorem dX5_reads_59 : decode cX5_reads 59 = .ok (.goto 60, 3) := by decide +kernel
theorem dX5_reads_62 : decode cX5_reads 62 = .ok (.iload_n 1, 1) := by decide +kernel
theorem dX5_reads_63 : decode cX5_reads 63 = .ok (.iconst 2, 1) := by decide +kernel
theorem dX5_reads_64 : decode cX5_reads 64 = .ok (.if_icmp .ne 8, 3) := by decide +kernel
theorem dX5_reads_67 : decode cX5_reads 67 = .ok (.bipush 10, 2) := by decide +kernel
theorem dX5_reads_69 : decode cX5_reads 69 = .ok (.goto 50, 3) := by decide +kernel
theorem dX5_reads_72 : decode cX5_reads 72 = .ok (.iload_n 1, 1) := by decide +kernel
theorem dX5_reads_73 : decode cX5_reads 73 = .ok (.iconst 3, 1) := by decide +kernel
theorem dX5_reads_74 : decode cX5_reads 74 = .ok (.if_icmp .eq 8, 3) := by decide +kernel
theorem dX5_reads_77 : decode cX5_reads 77 = .ok (.iload_n 1, 1) := by decide +kernel
theorem dX5_reads_78 : decode cX5_reads 78 = .ok (.iconst 4, 1) := by decide +kernel
theorem dX5_reads_79 : decode cX5_reads 79 = .ok (.if_icmp .ne 9, 3) := by decide +kernel
theorem dX5_reads_82 : decode cX5_reads 82 = .ok (.sipush 300, 3) := by decide +kernel
theorem dX5_reads_85 : decode cX5_reads 85 = .ok (.goto 34, 3) := by decide +kernel
theorem dX5_reads_88 : decode cX5_reads 88 = .ok (.iload_n 1, 1) := by decide +kernel
theorem dX5_reads_89 : decode cX5_reads 89 = .ok (.iconst 5, 1) := by decide +kernel
theorem dX5_reads_90 : decode cX5_reads 90 = .ok (.if_icmp .ne 8, 3) := by decide +kernel
theorem dX5_reads_93 : decode cX5_reads 93 = .ok (.bipush 40, 2) := by decide +kernel
theorem dX5_reads_95 : decode cX5_reads 95 = .ok (.goto 24, 3) := by decide +kernel
theorem dX5_reads_98 : decode cX5_reads 98 = .ok (.iload_n 1, 1) := by decide +kernel
theorem dX5_reads_99 : decode cX5_reads 99 = .ok (.bipush 6, 2) := by decide +kernel
theorem dX5_reads_101 : decode cX5_reads 101 = .ok (.if_icmp .ne 7, 3) := by decide +kernel
theorem dX5_reads_104 : decode cX5_reads 104 = .ok (.iconst 2, 1) := by decide +kernel
theorem dX5_reads_105 : decode cX5_reads 105 = .ok (.goto 14, 3) := by decide +kernel
theorem dX5_reads_108 : decode cX5_reads 108 = .ok (.iload_n 1, 1) := by decide +kernel
theorem dX5_reads_109 : decode cX5_reads 109 = .ok (.bipush 7, 2) := by decide +kernel
theorem dX5_reads_111 : decode cX5_reads 111 = .ok (.if_icmp .ne 7, 3) := by decide +kernel
theorem dX5_reads_114 : decode cX5_reads 114 = .ok (.iconst 4, 1) := by decide +kernel
theorem dX5_reads_115 : decode cX5_reads 115 = .ok (.goto 4, 3) := by decide +kernel
theorem dX5_reads_118 : decode cX5_reads 118 = .ok (.iconst 0, 1) := by decide +kernel
theorem dX5_reads_119 : decode cX5_reads 119 = .ok (.iastore, 1) := by decide +kernel
theorem dX5_reads_120 : decode cX5_reads 120 = .ok (.iinc 1 1, 3) := by decide +kernel
theorem dX5_reads_123 : decode cX5_reads 123 = .ok (.goto (-94), 3) := by decide +kernel
theorem dX5_reads_126 : decode cX5_reads 126 = .ok (.aload_n 0, 1) := by decide +kernel
theorem dX5_reads_127 : decode cX5_reads 127 = .ok (.invokevirtual 71, 3) := by decide +kernel
theorem dX5_reads_130 : decode cX5_reads 130 = .ok (.aload_n 0, 1) := by decide +kernel
theorem dX5_reads_131 : decode cX5_reads 131 = .ok (.getfield 65, 3) := by decide +kernel
theorem dX5_reads_134 : decode cX5_reads 134 = .ok (.aload_n 0, 1) := by decide +kernel
theorem dX5_reads_135 : decode cX5_reads 135 = .ok (.getfield 62, 3) := by decide +kernel
theorem dX5_reads_138 : decode cX5_reads 138 = .ok (.if_icmp .ge 50, 3) := by decide +kernel
theorem dX5_reads_141 : decode cX5_reads 141 = .ok (.aload_n 0, 1) := by decide +kernel
theorem dX5_reads_142 : decode cX5_reads 142 = .ok (.invokevirtual 137, 3) := by decide +kernel
theorem dX5_reads_145 : decode cX5_reads 145 = .ok (.ifCond .ne 26, 3) := by decide +kernel
theorem dX5_reads_148 : decode cX5_reads 148 = .ok (.aload_n 0, 1) := by decide +kernel
theorem dX5_reads_149 : decode cX5_reads 149 = .ok (.getfield 68, 3) := by decide +kernel
theorem dX5_reads_152 : decode cX5_reads 152 = .ok (.aload_n 0, 1) := by decide +kernel
theorem dX5_reads_153 : decode cX5_reads 153 = .ok (.getfield 62, 3) := by decide +kernel
theorem dX5_reads_156 : decode cX5_reads 156 = .ok (.if_icmp .ge 10, 3) := by decide +kernel
theorem dX5_reads_159 : decode cX5_reads 159 = .ok (.aload_n 0, 1) := by decide +kernel
theorem dX5_reads_160 : decode cX5_reads 160 = .ok (.getfield 68, 3) := by decide +kernel
theorem dX5_reads_163 : decode cX5_reads 163 = .ok (.goto 7, 3) := by decide +kernel
theorem dX5_reads_166 : decode cX5_reads 166 = .ok (.aload_n 0, 1) := by decide +kernel
theorem dX5_reads_167 : decode cX5_reads 167 = .ok (.getfield 62, 3) := by decide +kernel
theorem dX5_reads_170 : decode cX5_reads 170 = .ok (.ireturn, 1) := by decide +kernel
theorem dX5_reads_171 : decode cX5_reads 171 = .ok (.aload_n 0, 1) := by decide +kernel
theorem dX5_reads_172 : decode cX5_reads 172 = .ok (.dup, 1) := by decide +kernel
theorem dX5_reads_173 : decode cX5_reads 173 = .ok (.getfield 134, 3) := by decide +kernel
theorem dX5_reads_176 : decode cX5_reads 176 = .ok (.iconst 1, 1) := by decide +kernel
theorem dX5_reads_177 : decode cX5_reads 177 = .ok (.iadd, 1) := by decide +kernel
theorem dX5_reads_178 : decode cX5_reads 178 = .ok (.putfield 134, 3) := by decide +kernel
theorem dX5_reads_181 : decode cX5_reads 181 = .ok (.aload_n 0, 1) := by decide +kernel
theorem dX5_reads_182 : decode cX5_reads 182 = .ok (.invokevirtual 71, 3) := by decide +kernel
theorem dX5_reads_185 : decode cX5_reads 185 = .ok (.goto (-55), 3) := by decide +kernel
theorem dX5_reads_188 : decode cX5_reads 188 = .ok (.bipush (-9), 2) := by decide +kernel
theorem dX5_reads_190 : decode cX5_reads 190 = .ok (.ireturn, 1) := by decide +kernel
set_option maxRecDepth 20000 in
theorem ggX5_sausage_X5_reads : GoodIn wsX5_sausage wsX5_reads := goodIn_r _ [11, 12, 6, 2, 13, 14, 1, 5, 15, 16, 17, 18, 10, 19, 20, 21, 22, 23, 24, 25, 26, 27, 28, 29, 30, 31, 32, 33, 34, 35, 36, 37, 38, 39, 40, 41, 42, 43, 44, 45, 46, 47, 48, 49, 50, 51, 52, 53, 54, 55, 56, 57, 58, 59, 60, 61, 62, 63, 3, 64, 65, 66, 67, 73, 74, 75, 76, 77, 78, 79, 80, 81, 82, 83, 84, 85, 86, 87, 88, 89, 90, 91, 92, 93, 94, 95, 96, 97] (by decide +kernel) (by decide +kernel)
set_option maxRecDepth 20000 in
theorem gX5_sausage_X5_reads : GoodIn wsX5_sausage (wsV RX5 140 RX5 yX5_reads wsX5_reads) := goodIn_app (goodIn_of _ (by decide +kernel)) ggX5_sausage_X5_reads
set_option maxRecDepth 20000 in
theorem ggX5_sausage_X5_begins : GoodIn wsX5_sausage wsX5_begins := goodIn_r _ [71, 72, 1, 73, 74, 75, 76, 77, 78, 79, 80, 81, 82, 83, 84, 85, 86, 87, 88, 89, 90, 91, 92, 93, 94, 95, 96, 97] (by decide +kernel) (by decide +kernel)
set_option maxRecDepth 20000 in
theorem gX5_sausage_X5_begins : GoodIn wsX5_sausage (wsV RX5 52 RX5 yX5_begins wsX5_begins) := goodIn_app (goodIn_of _ (by decide +kernel)) ggX5_sausage_X5_begins
theorem dX5_sausage_0 : decode cX5_sausage 0 = .ok (.aload_n 0, 1) := by decide +kernel
theorem dX5_sausage_1 : decode cX5_sausage 1 = .ok (.invokevirtual 140, 3) := by decide +kernel
theorem dX5_sausage_4 : decode cX5_sausage 4 = .ok (.istore_n 1, 1) := by decide +kernel
theorem dX5_sausage_5 : decode cX5_sausage 5 = .ok (.iload_n 1, 1) := by decide +kernel
theorem dX5_sausage_6 : decode cX5_sausage 6 = .ok (.ifCond .lt 8, 3) := by decide +kernel
theorem dX5_sausage_9 : decode cX5_sausage 9 = .ok (.bipush (-10), 2) := by decide +kernel
theorem dX5_sausage_11 : decode cX5_sausage 11 = .ok (.iload_n 1, 1) := by decide +kernel
theorem dX5_sausage_12 : decode cX5_sausage 12 = .ok (.isub, 1) := by decide +kernel
theorem dX5_sausage_13 : decode cX5_sausage 13 = .ok (.ireturn, 1) := by decide +kernel
theorem dX5_sausage_14 : decode cX5_sausage 14 = .ok (.iconst 0, 1) := by decide +kernel
theorem dX5_sausage_15 : decode cX5_sausage 15 = .ok (.istore_n 2, 1) := by decide +kernel
theorem dX5_sausage_16 : decode cX5_sausage 16 = .ok (.iload_n 2, 1) := by decide +kernel
theorem dX5_sausage_17 : decode cX5_sausage 17 = .ok (.bipush 9, 2) := by decide +kernel
theorem dX5_sausage_19 : decode cX5_sausage 19 = .ok (.if_icmp .ge 24, 3) := by decide +kernel
theorem dX5_sausage_22 : decode cX5_sausage 22 = .ok (.aload_n 0, 1) := by decide +kernel
theorem dX5_sausage_23 : decode cX5_sausage 23 = .ok (.getfield 13, 3) := by decide +kernel
theorem dX5_sausage_26 : decode cX5_sausage 26 = .ok (.iload_n 2, 1) := by decide +kernel
theorem dX5_sausage_27 : decode cX5_sausage 27 = .ok (.aload_n 0, 1) := by decide +kernel
theorem dX5_sausage_28 : decode cX5_sausage 28 = .ok (.getfield 13, 3) := by decide +kernel
theorem dX5_sausage_31 : decode cX5_sausage 31 = .ok (.bipush 9, 2) := by decide +kernel
theorem dX5_sausage_33 : decode cX5_sausage 33 = .ok (.iload_n 2, 1) := by decide +kernel
theorem dX5_sausage_34 : decode cX5_sausage 34 = .ok (.iadd, 1) := by decide +kernel
theorem dX5_sausage_35 : decode cX5_sausage 35 = .ok (.iaload, 1) := by decide +kernel
theorem dX5_sausage_36 : decode cX5_sausage 36 = .ok (.iastore, 1) := by decide +kernel
theorem dX5_sausage_37 : decode cX5_sausage 37 = .ok (.iinc 2 1, 3) := by decide +kernel
theorem dX5_sausage_40 : decode cX5_sausage 40 = .ok (.goto (-24), 3) := by decide +kernel
theorem dX5_sausage_43 : decode cX5_sausage 43 = .ok (.aload_n 0, 1) := by decide +kernel
theorem dX5_sausage_44 : decode cX5_sausage 44 = .ok (.getfield 17, 3) := by decide +kernel
theorem dX5_sausage_47 : decode cX5_sausage 47 = .ok (.iconst 0, 1) := by decide +kernel
theorem dX5_sausage_48 : decode cX5_sausage 48 = .ok (.aload_n 0, 1) := by decide +kernel
theorem dX5_sausage_49 : decode cX5_sausage 49 = .ok (.getfield 17, 3) := by decide +kernel
theorem dX5_sausage_52 : decode cX5_sausage 52 = .ok (.iconst 1, 1) := by decide +kernel
theorem dX5_sausage_53 : decode cX5_sausage 53 = .ok (.iaload, 1) := by decide +kernel
theorem dX5_sausage_54 : decode cX5_sausage 54 = .ok (.iastore, 1) := by decide +kernel
theorem dX5_sausage_55 : decode cX5_sausage 55 = .ok (.iconst 0, 1) := by decide +kernel
theorem dX5_sausage_56 : decode cX5_sausage 56 = .ok (.istore_n 2, 1) := by decide +kernel
theorem dX5_sausage_57 : decode cX5_sausage 57 = .ok (.iload_n 2, 1) := by decide +kernel
theorem dX5_sausage_58 : decode cX5_sausage 58 = .ok (.bipush 36, 2) := by decide +kernel
theorem dX5_sausage_60 : decode cX5_sausage 60 = .ok (.if_icmp .ge 24, 3) := by decide +kernel
theorem dX5_sausage_63 : decode cX5_sausage 63 = .ok (.aload_n 0, 1) := by decide +kernel
theorem dX5_sausage_64 : decode cX5_sausage 64 = .ok (.getfield 20, 3) := by decide +kernel
theorem dX5_sausage_67 : decode cX5_sausage 67 = .ok (.iload_n 2, 1) := by decide +kernel
theorem dX5_sausage_68 : decode cX5_sausage 68 = .ok (.aload_n 0, 1) := by decide +kernel
theorem dX5_sausage_69 : decode cX5_sausage 69 = .ok (.getfield 20, 3) := by decide +kernel
theorem dX5_sausage_72 : decode cX5_sausage 72 = .ok (.bipush 36, 2) := by decide +kernel
theorem dX5_sausage_74 : decode cX5_sausage 74 = .ok (.iload_n 2, 1) := by decide +kernel
theorem dX5_sausage_75 : decode cX5_sausage 75 = .ok (.iadd, 1) := by decide +kernel
theorem dX5_sausage_76 : decode cX5_sausage 76 = .ok (.iaload, 1) := by decide +kernel
theorem dX5_sausage_77 : decode cX5_sausage 77 = .ok (.iastore, 1) := by decide +kernel
theorem dX5_sausage_78 : decode cX5_sausage 78 = .ok (.iinc 2 1, 3) := by decide +kernel
theorem dX5_sausage_81 : decode cX5_sausage 81 = .ok (.goto (-24), 3) := by decide +kernel
theorem dX5_sausage_84 : decode cX5_sausage 84 = .ok (.aload_n 0, 1) := by decide +kernel
theorem dX5_sausage_85 : decode cX5_sausage 85 = .ok (.iconst 0, 1) := by decide +kernel
theorem dX5_sausage_86 : decode cX5_sausage 86 = .ok (.invokevirtual 52, 3) := by decide +kernel
theorem dX5_sausage_89 : decode cX5_sausage 89 = .ok (.aload_n 0, 1) := by decide +kernel
theorem dX5_sausage_90 : decode cX5_sausage 90 = .ok (.getfield 26, 3) := by decide +kernel
theorem dX5_sausage_93 : decode cX5_sausage 93 = .ok (.iconst 0, 1) := by decide +kernel
theorem dX5_sausage_94 : decode cX5_sausage 94 = .ok (.iconst 0, 1) := by decide +kernel
theorem dX5_sausage_95 : decode cX5_sausage 95 = .ok (.bastore, 1) := by decide +kernel
theorem dX5_sausage_96 : decode cX5_sausage 96 = .ok (.aload_n 0, 1) := by decide +kernel
theorem dX5_sausage_97 : decode cX5_sausage 97 = .ok (.getfield 26, 3) := by decide +kernel
theorem dX5_sausage_100 : decode cX5_sausage 100 = .ok (.iconst 1, 1) := by decide +kernel
theorem dX5_sausage_101 : decode cX5_sausage 101 = .ok (.iconst 0, 1) := by decide +kernel
theorem dX5_sausage_102 : decode cX5_sausage 102 = .ok (.bastore, 1) := by decide +kernel
theorem dX5_sausage_103 : decode cX5_sausage 103 = .ok (.aload_n 0, 1) := by decide +kernel
theorem dX5_sausage_104 : decode cX5_sausage 104 = .ok (.iconst 0, 1) := by decide +kernel
theorem dX5_sausage_105 : decode cX5_sausage 105 = .ok (.putfield 62, 3) := by decide +kernel
theorem dX5_sausage_108 : decode cX5_sausage 108 = .ok (.aload_n 0, 1) := by decide +kernel
theorem dX5_sausage_109 : decode cX5_sausage 109 = .ok (.getfield 134, 3) := by decide +kernel
theorem dX5_sausage_112 : decode cX5_sausage 112 = .ok (.ireturn, 1) := by decide +kernel
theorem dX5_allSeconds_0 : decode cX5_allSeconds 0 = .ok (.iconst 0, 1) := by decide +kernel
theorem dX5_allSeconds_1 : decode cX5_allSeconds 1 = .ok (.istore_n 1, 1) := by decide +kernel
theorem dX5_allSeconds_2 : decode cX5_allSeconds 2 = .ok (.iconst 0, 1) := by decide +kernel
theorem dX5_allSeconds_3 : decode cX5_allSeconds 3 = .ok (.istore_n 2, 1) := by decide +kernel
theorem dX5_allSeconds_4 : decode cX5_allSeconds 4 = .ok (.iload_n 2, 1) := by decide +kernel
theorem dX5_allSeconds_5 : decode cX5_allSeconds 5 = .ok (.aload_n 0, 1) := by decide +kernel
theorem dX5_allSeconds_6 : decode cX5_allSeconds 6 = .ok (.getfield 17, 3) := by decide +kernel
theorem dX5_allSeconds_9 : decode cX5_allSeconds 9 = .ok (.iconst 0, 1) := by decide +kernel
theorem dX5_allSeconds_10 : decode cX5_allSeconds 10 = .ok (.iaload, 1) := by decide +kernel
theorem dX5_allSeconds_11 : decode cX5_allSeconds 11 = .ok (.if_icmp .ge 22, 3) := by decide +kernel
theorem dX5_allSeconds_14 : decode cX5_allSeconds 14 = .ok (.iload_n 1, 1) := by decide +kernel
theorem dX5_allSeconds_15 : decode cX5_allSeconds 15 = .ok (.aload_n 0, 1) := by decide +kernel
theorem dX5_allSeconds_16 : decode cX5_allSeconds 16 = .ok (.getfield 20, 3) := by decide +kernel
theorem dX5_allSeconds_19 : decode cX5_allSeconds 19 = .ok (.iconst 3, 1) := by decide +kernel
theorem dX5_allSeconds_20 : decode cX5_allSeconds 20 = .ok (.iload_n 2, 1) := by decide +kernel
theorem dX5_allSeconds_21 : decode cX5_allSeconds 21 = .ok (.imul, 1) := by decide +kernel
theorem dX5_allSeconds_22 : decode cX5_allSeconds 22 = .ok (.iconst 2, 1) := by decide +kernel
theorem dX5_allSeconds_23 : decode cX5_allSeconds 23 = .ok (.iadd, 1) := by decide +kernel
theorem dX5_allSeconds_24 : decode cX5_allSeconds 24 = .ok (.iaload, 1) := by decide +kernel
theorem dX5_allSeconds_25 : decode cX5_allSeconds 25 = .ok (.iadd, 1) := by decide +kernel
theorem dX5_allSeconds_26 : decode cX5_allSeconds 26 = .ok (.istore_n 1, 1) := by decide +kernel
theorem dX5_allSeconds_27 : decode cX5_allSeconds 27 = .ok (.iinc 2 1, 3) := by decide +kernel
theorem dX5_allSeconds_30 : decode cX5_allSeconds 30 = .ok (.goto (-26), 3) := by decide +kernel
theorem dX5_allSeconds_33 : decode cX5_allSeconds 33 = .ok (.iload_n 1, 1) := by decide +kernel
theorem dX5_allSeconds_34 : decode cX5_allSeconds 34 = .ok (.ireturn, 1) := by decide +kernel
set_option maxRecDepth 20000 in
theorem ggX5_told_X5_in : GoodIn wsX5_told wsX5_in := goodIn_r _ [7] (by decide +kernel) (by decide +kernel)
set_option maxRecDepth 20000 in
theorem gX5_told_X5_in : GoodIn wsX5_told (va_wsS RX5 58 yX5_in wsX5_in) := goodIn_app (goodIn_of _ (by decide +kernel)) ggX5_told_X5_in
set_option maxRecDepth 20000 in
theorem ggX5_told_X5_allSeconds : GoodIn wsX5_told wsX5_allSeconds := goodIn_r _ [11, 3, 12, 13, 14, 15, 16, 17, 18, 19, 20, 21, 22, 23, 24, 25, 26, 27, 28, 29, 30, 31, 32, 33, 34, 35, 36, 37] (by decide +kernel) (by decide +kernel)
set_option maxRecDepth 20000 in
theorem gX5_told_X5_allSeconds : GoodIn wsX5_told (wsV RX5 145 RX5 yX5_allSeconds wsX5_allSeconds) := goodIn_app (goodIn_of _ (by decide +kernel)) ggX5_told_X5_allSeconds
theorem dX5_told_0 : decode cX5_told 0 = .ok (.iload_n 1, 1) := by decide +kernel
theorem dX5_told_1 : decode cX5_told 1 = .ok (.i2l, 1) := by decide +kernel
theorem dX5_told_2 : decode cX5_told 2 = .ok (.lconst 0, 1) := by decide +kernel
theorem dX5_told_3 : decode cX5_told 3 = .ok (.ldc2_w 143, 3) := by decide +kernel
theorem dX5_told_6 : decode cX5_told 6 = .ok (.invokestatic 58, 3) := by decide +kernel
theorem dX5_told_9 : decode cX5_told 9 = .ok (.ifCond .ne 7, 3) := by decide +kernel
theorem dX5_told_12 : decode cX5_told 12 = .ok (.iconst (-1), 1) := by decide +kernel
theorem dX5_told_13 : decode cX5_told 13 = .ok (.goto 37, 3) := by decide +kernel
theorem dX5_told_16 : decode cX5_told 16 = .ok (.iload_n 1, 1) := by decide +kernel
theorem dX5_told_17 : decode cX5_told 17 = .ok (.bipush 9, 2) := by decide +kernel
theorem dX5_told_19 : decode cX5_told 19 = .ok (.if_icmp .ge 12, 3) := by decide +kernel
theorem dX5_told_22 : decode cX5_told 22 = .ok (.aload_n 0, 1) := by decide +kernel
theorem dX5_told_23 : decode cX5_told 23 = .ok (.getfield 13, 3) := by decide +kernel
theorem dX5_told_26 : decode cX5_told 26 = .ok (.iload_n 1, 1) := by decide +kernel
theorem dX5_told_27 : decode cX5_told 27 = .ok (.iaload, 1) := by decide +kernel
theorem dX5_told_28 : decode cX5_told 28 = .ok (.goto 22, 3) := by decide +kernel
theorem dX5_told_31 : decode cX5_told 31 = .ok (.iload_n 1, 1) := by decide +kernel
theorem dX5_told_32 : decode cX5_told 32 = .ok (.bipush 9, 2) := by decide +kernel
theorem dX5_told_34 : decode cX5_told 34 = .ok (.if_icmp .ne 12, 3) := by decide +kernel
theorem dX5_told_37 : decode cX5_told 37 = .ok (.aload_n 0, 1) := by decide +kernel
theorem dX5_told_38 : decode cX5_told 38 = .ok (.getfield 17, 3) := by decide +kernel
theorem dX5_told_41 : decode cX5_told 41 = .ok (.iconst 0, 1) := by decide +kernel
theorem dX5_told_42 : decode cX5_told 42 = .ok (.iaload, 1) := by decide +kernel
theorem dX5_told_43 : decode cX5_told 43 = .ok (.goto 7, 3) := by decide +kernel
theorem dX5_told_46 : decode cX5_told 46 = .ok (.aload_n 0, 1) := by decide +kernel
theorem dX5_told_47 : decode cX5_told 47 = .ok (.invokevirtual 145, 3) := by decide +kernel
theorem dX5_told_50 : decode cX5_told 50 = .ok (.ireturn, 1) := by decide +kernel
set_option maxRecDepth 20000 in
theorem ggX5_doing_X5_in : GoodIn wsX5_doing wsX5_in := goodIn_r _ [7] (by decide +kernel) (by decide +kernel)
set_option maxRecDepth 20000 in
theorem gX5_doing_X5_in : GoodIn wsX5_doing (va_wsS RX5 58 yX5_in wsX5_in) := goodIn_app (goodIn_of _ (by decide +kernel)) ggX5_doing_X5_in
theorem dX5_doing_0 : decode cX5_doing 0 = .ok (.iload_n 1, 1) := by decide +kernel
theorem dX5_doing_1 : decode cX5_doing 1 = .ok (.i2l, 1) := by decide +kernel
theorem dX5_doing_2 : decode cX5_doing 2 = .ok (.lconst 0, 1) := by decide +kernel
theorem dX5_doing_3 : decode cX5_doing 3 = .ok (.aload_n 0, 1) := by decide +kernel
theorem dX5_doing_4 : decode cX5_doing 4 = .ok (.getfield 17, 3) := by decide +kernel
theorem dX5_doing_7 : decode cX5_doing 7 = .ok (.iconst 0, 1) := by decide +kernel
theorem dX5_doing_8 : decode cX5_doing 8 = .ok (.iaload, 1) := by decide +kernel
theorem dX5_doing_9 : decode cX5_doing 9 = .ok (.iconst 1, 1) := by decide +kernel
theorem dX5_doing_10 : decode cX5_doing 10 = .ok (.isub, 1) := by decide +kernel
theorem dX5_doing_11 : decode cX5_doing 11 = .ok (.i2l, 1) := by decide +kernel
theorem dX5_doing_12 : decode cX5_doing 12 = .ok (.invokestatic 58, 3) := by decide +kernel
theorem dX5_doing_15 : decode cX5_doing 15 = .ok (.ifCond .eq 28, 3) := by decide +kernel
theorem dX5_doing_18 : decode cX5_doing 18 = .ok (.iload_n 2, 1) := by decide +kernel
theorem dX5_doing_19 : decode cX5_doing 19 = .ok (.i2l, 1) := by decide +kernel
theorem dX5_doing_20 : decode cX5_doing 20 = .ok (.lconst 0, 1) := by decide +kernel
theorem dX5_doing_21 : decode cX5_doing 21 = .ok (.ldc2_w 148, 3) := by decide +kernel
theorem dX5_doing_24 : decode cX5_doing 24 = .ok (.invokestatic 58, 3) := by decide +kernel
theorem dX5_doing_27 : decode cX5_doing 27 = .ok (.ifCond .eq 16, 3) := by decide +kernel
theorem dX5_doing_30 : decode cX5_doing 30 = .ok (.aload_n 0, 1) := by decide +kernel
theorem dX5_doing_31 : decode cX5_doing 31 = .ok (.getfield 20, 3) := by decide +kernel
theorem dX5_doing_34 : decode cX5_doing 34 = .ok (.iconst 3, 1) := by decide +kernel
theorem dX5_doing_35 : decode cX5_doing 35 = .ok (.iload_n 1, 1) := by decide +kernel
theorem dX5_doing_36 : decode cX5_doing 36 = .ok (.imul, 1) := by decide +kernel
theorem dX5_doing_37 : decode cX5_doing 37 = .ok (.iload_n 2, 1) := by decide +kernel
theorem dX5_doing_38 : decode cX5_doing 38 = .ok (.iadd, 1) := by decide +kernel
theorem dX5_doing_39 : decode cX5_doing 39 = .ok (.iaload, 1) := by decide +kernel
theorem dX5_doing_40 : decode cX5_doing 40 = .ok (.goto 4, 3) := by decide +kernel
theorem dX5_doing_43 : decode cX5_doing 43 = .ok (.iconst (-1), 1) := by decide +kernel
theorem dX5_doing_44 : decode cX5_doing 44 = .ok (.ireturn, 1) := by decide +kernel
theorem dX5_begins_0 : decode cX5_begins 0 = .ok (.iconst 0, 1) := by decide +kernel
theorem dX5_begins_1 : decode cX5_begins 1 = .ok (.istore_n 2, 1) := by decide +kernel
theorem dX5_begins_2 : decode cX5_begins 2 = .ok (.iload_n 2, 1) := by decide +kernel
theorem dX5_begins_3 : decode cX5_begins 3 = .ok (.bipush 20, 2) := by decide +kernel
theorem dX5_begins_5 : decode cX5_begins 5 = .ok (.if_icmp .ge 31, 3) := by decide +kernel
theorem dX5_begins_8 : decode cX5_begins 8 = .ok (.aload_n 0, 1) := by decide +kernel
theorem dX5_begins_9 : decode cX5_begins 9 = .ok (.getfield 23, 3) := by decide +kernel
theorem dX5_begins_12 : decode cX5_begins 12 = .ok (.bipush 20, 2) := by decide +kernel
theorem dX5_begins_14 : decode cX5_begins 14 = .ok (.iload_n 1, 1) := by decide +kernel
theorem dX5_begins_15 : decode cX5_begins 15 = .ok (.imul, 1) := by decide +kernel
theorem dX5_begins_16 : decode cX5_begins 16 = .ok (.iload_n 2, 1) := by decide +kernel
theorem dX5_begins_17 : decode cX5_begins 17 = .ok (.iadd, 1) := by decide +kernel
theorem dX5_begins_18 : decode cX5_begins 18 = .ok (.iload_n 2, 1) := by decide +kernel
theorem dX5_begins_19 : decode cX5_begins 19 = .ok (.iconst 4, 1) := by decide +kernel
theorem dX5_begins_20 : decode cX5_begins 20 = .ok (.if_icmp .gt 8, 3) := by decide +kernel
theorem dX5_begins_23 : decode cX5_begins 23 = .ok (.bipush 20, 2) := by decide +kernel
theorem dX5_begins_25 : decode cX5_begins 25 = .ok (.goto 4, 3) := by decide +kernel
theorem dX5_begins_28 : decode cX5_begins 28 = .ok (.iconst 0, 1) := by decide +kernel
theorem dX5_begins_29 : decode cX5_begins 29 = .ok (.iastore, 1) := by decide +kernel
theorem dX5_begins_30 : decode cX5_begins 30 = .ok (.iinc 2 1, 3) := by decide +kernel
theorem dX5_begins_33 : decode cX5_begins 33 = .ok (.goto (-31), 3) := by decide +kernel
theorem dX5_begins_36 : decode cX5_begins 36 = .ok (.aload_n 0, 1) := by decide +kernel
theorem dX5_begins_37 : decode cX5_begins 37 = .ok (.getfield 23, 3) := by decide +kernel
theorem dX5_begins_40 : decode cX5_begins 40 = .ok (.bipush 20, 2) := by decide +kernel
theorem dX5_begins_42 : decode cX5_begins 42 = .ok (.iload_n 1, 1) := by decide +kernel
theorem dX5_begins_43 : decode cX5_begins 43 = .ok (.imul, 1) := by decide +kernel
theorem dX5_begins_44 : decode cX5_begins 44 = .ok (.bipush 9, 2) := by decide +kernel
theorem dX5_begins_46 : decode cX5_begins 46 = .ok (.iadd, 1) := by decide +kernel
theorem dX5_begins_47 : decode cX5_begins 47 = .ok (.aload_n 0, 1) := by decide +kernel
theorem dX5_begins_48 : decode cX5_begins 48 = .ok (.getfield 13, 3) := by decide +kernel
theorem dX5_begins_51 : decode cX5_begins 51 = .ok (.iconst 3, 1) := by decide +kernel
theorem dX5_begins_52 : decode cX5_begins 52 = .ok (.iaload, 1) := by decide +kernel
theorem dX5_begins_53 : decode cX5_begins 53 = .ok (.iastore, 1) := by decide +kernel
theorem dX5_begins_54 : decode cX5_begins 54 = .ok (.aload_n 0, 1) := by decide +kernel
theorem dX5_begins_55 : decode cX5_begins 55 = .ok (.getfield 23, 3) := by decide +kernel
theorem dX5_begins_58 : decode cX5_begins 58 = .ok (.bipush 20, 2) := by decide +kernel
theorem dX5_begins_60 : decode cX5_begins 60 = .ok (.iload_n 1, 1) := by decide +kernel
theorem dX5_begins_61 : decode cX5_begins 61 = .ok (.imul, 1) := by decide +kernel
theorem dX5_begins_62 : decode cX5_begins 62 = .ok (.bipush 14, 2) := by decide +kernel
theorem dX5_begins_64 : decode cX5_begins 64 = .ok (.iadd, 1) := by decide +kernel
theorem dX5_begins_65 : decode cX5_begins 65 = .ok (.bipush (-9), 2) := by decide +kernel
theorem dX5_begins_67 : decode cX5_begins 67 = .ok (.iastore, 1) := by decide +kernel
theorem dX5_begins_68 : decode cX5_begins 68 = .ok (.return_, 1) := by decide +kernel
theorem dX5_press_0 : decode cX5_press 0 = .ok (.bipush 20, 2) := by decide +kernel
theorem dX5_press_2 : decode cX5_press 2 = .ok (.iload_n 1, 1) := by decide +kernel
theorem dX5_press_3 : decode cX5_press 3 = .ok (.imul, 1) := by decide +kernel
theorem dX5_press_4 : decode cX5_press 4 = .ok (.istore_n 2, 1) := by decide +kernel
theorem dX5_press_5 : decode cX5_press 5 = .ok (.aload_n 0, 1) := by decide +kernel
theorem dX5_press_6 : decode cX5_press 6 = .ok (.getfield 23, 3) := by decide +kernel
theorem dX5_press_9 : decode cX5_press 9 = .ok (.iload_n 2, 1) := by decide +kernel
theorem dX5_press_10 : decode cX5_press 10 = .ok (.bipush 13, 2) := by decide +kernel
theorem dX5_press_12 : decode cX5_press 12 = .ok (.iadd, 1) := by decide +kernel
theorem dX5_press_13 : decode cX5_press 13 = .ok (.iaload, 1) := by decide +kernel
theorem dX5_press_14 : decode cX5_press 14 = .ok (.ifCond .le 5, 3) := by decide +kernel
theorem dX5_press_17 : decode cX5_press 17 = .ok (.iconst 0, 1) := by decide +kernel
theorem dX5_press_18 : decode cX5_press 18 = .ok (.ireturn, 1) := by decide +kernel
theorem dX5_press_19 : decode cX5_press 19 = .ok (.aload_n 0, 1) := by decide +kernel
theorem dX5_press_20 : decode cX5_press 20 = .ok (.getfield 23, 3) := by decide +kernel
theorem dX5_press_23 : decode cX5_press 23 = .ok (.iload_n 2, 1) := by decide +kernel
theorem dX5_press_24 : decode cX5_press 24 = .ok (.iconst 4, 1) := by decide +kernel
theorem dX5_press_25 : decode cX5_press 25 = .ok (.iadd, 1) := by decide +kernel
theorem dX5_press_26 : decode cX5_press 26 = .ok (.iaload, 1) := by decide +kernel
theorem dX5_press_27 : decode cX5_press 27 = .ok (.bipush 40, 2) := by decide +kernel
theorem dX5_press_29 : decode cX5_press 29 = .ok (.isub, 1) := by decide +kernel
theorem dX5_press_30 : decode cX5_press 30 = .ok (.iconst 4, 1) := by decide +kernel
theorem dX5_press_31 : decode cX5_press 31 = .ok (.idiv, 1) := by decide +kernel
theorem dX5_press_32 : decode cX5_press 32 = .ok (.istore_n 3, 1) := by decide +kernel
theorem dX5_press_33 : decode cX5_press 33 = .ok (.aload_n 0, 1) := by decide +kernel
theorem dX5_press_34 : decode cX5_press 34 = .ok (.getfield 13, 3) := by decide +kernel
theorem dX5_press_37 : decode cX5_press 37 = .ok (.iconst 2, 1) := by decide +kernel
theorem dX5_press_38 : decode cX5_press 38 = .ok (.iaload, 1) := by decide +kernel
theorem dX5_press_39 : decode cX5_press 39 = .ok (.iload_n 3, 1) := by decide +kernel
theorem dX5_press_40 : decode cX5_press 40 = .ok (.ifCond .le 7, 3) := by decide +kernel
theorem dX5_press_43 : decode cX5_press 43 = .ok (.iload_n 3, 1) := by decide +kernel
theorem dX5_press_44 : decode cX5_press 44 = .ok (.goto 4, 3) := by decide +kernel
theorem dX5_press_47 : decode cX5_press 47 = .ok (.iconst 0, 1) := by decide +kernel
theorem dX5_press_48 : decode cX5_press 48 = .ok (.iadd, 1) := by decide +kernel
theorem dX5_press_49 : decode cX5_press 49 = .ok (.aload_n 0, 1) := by decide +kernel
theorem dX5_press_50 : decode cX5_press 50 = .ok (.getfield 23, 3) := by decide +kernel
theorem dX5_press_53 : decode cX5_press 53 = .ok (.iload_n 2, 1) := by decide +kernel
theorem dX5_press_54 : decode cX5_press 54 = .ok (.bipush 15, 2) := by decide +kernel
theorem dX5_press_56 : decode cX5_press 56 = .ok (.iadd, 1) := by decide +kernel
theorem dX5_press_57 : decode cX5_press 57 = .ok (.iaload, 1) := by decide +kernel
theorem dX5_press_58 : decode cX5_press 58 = .ok (.iconst 2, 1) := by decide +kernel
theorem dX5_press_59 : decode cX5_press 59 = .ok (.idiv, 1) := by decide +kernel
theorem dX5_press_60 : decode cX5_press 60 = .ok (.iadd, 1) := by decide +kernel
theorem dX5_press_61 : decode cX5_press 61 = .ok (.iconst 5, 1) := by decide +kernel
theorem dX5_press_62 : decode cX5_press 62 = .ok (.aload_n 0, 1) := by decide +kernel
theorem dX5_press_63 : decode cX5_press 63 = .ok (.getfield 23, 3) := by decide +kernel
theorem dX5_press_66 : decode cX5_press 66 = .ok (.iload_n 2, 1) := by decide +kernel
theorem dX5_press_67 : decode cX5_press 67 = .ok (.bipush 10, 2) := by decide +kernel
theorem dX5_press_69 : decode cX5_press 69 = .ok (.iadd, 1) := by decide +kernel
theorem dX5_press_70 : decode cX5_press 70 = .ok (.iaload, 1) := by decide +kernel
theorem dX5_press_71 : decode cX5_press 71 = .ok (.imul, 1) := by decide +kernel
theorem dX5_press_72 : decode cX5_press 72 = .ok (.isub, 1) := by decide +kernel
theorem dX5_press_73 : decode cX5_press 73 = .ok (.istore 4, 2) := by decide +kernel
theorem dX5_press_75 : decode cX5_press 75 = .ok (.iload 4, 2) := by decide +kernel
theorem dX5_press_77 : decode cX5_press 77 = .ok (.ifCond .ge 7, 3) := by decide +kernel
theorem dX5_press_80 : decode cX5_press 80 = .ok (.iconst 0, 1) := by decide +kernel
theorem dX5_press_81 : decode cX5_press 81 = .ok (.goto 5, 3) := by decide +kernel
theorem dX5_press_84 : decode cX5_press 84 = .ok (.iload 4, 2) := by decide +kernel
theorem dX5_press_86 : decode cX5_press 86 = .ok (.ireturn, 1) := by decide +kernel
theorem dX5_holdsAt_0 : decode cX5_holdsAt 0 = .ok (.bipush 20, 2) := by decide +kernel
theorem dX5_holdsAt_2 : decode cX5_holdsAt 2 = .ok (.iload_n 1, 1) := by decide +kernel
theorem dX5_holdsAt_3 : decode cX5_holdsAt 3 = .ok (.imul, 1) := by decide +kernel
theorem dX5_holdsAt_4 : decode cX5_holdsAt 4 = .ok (.istore_n 3, 1) := by decide +kernel
theorem dX5_holdsAt_5 : decode cX5_holdsAt 5 = .ok (.aload_n 0, 1) := by decide +kernel
theorem dX5_holdsAt_6 : decode cX5_holdsAt 6 = .ok (.getfield 23, 3) := by decide +kernel
theorem dX5_holdsAt_9 : decode cX5_holdsAt 9 = .ok (.iload_n 3, 1) := by decide +kernel
theorem dX5_holdsAt_10 : decode cX5_holdsAt 10 = .ok (.iload_n 2, 1) := by decide +kernel
theorem dX5_holdsAt_11 : decode cX5_holdsAt 11 = .ok (.iadd, 1) := by decide +kernel
theorem dX5_holdsAt_12 : decode cX5_holdsAt 12 = .ok (.iaload, 1) := by decide +kernel
theorem dX5_holdsAt_13 : decode cX5_holdsAt 13 = .ok (.sipush 150, 3) := by decide +kernel
theorem dX5_holdsAt_16 : decode cX5_holdsAt 16 = .ok (.isub, 1) := by decide +kernel
theorem dX5_holdsAt_17 : decode cX5_holdsAt 17 = .ok (.iconst 2, 1) := by decide +kernel
theorem dX5_holdsAt_18 : decode cX5_holdsAt 18 = .ok (.idiv, 1) := by decide +kernel
theorem dX5_holdsAt_19 : decode cX5_holdsAt 19 = .ok (.istore 4, 2) := by decide +kernel
theorem dX5_holdsAt_21 : decode cX5_holdsAt 21 = .ok (.aload_n 0, 1) := by decide +kernel
theorem dX5_holdsAt_22 : decode cX5_holdsAt 22 = .ok (.getfield 13, 3) := by decide +kernel
theorem dX5_holdsAt_25 : decode cX5_holdsAt 25 = .ok (.iconst 1, 1) := by decide +kernel
theorem dX5_holdsAt_26 : decode cX5_holdsAt 26 = .ok (.iaload, 1) := by decide +kernel
theorem dX5_holdsAt_27 : decode cX5_holdsAt 27 = .ok (.iload 4, 2) := by decide +kernel
theorem dX5_holdsAt_29 : decode cX5_holdsAt 29 = .ok (.ifCond .le 8, 3) := by decide +kernel
theorem dX5_holdsAt_32 : decode cX5_holdsAt 32 = .ok (.iload 4, 2) := by decide +kernel
theorem dX5_holdsAt_34 : decode cX5_holdsAt 34 = .ok (.goto 4, 3) := by decide +kernel
theorem dX5_holdsAt_37 : decode cX5_holdsAt 37 = .ok (.iconst 0, 1) := by decide +kernel
theorem dX5_holdsAt_38 : decode cX5_holdsAt 38 = .ok (.isub, 1) := by decide +kernel
theorem dX5_holdsAt_39 : decode cX5_holdsAt 39 = .ok (.aload_n 0, 1) := by decide +kernel
theorem dX5_holdsAt_40 : decode cX5_holdsAt 40 = .ok (.getfield 23, 3) := by decide +kernel
theorem dX5_holdsAt_43 : decode cX5_holdsAt 43 = .ok (.iload_n 3, 1) := by decide +kernel
theorem dX5_holdsAt_44 : decode cX5_holdsAt 44 = .ok (.bipush 11, 2) := by decide +kernel
theorem dX5_holdsAt_46 : decode cX5_holdsAt 46 = .ok (.iadd, 1) := by decide +kernel
theorem dX5_holdsAt_47 : decode cX5_holdsAt 47 = .ok (.iaload, 1) := by decide +kernel
theorem dX5_holdsAt_48 : decode cX5_holdsAt 48 = .ok (.iload_n 2, 1) := by decide +kernel
theorem dX5_holdsAt_49 : decode cX5_holdsAt 49 = .ok (.ishr, 1) := by decide +kernel
theorem dX5_holdsAt_50 : decode cX5_holdsAt 50 = .ok (.iconst 1, 1) := by decide +kernel
theorem dX5_holdsAt_51 : decode cX5_holdsAt 51 = .ok (.iand, 1) := by decide +kernel
theorem dX5_holdsAt_52 : decode cX5_holdsAt 52 = .ok (.iconst 1, 1) := by decide +kernel
theorem dX5_holdsAt_53 : decode cX5_holdsAt 53 = .ok (.if_icmp .ne 12, 3) := by decide +kernel
theorem dX5_holdsAt_56 : decode cX5_holdsAt 56 = .ok (.aload_n 0, 1) := by decide +kernel
theorem dX5_holdsAt_57 : decode cX5_holdsAt 57 = .ok (.getfield 13, 3) := by decide +kernel
theorem dX5_holdsAt_60 : decode cX5_holdsAt 60 = .ok (.iconst 5, 1) := by decide +kernel
theorem dX5_holdsAt_61 : decode cX5_holdsAt 61 = .ok (.iaload, 1) := by decide +kernel
theorem dX5_holdsAt_62 : decode cX5_holdsAt 62 = .ok (.goto 4, 3) := by decide +kernel
theorem dX5_holdsAt_65 : decode cX5_holdsAt 65 = .ok (.iconst 0, 1) := by decide +kernel
theorem dX5_holdsAt_66 : decode cX5_holdsAt 66 = .ok (.isub, 1) := by decide +kernel
theorem dX5_holdsAt_67 : decode cX5_holdsAt 67 = .ok (.istore 5, 2) := by decide +kernel
theorem dX5_holdsAt_69 : decode cX5_holdsAt 69 = .ok (.iload 5, 2) := by decide +kernel
theorem dX5_holdsAt_71 : decode cX5_holdsAt 71 = .ok (.iconst 1, 1) := by decide +kernel
theorem dX5_holdsAt_72 : decode cX5_holdsAt 72 = .ok (.if_icmp .ge 7, 3) := by decide +kernel
theorem dX5_holdsAt_75 : decode cX5_holdsAt 75 = .ok (.iconst 1, 1) := by decide +kernel
theorem dX5_holdsAt_76 : decode cX5_holdsAt 76 = .ok (.goto 5, 3) := by decide +kernel
theorem dX5_holdsAt_79 : decode cX5_holdsAt 79 = .ok (.iload 5, 2) := by decide +kernel
theorem dX5_holdsAt_81 : decode cX5_holdsAt 81 = .ok (.ireturn, 1) := by decide +kernel
theorem dX5_pulls_0 : decode cX5_pulls 0 = .ok (.iload_n 1, 1) := by decide +kernel
theorem dX5_pulls_1 : decode cX5_pulls 1 = .ok (.aload_n 0, 1) := by decide +kernel
theorem dX5_pulls_2 : decode cX5_pulls 2 = .ok (.getfield 13, 3) := by decide +kernel
theorem dX5_pulls_5 : decode cX5_pulls 5 = .ok (.iconst 0, 1) := by decide +kernel
theorem dX5_pulls_6 : decode cX5_pulls 6 = .ok (.iaload, 1) := by decide +kernel
theorem dX5_pulls_7 : decode cX5_pulls 7 = .ok (.imul, 1) := by decide +kernel
theorem dX5_pulls_8 : decode cX5_pulls 8 = .ok (.iload_n 2, 1) := by decide +kernel
theorem dX5_pulls_9 : decode cX5_pulls 9 = .ok (.aload_n 0, 1) := by decide +kernel
theorem dX5_pulls_10 : decode cX5_pulls 10 = .ok (.getfield 13, 3) := by decide +kernel
theorem dX5_pulls_13 : decode cX5_pulls 13 = .ok (.bipush 7, 2) := by decide +kernel
theorem dX5_pulls_15 : decode cX5_pulls 15 = .ok (.iaload, 1) := by decide +kernel
theorem dX5_pulls_16 : decode cX5_pulls 16 = .ok (.if_icmp .ne 13, 3) := by decide +kernel
theorem dX5_pulls_19 : decode cX5_pulls 19 = .ok (.aload_n 0, 1) := by decide +kernel
theorem dX5_pulls_20 : decode cX5_pulls 20 = .ok (.getfield 13, 3) := by decide +kernel
theorem dX5_pulls_23 : decode cX5_pulls 23 = .ok (.bipush 8, 2) := by decide +kernel
theorem dX5_pulls_25 : decode cX5_pulls 25 = .ok (.iaload, 1) := by decide +kernel
theorem dX5_pulls_26 : decode cX5_pulls 26 = .ok (.goto 4, 3) := by decide +kernel
theorem dX5_pulls_29 : decode cX5_pulls 29 = .ok (.iconst 0, 1) := by decide +kernel
theorem dX5_pulls_30 : decode cX5_pulls 30 = .ok (.iadd, 1) := by decide +kernel
theorem dX5_pulls_31 : decode cX5_pulls 31 = .ok (.ireturn, 1) := by decide +kernel
set_option maxRecDepth 20000 in
theorem ggX5_second_X5_press : GoodIn wsX5_second wsX5_press := goodIn_r _ [7, 1, 2, 16, 17, 18, 19, 20, 21, 22, 23, 24, 25, 26, 27, 28, 29, 30, 31, 32, 33, 34, 35, 36, 37, 38, 39, 40] (by decide +kernel) (by decide +kernel)
set_option maxRecDepth 20000 in
theorem gX5_second_X5_press : GoodIn wsX5_second (wsV RX5 150 RX5 yX5_press wsX5_press) := goodIn_app (goodIn_of _ (by decide +kernel)) ggX5_second_X5_press
set_option maxRecDepth 20000 in
theorem ggX5_second_X5_pulls : GoodIn wsX5_second wsX5_pulls := goodIn_r _ [11, 2, 16, 17, 18, 19, 20, 21, 22, 23, 24, 25, 26, 27, 28, 29, 30, 31, 32, 33, 34, 35, 36, 37, 38, 39, 40] (by decide +kernel) (by decide +kernel)
set_option maxRecDepth 20000 in
theorem gX5_second_X5_pulls : GoodIn wsX5_second (wsV RX5 153 RX5 yX5_pulls wsX5_pulls) := goodIn_app (goodIn_of _ (by decide +kernel)) ggX5_second_X5_pulls
set_option maxRecDepth 20000 in
theorem ggX5_second_X5_holdsAt : GoodIn wsX5_second wsX5_holdsAt := goodIn_r _ [15, 1, 2, 16, 17, 18, 19, 20, 21, 22, 23, 24, 25, 26, 27, 28, 29, 30, 31, 32, 33, 34, 35, 36, 37, 38, 39, 40] (by decide +kernel) (by decide +kernel)
set_option maxRecDepth 20000 in
theorem gX5_second_X5_holdsAt : GoodIn wsX5_second (wsV RX5 157 RX5 yX5_holdsAt wsX5_holdsAt) := goodIn_app (goodIn_of _ (by decide +kernel)) ggX5_second_X5_holdsAt
theorem dX5_second_0 : decode cX5_second 0 = .ok (.bipush 20, 2) := by decide +kernel
theorem dX5_second_2 : decode cX5_second 2 = .ok (.iload_n 1, 1) := by decide +kernel
theorem dX5_second_3 : decode cX5_second 3 = .ok (.imul, 1) := by decide +kernel
theorem dX5_second_4 : decode cX5_second 4 = .ok (.istore 4, 2) := by decide +kernel
theorem dX5_second_6 : decode cX5_second 6 = .ok (.iconst 0, 1) := by decide +kernel
theorem dX5_second_7 : decode cX5_second 7 = .ok (.istore 5, 2) := by decide +kernel
theorem dX5_second_9 : decode cX5_second 9 = .ok (.iconst 0, 1) := by decide +kernel
theorem dX5_second_10 : decode cX5_second 10 = .ok (.istore 6, 2) := by decide +kernel
theorem dX5_second_12 : decode cX5_second 12 = .ok (.iconst 0, 1) := by decide +kernel
theorem dX5_second_13 : decode cX5_second 13 = .ok (.istore 7, 2) := by decide +kernel
theorem dX5_second_15 : decode cX5_second 15 = .ok (.iload 7, 2) := by decide +kernel
theorem dX5_second_17 : decode cX5_second 17 = .ok (.iconst 4, 1) := by decide +kernel
theorem dX5_second_18 : decode cX5_second 18 = .ok (.if_icmp .ge 125, 3) := by decide +kernel
theorem dX5_second_21 : decode cX5_second 21 = .ok (.aload_n 0, 1) := by decide +kernel
theorem dX5_second_22 : decode cX5_second 22 = .ok (.getfield 23, 3) := by decide +kernel
theorem dX5_second_25 : decode cX5_second 25 = .ok (.iload 4, 2) := by decide +kernel
theorem dX5_second_27 : decode cX5_second 27 = .ok (.iload 7, 2) := by decide +kernel
theorem dX5_second_29 : decode cX5_second 29 = .ok (.iadd, 1) := by decide +kernel
theorem dX5_second_30 : decode cX5_second 30 = .ok (.iaload, 1) := by decide +kernel
theorem dX5_second_31 : decode cX5_second 31 = .ok (.istore 8, 2) := by decide +kernel
theorem dX5_second_33 : decode cX5_second 33 = .ok (.aload_n 0, 1) := by decide +kernel
theorem dX5_second_34 : decode cX5_second 34 = .ok (.getfield 23, 3) := by decide +kernel
theorem dX5_second_37 : decode cX5_second 37 = .ok (.iload 4, 2) := by decide +kernel
theorem dX5_second_39 : decode cX5_second 39 = .ok (.iload 7, 2) := by decide +kernel
theorem dX5_second_41 : decode cX5_second 41 = .ok (.iadd, 1) := by decide +kernel
theorem dX5_second_42 : decode cX5_second 42 = .ok (.iload_n 3, 1) := by decide +kernel
theorem dX5_second_43 : decode cX5_second 43 = .ok (.ifCond .ne 18, 3) := by decide +kernel
theorem dX5_second_46 : decode cX5_second 46 = .ok (.iload 7, 2) := by decide +kernel
theorem dX5_second_48 : decode cX5_second 48 = .ok (.aload_n 0, 1) := by decide +kernel
theorem dX5_second_49 : decode cX5_second 49 = .ok (.getfield 23, 3) := by decide +kernel
theorem dX5_second_52 : decode cX5_second 52 = .ok (.iload 4, 2) := by decide +kernel
theorem dX5_second_54 : decode cX5_second 54 = .ok (.bipush 16, 2) := by decide +kernel
theorem dX5_second_56 : decode cX5_second 56 = .ok (.iadd, 1) := by decide +kernel
theorem dX5_second_57 : decode cX5_second 57 = .ok (.iaload, 1) := by decide +kernel
theorem dX5_second_58 : decode cX5_second 58 = .ok (.if_icmp .ne 15, 3) := by decide +kernel
theorem dX5_second_61 : decode cX5_second 61 = .ok (.iload 8, 2) := by decide +kernel
theorem dX5_second_63 : decode cX5_second 63 = .ok (.iload_n 2, 1) := by decide +kernel
theorem dX5_second_64 : decode cX5_second 64 = .ok (.iload 8, 2) := by decide +kernel
theorem dX5_second_66 : decode cX5_second 66 = .ok (.isub, 1) := by decide +kernel
theorem dX5_second_67 : decode cX5_second 67 = .ok (.iconst 4, 1) := by decide +kernel
theorem dX5_second_68 : decode cX5_second 68 = .ok (.idiv, 1) := by decide +kernel
theorem dX5_second_69 : decode cX5_second 69 = .ok (.iadd, 1) := by decide +kernel
theorem dX5_second_70 : decode cX5_second 70 = .ok (.goto 14, 3) := by decide +kernel
theorem dX5_second_73 : decode cX5_second 73 = .ok (.iload 8, 2) := by decide +kernel
theorem dX5_second_75 : decode cX5_second 75 = .ok (.iload 8, 2) := by decide +kernel
theorem dX5_second_77 : decode cX5_second 77 = .ok (.bipush 20, 2) := by decide +kernel
theorem dX5_second_79 : decode cX5_second 79 = .ok (.isub, 1) := by decide +kernel
theorem dX5_second_80 : decode cX5_second 80 = .ok (.bipush 16, 2) := by decide +kernel
theorem dX5_second_82 : decode cX5_second 82 = .ok (.idiv, 1) := by decide +kernel
theorem dX5_second_83 : decode cX5_second 83 = .ok (.isub, 1) := by decide +kernel
theorem dX5_second_84 : decode cX5_second 84 = .ok (.iastore, 1) := by decide +kernel
theorem dX5_second_85 : decode cX5_second 85 = .ok (.iload 5, 2) := by decide +kernel
theorem dX5_second_87 : decode cX5_second 87 = .ok (.aload_n 0, 1) := by decide +kernel
theorem dX5_second_88 : decode cX5_second 88 = .ok (.getfield 23, 3) := by decide +kernel
theorem dX5_second_91 : decode cX5_second 91 = .ok (.iload 4, 2) := by decide +kernel
theorem dX5_second_93 : decode cX5_second 93 = .ok (.iload 7, 2) := by decide +kernel
theorem dX5_second_95 : decode cX5_second 95 = .ok (.iadd, 1) := by decide +kernel
theorem dX5_second_96 : decode cX5_second 96 = .ok (.iaload, 1) := by decide +kernel
theorem dX5_second_97 : decode cX5_second 97 = .ok (.iadd, 1) := by decide +kernel
theorem dX5_second_98 : decode cX5_second 98 = .ok (.istore 5, 2) := by decide +kernel
theorem dX5_second_100 : decode cX5_second 100 = .ok (.iload 7, 2) := by decide +kernel
theorem dX5_second_102 : decode cX5_second 102 = .ok (.ifCond .eq 18, 3) := by decide +kernel
theorem dX5_second_105 : decode cX5_second 105 = .ok (.aload_n 0, 1) := by decide +kernel
theorem dX5_second_106 : decode cX5_second 106 = .ok (.getfield 23, 3) := by decide +kernel
theorem dX5_second_109 : decode cX5_second 109 = .ok (.iload 4, 2) := by decide +kernel
theorem dX5_second_111 : decode cX5_second 111 = .ok (.iload 7, 2) := by decide +kernel
theorem dX5_second_113 : decode cX5_second 113 = .ok (.iadd, 1) := by decide +kernel
theorem dX5_second_114 : decode cX5_second 114 = .ok (.iaload, 1) := by decide +kernel
theorem dX5_second_115 : decode cX5_second 115 = .ok (.iload 6, 2) := by decide +kernel
theorem dX5_second_117 : decode cX5_second 117 = .ok (.if_icmp .le 16, 3) := by decide +kernel
theorem dX5_second_120 : decode cX5_second 120 = .ok (.aload_n 0, 1) := by decide +kernel
theorem dX5_second_121 : decode cX5_second 121 = .ok (.getfield 23, 3) := by decide +kernel
theorem dX5_second_124 : decode cX5_second 124 = .ok (.iload 4, 2) := by decide +kernel
theorem dX5_second_126 : decode cX5_second 126 = .ok (.iload 7, 2) := by decide +kernel
theorem dX5_second_128 : decode cX5_second 128 = .ok (.iadd, 1) := by decide +kernel
theorem dX5_second_129 : decode cX5_second 129 = .ok (.iaload, 1) := by decide +kernel
theorem dX5_second_130 : decode cX5_second 130 = .ok (.goto 5, 3) := by decide +kernel
theorem dX5_second_133 : decode cX5_second 133 = .ok (.iload 6, 2) := by decide +kernel
theorem dX5_second_135 : decode cX5_second 135 = .ok (.istore 6, 2) := by decide +kernel
theorem dX5_second_137 : decode cX5_second 137 = .ok (.iinc 7 1, 3) := by decide +kernel
theorem dX5_second_140 : decode cX5_second 140 = .ok (.goto (-125), 3) := by decide +kernel
theorem dX5_second_143 : decode cX5_second 143 = .ok (.aload_n 0, 1) := by decide +kernel
theorem dX5_second_144 : decode cX5_second 144 = .ok (.getfield 23, 3) := by decide +kernel
theorem dX5_second_147 : decode cX5_second 147 = .ok (.iload 4, 2) := by decide +kernel
theorem dX5_second_149 : decode cX5_second 149 = .ok (.iconst 4, 1) := by decide +kernel
theorem dX5_second_150 : decode cX5_second 150 = .ok (.iadd, 1) := by decide +kernel
theorem dX5_second_151 : decode cX5_second 151 = .ok (.dup2, 1) := by decide +kernel
theorem dX5_second_152 : decode cX5_second 152 = .ok (.iaload, 1) := by decide +kernel
theorem dX5_second_153 : decode cX5_second 153 = .ok (.iload 5, 2) := by decide +kernel
theorem dX5_second_155 : decode cX5_second 155 = .ok (.iconst 4, 1) := by decide +kernel
theorem dX5_second_156 : decode cX5_second 156 = .ok (.aload_n 0, 1) := by decide +kernel
theorem dX5_second_157 : decode cX5_second 157 = .ok (.getfield 23, 3) := by decide +kernel
theorem dX5_second_160 : decode cX5_second 160 = .ok (.iload 4, 2) := by decide +kernel
theorem dX5_second_162 : decode cX5_second 162 = .ok (.iconst 4, 1) := by decide +kernel
theorem dX5_second_163 : decode cX5_second 163 = .ok (.iadd, 1) := by decide +kernel
theorem dX5_second_164 : decode cX5_second 164 = .ok (.iaload, 1) := by decide +kernel
theorem dX5_second_165 : decode cX5_second 165 = .ok (.imul, 1) := by decide +kernel
theorem dX5_second_166 : decode cX5_second 166 = .ok (.isub, 1) := by decide +kernel
theorem dX5_second_167 : decode cX5_second 167 = .ok (.bipush 8, 2) := by decide +kernel
theorem dX5_second_169 : decode cX5_second 169 = .ok (.aload_n 0, 1) := by decide +kernel
theorem dX5_second_170 : decode cX5_second 170 = .ok (.getfield 13, 3) := by decide +kernel
theorem dX5_second_173 : decode cX5_second 173 = .ok (.iconst 0, 1) := by decide +kernel
theorem dX5_second_174 : decode cX5_second 174 = .ok (.iaload, 1) := by decide +kernel
theorem dX5_second_175 : decode cX5_second 175 = .ok (.imul, 1) := by decide +kernel
theorem dX5_second_176 : decode cX5_second 176 = .ok (.idiv, 1) := by decide +kernel
theorem dX5_second_177 : decode cX5_second 177 = .ok (.iadd, 1) := by decide +kernel
theorem dX5_second_178 : decode cX5_second 178 = .ok (.iastore, 1) := by decide +kernel
theorem dX5_second_179 : decode cX5_second 179 = .ok (.aload_n 0, 1) := by decide +kernel
theorem dX5_second_180 : decode cX5_second 180 = .ok (.getfield 23, 3) := by decide +kernel
theorem dX5_second_183 : decode cX5_second 183 = .ok (.iload 4, 2) := by decide +kernel
theorem dX5_second_185 : decode cX5_second 185 = .ok (.iconst 4, 1) := by decide +kernel
theorem dX5_second_186 : decode cX5_second 186 = .ok (.iadd, 1) := by decide +kernel
theorem dX5_second_187 : decode cX5_second 187 = .ok (.iaload, 1) := by decide +kernel
theorem dX5_second_188 : decode cX5_second 188 = .ok (.iload 6, 2) := by decide +kernel
theorem dX5_second_190 : decode cX5_second 190 = .ok (.if_icmp .le 15, 3) := by decide +kernel
theorem dX5_second_193 : decode cX5_second 193 = .ok (.aload_n 0, 1) := by decide +kernel
theorem dX5_second_194 : decode cX5_second 194 = .ok (.getfield 23, 3) := by decide +kernel
theorem dX5_second_197 : decode cX5_second 197 = .ok (.iload 4, 2) := by decide +kernel
theorem dX5_second_199 : decode cX5_second 199 = .ok (.iconst 4, 1) := by decide +kernel
theorem dX5_second_200 : decode cX5_second 200 = .ok (.iadd, 1) := by decide +kernel
theorem dX5_second_201 : decode cX5_second 201 = .ok (.iaload, 1) := by decide +kernel
theorem dX5_second_202 : decode cX5_second 202 = .ok (.goto 5, 3) := by decide +kernel
theorem dX5_second_205 : decode cX5_second 205 = .ok (.iload 6, 2) := by decide +kernel
theorem dX5_second_207 : decode cX5_second 207 = .ok (.istore 6, 2) := by decide +kernel
theorem dX5_second_209 : decode cX5_second 209 = .ok (.aload_n 0, 1) := by decide +kernel
theorem dX5_second_210 : decode cX5_second 210 = .ok (.getfield 23, 3) := by decide +kernel
theorem dX5_second_213 : decode cX5_second 213 = .ok (.iload 4, 2) := by decide +kernel
theorem dX5_second_215 : decode cX5_second 215 = .ok (.bipush 15, 2) := by decide +kernel
theorem dX5_second_217 : decode cX5_second 217 = .ok (.iadd, 1) := by decide +kernel
theorem dX5_second_218 : decode cX5_second 218 = .ok (.iload 6, 2) := by decide +kernel
theorem dX5_second_220 : decode cX5_second 220 = .ok (.bipush 100, 2) := by decide +kernel
theorem dX5_second_222 : decode cX5_second 222 = .ok (.if_icmp .le 24, 3) := by decide +kernel
theorem dX5_second_225 : decode cX5_second 225 = .ok (.aload_n 0, 1) := by decide +kernel
theorem dX5_second_226 : decode cX5_second 226 = .ok (.getfield 23, 3) := by decide +kernel
theorem dX5_second_229 : decode cX5_second 229 = .ok (.iload 4, 2) := by decide +kernel
theorem dX5_second_231 : decode cX5_second 231 = .ok (.bipush 9, 2) := by decide +kernel
theorem dX5_second_233 : decode cX5_second 233 = .ok (.iadd, 1) := by decide +kernel
theorem dX5_second_234 : decode cX5_second 234 = .ok (.iaload, 1) := by decide +kernel
theorem dX5_second_235 : decode cX5_second 235 = .ok (.ifCond .le 11, 3) := by decide +kernel
theorem dX5_second_238 : decode cX5_second 238 = .ok (.iload 6, 2) := by decide +kernel
theorem dX5_second_240 : decode cX5_second 240 = .ok (.bipush 100, 2) := by decide +kernel
theorem dX5_second_242 : decode cX5_second 242 = .ok (.isub, 1) := by decide +kernel
theorem dX5_second_243 : decode cX5_second 243 = .ok (.goto 4, 3) := by decide +kernel
theorem dX5_second_246 : decode cX5_second 246 = .ok (.iconst 0, 1) := by decide +kernel
theorem dX5_second_247 : decode cX5_second 247 = .ok (.iastore, 1) := by decide +kernel
theorem dX5_second_248 : decode cX5_second 248 = .ok (.aload_n 0, 1) := by decide +kernel
theorem dX5_second_249 : decode cX5_second 249 = .ok (.getfield 23, 3) := by decide +kernel
theorem dX5_second_252 : decode cX5_second 252 = .ok (.iload 4, 2) := by decide +kernel
theorem dX5_second_254 : decode cX5_second 254 = .ok (.bipush 15, 2) := by decide +kernel
theorem dX5_second_256 : decode cX5_second 256 = .ok (.iadd, 1) := by decide +kernel
theorem dX5_second_257 : decode cX5_second 257 = .ok (.iaload, 1) := by decide +kernel
theorem dX5_second_258 : decode cX5_second 258 = .ok (.bipush 20, 2) := by decide +kernel
theorem dX5_second_260 : decode cX5_second 260 = .ok (.idiv, 1) := by decide +kernel
theorem dX5_second_261 : decode cX5_second 261 = .ok (.aload_n 0, 1) := by decide +kernel
theorem dX5_second_262 : decode cX5_second 262 = .ok (.getfield 23, 3) := by decide +kernel
theorem dX5_second_265 : decode cX5_second 265 = .ok (.iload 4, 2) := by decide +kernel
theorem dX5_second_267 : decode cX5_second 267 = .ok (.iconst 4, 1) := by decide +kernel
theorem dX5_second_268 : decode cX5_second 268 = .ok (.iadd, 1) := by decide +kernel
theorem dX5_second_269 : decode cX5_second 269 = .ok (.iaload, 1) := by decide +kernel
theorem dX5_second_270 : decode cX5_second 270 = .ok (.bipush 60, 2) := by decide +kernel
theorem dX5_second_272 : decode cX5_second 272 = .ok (.if_icmp .le 18, 3) := by decide +kernel
theorem dX5_second_275 : decode cX5_second 275 = .ok (.aload_n 0, 1) := by decide +kernel
theorem dX5_second_276 : decode cX5_second 276 = .ok (.getfield 23, 3) := by decide +kernel
theorem dX5_second_279 : decode cX5_second 279 = .ok (.iload 4, 2) := by decide +kernel
theorem dX5_second_281 : decode cX5_second 281 = .ok (.bipush 10, 2) := by decide +kernel
theorem dX5_second_283 : decode cX5_second 283 = .ok (.iadd, 1) := by decide +kernel
theorem dX5_second_284 : decode cX5_second 284 = .ok (.iaload, 1) := by decide +kernel
theorem dX5_second_285 : decode cX5_second 285 = .ok (.iconst 3, 1) := by decide +kernel
theorem dX5_second_286 : decode cX5_second 286 = .ok (.idiv, 1) := by decide +kernel
theorem dX5_second_287 : decode cX5_second 287 = .ok (.goto 4, 3) := by decide +kernel
theorem dX5_second_290 : decode cX5_second 290 = .ok (.iconst 0, 1) := by decide +kernel
theorem dX5_second_291 : decode cX5_second 291 = .ok (.iadd, 1) := by decide +kernel
theorem dX5_second_292 : decode cX5_second 292 = .ok (.istore 7, 2) := by decide +kernel
theorem dX5_second_294 : decode cX5_second 294 = .ok (.aload_n 0, 1) := by decide +kernel
theorem dX5_second_295 : decode cX5_second 295 = .ok (.getfield 23, 3) := by decide +kernel
theorem dX5_second_298 : decode cX5_second 298 = .ok (.iload 4, 2) := by decide +kernel
theorem dX5_second_300 : decode cX5_second 300 = .ok (.bipush 9, 2) := by decide +kernel
theorem dX5_second_302 : decode cX5_second 302 = .ok (.iadd, 1) := by decide +kernel
theorem dX5_second_303 : decode cX5_second 303 = .ok (.aload_n 0, 1) := by decide +kernel
theorem dX5_second_304 : decode cX5_second 304 = .ok (.getfield 23, 3) := by decide +kernel
theorem dX5_second_307 : decode cX5_second 307 = .ok (.iload 4, 2) := by decide +kernel
theorem dX5_second_309 : decode cX5_second 309 = .ok (.bipush 9, 2) := by decide +kernel
theorem dX5_second_311 : decode cX5_second 311 = .ok (.iadd, 1) := by decide +kernel
theorem dX5_second_312 : decode cX5_second 312 = .ok (.iaload, 1) := by decide +kernel
theorem dX5_second_313 : decode cX5_second 313 = .ok (.iload 7, 2) := by decide +kernel
theorem dX5_second_315 : decode cX5_second 315 = .ok (.if_icmp .le 19, 3) := by decide +kernel
theorem dX5_second_318 : decode cX5_second 318 = .ok (.aload_n 0, 1) := by decide +kernel
theorem dX5_second_319 : decode cX5_second 319 = .ok (.getfield 23, 3) := by decide +kernel
theorem dX5_second_322 : decode cX5_second 322 = .ok (.iload 4, 2) := by decide +kernel
theorem dX5_second_324 : decode cX5_second 324 = .ok (.bipush 9, 2) := by decide +kernel
theorem dX5_second_326 : decode cX5_second 326 = .ok (.iadd, 1) := by decide +kernel
theorem dX5_second_327 : decode cX5_second 327 = .ok (.iaload, 1) := by decide +kernel
theorem dX5_second_328 : decode cX5_second 328 = .ok (.iload 7, 2) := by decide +kernel
theorem dX5_second_330 : decode cX5_second 330 = .ok (.isub, 1) := by decide +kernel
theorem dX5_second_331 : decode cX5_second 331 = .ok (.goto 4, 3) := by decide +kernel
theorem dX5_second_334 : decode cX5_second 334 = .ok (.iconst 0, 1) := by decide +kernel
theorem dX5_second_335 : decode cX5_second 335 = .ok (.iastore, 1) := by decide +kernel
theorem dX5_second_336 : decode cX5_second 336 = .ok (.iconst 0, 1) := by decide +kernel
theorem dX5_second_337 : decode cX5_second 337 = .ok (.istore 8, 2) := by decide +kernel
theorem dX5_second_339 : decode cX5_second 339 = .ok (.iload 8, 2) := by decide +kernel
theorem dX5_second_341 : decode cX5_second 341 = .ok (.iconst 4, 1) := by decide +kernel
theorem dX5_second_342 : decode cX5_second 342 = .ok (.if_icmp .ge 81, 3) := by decide +kernel
theorem dX5_second_345 : decode cX5_second 345 = .ok (.aload_n 0, 1) := by decide +kernel
theorem dX5_second_346 : decode cX5_second 346 = .ok (.getfield 23, 3) := by decide +kernel
theorem dX5_second_349 : decode cX5_second 349 = .ok (.iload 4, 2) := by decide +kernel
theorem dX5_second_351 : decode cX5_second 351 = .ok (.iload 8, 2) := by decide +kernel
theorem dX5_second_353 : decode cX5_second 353 = .ok (.iadd, 1) := by decide +kernel
theorem dX5_second_354 : decode cX5_second 354 = .ok (.iaload, 1) := by decide +kernel
theorem dX5_second_355 : decode cX5_second 355 = .ok (.bipush 120, 2) := by decide +kernel
theorem dX5_second_357 : decode cX5_second 357 = .ok (.isub, 1) := by decide +kernel
theorem dX5_second_358 : decode cX5_second 358 = .ok (.bipush 10, 2) := by decide +kernel
theorem dX5_second_360 : decode cX5_second 360 = .ok (.idiv, 1) := by decide +kernel
theorem dX5_second_361 : decode cX5_second 361 = .ok (.istore 9, 2) := by decide +kernel
theorem dX5_second_363 : decode cX5_second 363 = .ok (.aload_n 0, 1) := by decide +kernel
theorem dX5_second_364 : decode cX5_second 364 = .ok (.getfield 23, 3) := by decide +kernel
theorem dX5_second_367 : decode cX5_second 367 = .ok (.iload 4, 2) := by decide +kernel
theorem dX5_second_369 : decode cX5_second 369 = .ok (.iconst 5, 1) := by decide +kernel
theorem dX5_second_370 : decode cX5_second 370 = .ok (.iadd, 1) := by decide +kernel
theorem dX5_second_371 : decode cX5_second 371 = .ok (.iload 8, 2) := by decide +kernel
theorem dX5_second_373 : decode cX5_second 373 = .ok (.iadd, 1) := by decide +kernel
theorem dX5_second_374 : decode cX5_second 374 = .ok (.iaload, 1) := by decide +kernel
theorem dX5_second_375 : decode cX5_second 375 = .ok (.iload 9, 2) := by decide +kernel
theorem dX5_second_377 : decode cX5_second 377 = .ok (.ifCond .le 8, 3) := by decide +kernel
theorem dX5_second_380 : decode cX5_second 380 = .ok (.iload 9, 2) := by decide +kernel
theorem dX5_second_382 : decode cX5_second 382 = .ok (.goto 4, 3) := by decide +kernel
theorem dX5_second_385 : decode cX5_second 385 = .ok (.iconst 0, 1) := by decide +kernel
theorem dX5_second_386 : decode cX5_second 386 = .ok (.iadd, 1) := by decide +kernel
theorem dX5_second_387 : decode cX5_second 387 = .ok (.istore 10, 2) := by decide +kernel
theorem dX5_second_389 : decode cX5_second 389 = .ok (.aload_n 0, 1) := by decide +kernel
theorem dX5_second_390 : decode cX5_second 390 = .ok (.getfield 23, 3) := by decide +kernel
theorem dX5_second_393 : decode cX5_second 393 = .ok (.iload 4, 2) := by decide +kernel
theorem dX5_second_395 : decode cX5_second 395 = .ok (.iconst 5, 1) := by decide +kernel
theorem dX5_second_396 : decode cX5_second 396 = .ok (.iadd, 1) := by decide +kernel
theorem dX5_second_397 : decode cX5_second 397 = .ok (.iload 8, 2) := by decide +kernel
theorem dX5_second_399 : decode cX5_second 399 = .ok (.iadd, 1) := by decide +kernel
theorem dX5_second_400 : decode cX5_second 400 = .ok (.iload 10, 2) := by decide +kernel
theorem dX5_second_402 : decode cX5_second 402 = .ok (.sipush 999, 3) := by decide +kernel
theorem dX5_second_405 : decode cX5_second 405 = .ok (.if_icmp .le 9, 3) := by decide +kernel
theorem dX5_second_408 : decode cX5_second 408 = .ok (.sipush 999, 3) := by decide +kernel
theorem dX5_second_411 : decode cX5_second 411 = .ok (.goto 5, 3) := by decide +kernel
theorem dX5_second_414 : decode cX5_second 414 = .ok (.iload 10, 2) := by decide +kernel
theorem dX5_second_416 : decode cX5_second 416 = .ok (.iastore, 1) := by decide +kernel
theorem dX5_second_417 : decode cX5_second 417 = .ok (.iinc 8 1, 3) := by decide +kernel
theorem dX5_second_420 : decode cX5_second 420 = .ok (.goto (-81), 3) := by decide +kernel
theorem dX5_second_423 : decode cX5_second 423 = .ok (.aload_n 0, 1) := by decide +kernel
theorem dX5_second_424 : decode cX5_second 424 = .ok (.getfield 23, 3) := by decide +kernel
theorem dX5_second_427 : decode cX5_second 427 = .ok (.iload 4, 2) := by decide +kernel
theorem dX5_second_429 : decode cX5_second 429 = .ok (.bipush 12, 2) := by decide +kernel
theorem dX5_second_431 : decode cX5_second 431 = .ok (.iadd, 1) := by decide +kernel
theorem dX5_second_432 : decode cX5_second 432 = .ok (.dup2, 1) := by decide +kernel
theorem dX5_second_433 : decode cX5_second 433 = .ok (.iaload, 1) := by decide +kernel
theorem dX5_second_434 : decode cX5_second 434 = .ok (.iconst 1, 1) := by decide +kernel
theorem dX5_second_435 : decode cX5_second 435 = .ok (.iadd, 1) := by decide +kernel
theorem dX5_second_436 : decode cX5_second 436 = .ok (.iastore, 1) := by decide +kernel
theorem dX5_second_437 : decode cX5_second 437 = .ok (.aload_n 0, 1) := by decide +kernel
theorem dX5_second_438 : decode cX5_second 438 = .ok (.iload_n 1, 1) := by decide +kernel
theorem dX5_second_439 : decode cX5_second 439 = .ok (.invokevirtual 150, 3) := by decide +kernel
theorem dX5_second_442 : decode cX5_second 442 = .ok (.istore 8, 2) := by decide +kernel
theorem dX5_second_444 : decode cX5_second 444 = .ok (.aload_n 0, 1) := by decide +kernel
theorem dX5_second_445 : decode cX5_second 445 = .ok (.getfield 23, 3) := by decide +kernel
theorem dX5_second_448 : decode cX5_second 448 = .ok (.iload 4, 2) := by decide +kernel
theorem dX5_second_450 : decode cX5_second 450 = .ok (.bipush 17, 2) := by decide +kernel
theorem dX5_second_452 : decode cX5_second 452 = .ok (.iadd, 1) := by decide +kernel
theorem dX5_second_453 : decode cX5_second 453 = .ok (.iload 8, 2) := by decide +kernel
theorem dX5_second_455 : decode cX5_second 455 = .ok (.iastore, 1) := by decide +kernel
theorem dX5_second_456 : decode cX5_second 456 = .ok (.iconst 0, 1) := by decide +kernel
theorem dX5_second_457 : decode cX5_second 457 = .ok (.istore 9, 2) := by decide +kernel
theorem dX5_second_459 : decode cX5_second 459 = .ok (.iload 9, 2) := by decide +kernel
theorem dX5_second_461 : decode cX5_second 461 = .ok (.iconst 4, 1) := by decide +kernel
theorem dX5_second_462 : decode cX5_second 462 = .ok (.if_icmp .ge 63, 3) := by decide +kernel
theorem dX5_second_465 : decode cX5_second 465 = .ok (.aload_n 0, 1) := by decide +kernel
theorem dX5_second_466 : decode cX5_second 466 = .ok (.getfield 23, 3) := by decide +kernel
theorem dX5_second_469 : decode cX5_second 469 = .ok (.iload 4, 2) := by decide +kernel
theorem dX5_second_471 : decode cX5_second 471 = .ok (.bipush 13, 2) := by decide +kernel
theorem dX5_second_473 : decode cX5_second 473 = .ok (.iadd, 1) := by decide +kernel
theorem dX5_second_474 : decode cX5_second 474 = .ok (.iaload, 1) := by decide +kernel
theorem dX5_second_475 : decode cX5_second 475 = .ok (.ifCond .ne 44, 3) := by decide +kernel
theorem dX5_second_478 : decode cX5_second 478 = .ok (.aload_n 0, 1) := by decide +kernel
theorem dX5_second_479 : decode cX5_second 479 = .ok (.iload 8, 2) := by decide +kernel
theorem dX5_second_481 : decode cX5_second 481 = .ok (.iload 9, 2) := by decide +kernel
theorem dX5_second_483 : decode cX5_second 483 = .ok (.invokevirtual 153, 3) := by decide +kernel
theorem dX5_second_486 : decode cX5_second 486 = .ok (.aload_n 0, 1) := by decide +kernel
theorem dX5_second_487 : decode cX5_second 487 = .ok (.iload_n 1, 1) := by decide +kernel
theorem dX5_second_488 : decode cX5_second 488 = .ok (.iload 9, 2) := by decide +kernel
theorem dX5_second_490 : decode cX5_second 490 = .ok (.invokevirtual 157, 3) := by decide +kernel
theorem dX5_second_493 : decode cX5_second 493 = .ok (.if_icmp .le 26, 3) := by decide +kernel
theorem dX5_second_496 : decode cX5_second 496 = .ok (.aload_n 0, 1) := by decide +kernel
theorem dX5_second_497 : decode cX5_second 497 = .ok (.getfield 23, 3) := by decide +kernel
theorem dX5_second_500 : decode cX5_second 500 = .ok (.iload 4, 2) := by decide +kernel
theorem dX5_second_502 : decode cX5_second 502 = .ok (.bipush 13, 2) := by decide +kernel
theorem dX5_second_504 : decode cX5_second 504 = .ok (.iadd, 1) := by decide +kernel
theorem dX5_second_505 : decode cX5_second 505 = .ok (.iconst 1, 1) := by decide +kernel
theorem dX5_second_506 : decode cX5_second 506 = .ok (.iastore, 1) := by decide +kernel
theorem dX5_second_507 : decode cX5_second 507 = .ok (.aload_n 0, 1) := by decide +kernel
theorem dX5_second_508 : decode cX5_second 508 = .ok (.getfield 23, 3) := by decide +kernel
theorem dX5_second_511 : decode cX5_second 511 = .ok (.iload 4, 2) := by decide +kernel
theorem dX5_second_513 : decode cX5_second 513 = .ok (.bipush 14, 2) := by decide +kernel
theorem dX5_second_515 : decode cX5_second 515 = .ok (.iadd, 1) := by decide +kernel
theorem dX5_second_516 : decode cX5_second 516 = .ok (.iload 9, 2) := by decide +kernel
theorem dX5_second_518 : decode cX5_second 518 = .ok (.iastore, 1) := by decide +kernel
theorem dX5_second_519 : decode cX5_second 519 = .ok (.iinc 9 1, 3) := by decide +kernel
theorem dX5_second_522 : decode cX5_second 522 = .ok (.goto (-63), 3) := by decide +kernel
theorem dX5_second_525 : decode cX5_second 525 = .ok (.aload_n 0, 1) := by decide +kernel
theorem dX5_second_526 : decode cX5_second 526 = .ok (.getfield 23, 3) := by decide +kernel
theorem dX5_second_529 : decode cX5_second 529 = .ok (.iload 4, 2) := by decide +kernel
theorem dX5_second_531 : decode cX5_second 531 = .ok (.bipush 13, 2) := by decide +kernel
theorem dX5_second_533 : decode cX5_second 533 = .ok (.iadd, 1) := by decide +kernel
theorem dX5_second_534 : decode cX5_second 534 = .ok (.aload_n 0, 1) := by decide +kernel
theorem dX5_second_535 : decode cX5_second 535 = .ok (.getfield 23, 3) := by decide +kernel
theorem dX5_second_538 : decode cX5_second 538 = .ok (.iload 4, 2) := by decide +kernel
theorem dX5_second_540 : decode cX5_second 540 = .ok (.bipush 13, 2) := by decide +kernel
theorem dX5_second_542 : decode cX5_second 542 = .ok (.iadd, 1) := by decide +kernel
theorem dX5_second_543 : decode cX5_second 543 = .ok (.iaload, 1) := by decide +kernel
theorem dX5_second_544 : decode cX5_second 544 = .ok (.ifCond .ne 27, 3) := by decide +kernel
theorem dX5_second_547 : decode cX5_second 547 = .ok (.iload 8, 2) := by decide +kernel
theorem dX5_second_549 : decode cX5_second 549 = .ok (.aload_n 0, 1) := by decide +kernel
theorem dX5_second_550 : decode cX5_second 550 = .ok (.getfield 13, 3) := by decide +kernel
theorem dX5_second_553 : decode cX5_second 553 = .ok (.iconst 0, 1) := by decide +kernel
theorem dX5_second_554 : decode cX5_second 554 = .ok (.iaload, 1) := by decide +kernel
theorem dX5_second_555 : decode cX5_second 555 = .ok (.imul, 1) := by decide +kernel
theorem dX5_second_556 : decode cX5_second 556 = .ok (.iconst 2, 1) := by decide +kernel
theorem dX5_second_557 : decode cX5_second 557 = .ok (.idiv, 1) := by decide +kernel
theorem dX5_second_558 : decode cX5_second 558 = .ok (.aload_n 0, 1) := by decide +kernel
theorem dX5_second_559 : decode cX5_second 559 = .ok (.getfield 13, 3) := by decide +kernel
theorem dX5_second_562 : decode cX5_second 562 = .ok (.iconst 4, 1) := by decide +kernel
theorem dX5_second_563 : decode cX5_second 563 = .ok (.iaload, 1) := by decide +kernel
theorem dX5_second_564 : decode cX5_second 564 = .ok (.if_icmp .le 7, 3) := by decide +kernel
theorem dX5_second_567 : decode cX5_second 567 = .ok (.iconst 2, 1) := by decide +kernel
theorem dX5_second_568 : decode cX5_second 568 = .ok (.goto 13, 3) := by decide +kernel
theorem dX5_second_571 : decode cX5_second 571 = .ok (.aload_n 0, 1) := by decide +kernel
theorem dX5_second_572 : decode cX5_second 572 = .ok (.getfield 23, 3) := by decide +kernel
theorem dX5_second_575 : decode cX5_second 575 = .ok (.iload 4, 2) := by decide +kernel
theorem dX5_second_577 : decode cX5_second 577 = .ok (.bipush 13, 2) := by decide +kernel
theorem dX5_second_579 : decode cX5_second 579 = .ok (.iadd, 1) := by decide +kernel
theorem dX5_second_580 : decode cX5_second 580 = .ok (.iaload, 1) := by decide +kernel
theorem dX5_second_581 : decode cX5_second 581 = .ok (.iastore, 1) := by decide +kernel
theorem dX5_second_582 : decode cX5_second 582 = .ok (.return_, 1) := by decide +kernel
set_option maxRecDepth 20000 in
theorem ggX5_fire_X5_in : GoodIn wsX5_fire wsX5_in := goodIn_r _ [7] (by decide +kernel) (by decide +kernel)
set_option maxRecDepth 20000 in
theorem gX5_fire_X5_in : GoodIn wsX5_fire (va_wsS RX5 58 yX5_in wsX5_in) := goodIn_app (goodIn_of _ (by decide +kernel)) ggX5_fire_X5_in
set_option maxRecDepth 20000 in
theorem ggX5_fire_X5_second : GoodIn wsX5_fire wsX5_second := goodIn_r _ [11, 3, 12, 13, 14, 15, 6, 16, 17, 18, 19, 20, 21, 22, 23, 24, 25, 26, 27, 28, 29, 30, 31, 32, 33, 34, 35, 36, 37, 38, 39, 40, 41, 42, 43, 44, 45, 46, 47, 48, 49] (by decide +kernel) (by decide +kernel)
set_option maxRecDepth 20000 in
theorem gX5_fire_X5_second : GoodIn wsX5_fire (wsV RX5 164 RX5 yX5_second wsX5_second) := goodIn_app (goodIn_of _ (by decide +kernel)) ggX5_fire_X5_second
theorem dX5_fire_0 : decode cX5_fire 0 = .ok (.iload_n 1, 1) := by decide +kernel
theorem dX5_fire_1 : decode cX5_fire 1 = .ok (.i2l, 1) := by decide +kernel
theorem dX5_fire_2 : decode cX5_fire 2 = .ok (.lconst 0, 1) := by decide +kernel
theorem dX5_fire_3 : decode cX5_fire 3 = .ok (.ldc2_w 160, 3) := by decide +kernel
theorem dX5_fire_6 : decode cX5_fire 6 = .ok (.invokestatic 58, 3) := by decide +kernel
theorem dX5_fire_9 : decode cX5_fire 9 = .ok (.ifCond .eq 15, 3) := by decide +kernel
theorem dX5_fire_12 : decode cX5_fire 12 = .ok (.iload_n 2, 1) := by decide +kernel
theorem dX5_fire_13 : decode cX5_fire 13 = .ok (.i2l, 1) := by decide +kernel
theorem dX5_fire_14 : decode cX5_fire 14 = .ok (.lconst 1, 1) := by decide +kernel
theorem dX5_fire_15 : decode cX5_fire 15 = .ok (.ldc2_w 162, 3) := by decide +kernel
theorem dX5_fire_18 : decode cX5_fire 18 = .ok (.invokestatic 58, 3) := by decide +kernel
theorem dX5_fire_21 : decode cX5_fire 21 = .ok (.ifCond .ne 5, 3) := by decide +kernel
theorem dX5_fire_24 : decode cX5_fire 24 = .ok (.iconst (-1), 1) := by decide +kernel
theorem dX5_fire_25 : decode cX5_fire 25 = .ok (.ireturn, 1) := by decide +kernel
theorem dX5_fire_26 : decode cX5_fire 26 = .ok (.iconst 0, 1) := by decide +kernel
theorem dX5_fire_27 : decode cX5_fire 27 = .ok (.istore_n 3, 1) := by decide +kernel
theorem dX5_fire_28 : decode cX5_fire 28 = .ok (.iload_n 3, 1) := by decide +kernel
theorem dX5_fire_29 : decode cX5_fire 29 = .ok (.iload_n 2, 1) := by decide +kernel
theorem dX5_fire_30 : decode cX5_fire 30 = .ok (.if_icmp .ge 16, 3) := by decide +kernel
theorem dX5_fire_33 : decode cX5_fire 33 = .ok (.aload_n 0, 1) := by decide +kernel
theorem dX5_fire_34 : decode cX5_fire 34 = .ok (.iconst 0, 1) := by decide +kernel
theorem dX5_fire_35 : decode cX5_fire 35 = .ok (.iload_n 1, 1) := by decide +kernel
theorem dX5_fire_36 : decode cX5_fire 36 = .ok (.iconst 0, 1) := by decide +kernel
theorem dX5_fire_37 : decode cX5_fire 37 = .ok (.invokevirtual 164, 3) := by decide +kernel
theorem dX5_fire_40 : decode cX5_fire 40 = .ok (.iinc 3 1, 3) := by decide +kernel
theorem dX5_fire_43 : decode cX5_fire 43 = .ok (.goto (-15), 3) := by decide +kernel
theorem dX5_fire_46 : decode cX5_fire 46 = .ok (.aload_n 0, 1) := by decide +kernel
theorem dX5_fire_47 : decode cX5_fire 47 = .ok (.getfield 23, 3) := by decide +kernel
theorem dX5_fire_50 : decode cX5_fire 50 = .ok (.bipush 13, 2) := by decide +kernel
theorem dX5_fire_52 : decode cX5_fire 52 = .ok (.iaload, 1) := by decide +kernel
theorem dX5_fire_53 : decode cX5_fire 53 = .ok (.ireturn, 1) := by decide +kernel
set_option maxRecDepth 20000 in
theorem ggX5_simmer_X5_in : GoodIn wsX5_simmer wsX5_in := goodIn_r _ [8] (by decide +kernel) (by decide +kernel)
set_option maxRecDepth 20000 in
theorem gX5_simmer_X5_in : GoodIn wsX5_simmer (va_wsS RX5 58 yX5_in wsX5_in) := goodIn_app (goodIn_of _ (by decide +kernel)) ggX5_simmer_X5_in
set_option maxRecDepth 20000 in
theorem ggX5_simmer_X5_second : GoodIn wsX5_simmer wsX5_second := goodIn_r _ [12, 4, 13, 14, 15, 16, 7, 17, 18, 19, 20, 21, 22, 23, 24, 25, 26, 27, 28, 29, 30, 31, 32, 33, 34, 35, 36, 37, 38, 39, 40, 41, 42, 43, 44, 45, 46, 47, 48, 49, 50] (by decide +kernel) (by decide +kernel)
set_option maxRecDepth 20000 in
theorem gX5_simmer_X5_second : GoodIn wsX5_simmer (wsV RX5 164 RX5 yX5_second wsX5_second) := goodIn_app (goodIn_of _ (by decide +kernel)) ggX5_simmer_X5_second
theorem dX5_simmer_0 : decode cX5_simmer 0 = .ok (.iload_n 1, 1) := by decide +kernel
theorem dX5_simmer_1 : decode cX5_simmer 1 = .ok (.i2l, 1) := by decide +kernel
theorem dX5_simmer_2 : decode cX5_simmer 2 = .ok (.ldc2_w 168, 3) := by decide +kernel
theorem dX5_simmer_5 : decode cX5_simmer 5 = .ok (.ldc2_w 170, 3) := by decide +kernel
theorem dX5_simmer_8 : decode cX5_simmer 8 = .ok (.invokestatic 58, 3) := by decide +kernel
theorem dX5_simmer_11 : decode cX5_simmer 11 = .ok (.ifCond .eq 15, 3) := by decide +kernel
theorem dX5_simmer_14 : decode cX5_simmer 14 = .ok (.iload_n 2, 1) := by decide +kernel
theorem dX5_simmer_15 : decode cX5_simmer 15 = .ok (.i2l, 1) := by decide +kernel
theorem dX5_simmer_16 : decode cX5_simmer 16 = .ok (.lconst 1, 1) := by decide +kernel
theorem dX5_simmer_17 : decode cX5_simmer 17 = .ok (.ldc2_w 162, 3) := by decide +kernel
theorem dX5_simmer_20 : decode cX5_simmer 20 = .ok (.invokestatic 58, 3) := by decide +kernel
theorem dX5_simmer_23 : decode cX5_simmer 23 = .ok (.ifCond .ne 5, 3) := by decide +kernel
theorem dX5_simmer_26 : decode cX5_simmer 26 = .ok (.iconst (-1), 1) := by decide +kernel
theorem dX5_simmer_27 : decode cX5_simmer 27 = .ok (.ireturn, 1) := by decide +kernel
theorem dX5_simmer_28 : decode cX5_simmer 28 = .ok (.iconst 0, 1) := by decide +kernel
theorem dX5_simmer_29 : decode cX5_simmer 29 = .ok (.istore_n 3, 1) := by decide +kernel
theorem dX5_simmer_30 : decode cX5_simmer 30 = .ok (.iload_n 3, 1) := by decide +kernel
theorem dX5_simmer_31 : decode cX5_simmer 31 = .ok (.iload_n 2, 1) := by decide +kernel
theorem dX5_simmer_32 : decode cX5_simmer 32 = .ok (.if_icmp .ge 16, 3) := by decide +kernel
theorem dX5_simmer_35 : decode cX5_simmer 35 = .ok (.aload_n 0, 1) := by decide +kernel
theorem dX5_simmer_36 : decode cX5_simmer 36 = .ok (.iconst 0, 1) := by decide +kernel
theorem dX5_simmer_37 : decode cX5_simmer 37 = .ok (.iload_n 1, 1) := by decide +kernel
theorem dX5_simmer_38 : decode cX5_simmer 38 = .ok (.iconst 1, 1) := by decide +kernel
theorem dX5_simmer_39 : decode cX5_simmer 39 = .ok (.invokevirtual 164, 3) := by decide +kernel
theorem dX5_simmer_42 : decode cX5_simmer 42 = .ok (.iinc 3 1, 3) := by decide +kernel
theorem dX5_simmer_45 : decode cX5_simmer 45 = .ok (.goto (-15), 3) := by decide +kernel
theorem dX5_simmer_48 : decode cX5_simmer 48 = .ok (.aload_n 0, 1) := by decide +kernel
theorem dX5_simmer_49 : decode cX5_simmer 49 = .ok (.getfield 23, 3) := by decide +kernel
theorem dX5_simmer_52 : decode cX5_simmer 52 = .ok (.bipush 13, 2) := by decide +kernel
theorem dX5_simmer_54 : decode cX5_simmer 54 = .ok (.iaload, 1) := by decide +kernel
theorem dX5_simmer_55 : decode cX5_simmer 55 = .ok (.ireturn, 1) := by decide +kernel
theorem dX5_turns_0 : decode cX5_turns 0 = .ok (.aload_n 0, 1) := by decide +kernel
theorem dX5_turns_1 : decode cX5_turns 1 = .ok (.getfield 23, 3) := by decide +kernel
theorem dX5_turns_4 : decode cX5_turns 4 = .ok (.bipush 20, 2) := by decide +kernel
theorem dX5_turns_6 : decode cX5_turns 6 = .ok (.iload_n 1, 1) := by decide +kernel
theorem dX5_turns_7 : decode cX5_turns 7 = .ok (.imul, 1) := by decide +kernel
theorem dX5_turns_8 : decode cX5_turns 8 = .ok (.bipush 16, 2) := by decide +kernel
theorem dX5_turns_10 : decode cX5_turns 10 = .ok (.iadd, 1) := by decide +kernel
theorem dX5_turns_11 : decode cX5_turns 11 = .ok (.aload_n 0, 1) := by decide +kernel
theorem dX5_turns_12 : decode cX5_turns 12 = .ok (.getfield 23, 3) := by decide +kernel
theorem dX5_turns_15 : decode cX5_turns 15 = .ok (.bipush 20, 2) := by decide +kernel
theorem dX5_turns_17 : decode cX5_turns 17 = .ok (.iload_n 1, 1) := by decide +kernel
theorem dX5_turns_18 : decode cX5_turns 18 = .ok (.imul, 1) := by decide +kernel
theorem dX5_turns_19 : decode cX5_turns 19 = .ok (.bipush 16, 2) := by decide +kernel
theorem dX5_turns_21 : decode cX5_turns 21 = .ok (.iadd, 1) := by decide +kernel
theorem dX5_turns_22 : decode cX5_turns 22 = .ok (.iaload, 1) := by decide +kernel
theorem dX5_turns_23 : decode cX5_turns 23 = .ok (.iload_n 2, 1) := by decide +kernel
theorem dX5_turns_24 : decode cX5_turns 24 = .ok (.iadd, 1) := by decide +kernel
theorem dX5_turns_25 : decode cX5_turns 25 = .ok (.iconst 4, 1) := by decide +kernel
theorem dX5_turns_26 : decode cX5_turns 26 = .ok (.irem, 1) := by decide +kernel
theorem dX5_turns_27 : decode cX5_turns 27 = .ok (.iastore, 1) := by decide +kernel
theorem dX5_turns_28 : decode cX5_turns 28 = .ok (.return_, 1) := by decide +kernel
set_option maxRecDepth 20000 in
theorem ggX5_turn_X5_in : GoodIn wsX5_turn wsX5_in := goodIn_r _ [6] (by decide +kernel) (by decide +kernel)
set_option maxRecDepth 20000 in
theorem gX5_turn_X5_in : GoodIn wsX5_turn (va_wsS RX5 58 yX5_in wsX5_in) := goodIn_app (goodIn_of _ (by decide +kernel)) ggX5_turn_X5_in
set_option maxRecDepth 20000 in
theorem ggX5_turn_X5_turns : GoodIn wsX5_turn wsX5_turns := goodIn_r _ [10, 2, 11, 12, 13, 14, 15, 16, 17, 18, 19, 20, 21, 22, 23, 24, 25, 26, 27, 28, 29, 30, 31, 32, 33, 34, 35] (by decide +kernel) (by decide +kernel)
set_option maxRecDepth 20000 in
theorem gX5_turn_X5_turns : GoodIn wsX5_turn (wsV RX5 174 RX5 yX5_turns wsX5_turns) := goodIn_app (goodIn_of _ (by decide +kernel)) ggX5_turn_X5_turns
theorem dX5_turn_0 : decode cX5_turn 0 = .ok (.iload_n 1, 1) := by decide +kernel
theorem dX5_turn_1 : decode cX5_turn 1 = .ok (.i2l, 1) := by decide +kernel
theorem dX5_turn_2 : decode cX5_turn 2 = .ok (.lconst 1, 1) := by decide +kernel
theorem dX5_turn_3 : decode cX5_turn 3 = .ok (.ldc2_w 172, 3) := by decide +kernel
theorem dX5_turn_6 : decode cX5_turn 6 = .ok (.invokestatic 58, 3) := by decide +kernel
theorem dX5_turn_9 : decode cX5_turn 9 = .ok (.ifCond .ne 5, 3) := by decide +kernel
theorem dX5_turn_12 : decode cX5_turn 12 = .ok (.iconst (-1), 1) := by decide +kernel
theorem dX5_turn_13 : decode cX5_turn 13 = .ok (.ireturn, 1) := by decide +kernel
theorem dX5_turn_14 : decode cX5_turn 14 = .ok (.aload_n 0, 1) := by decide +kernel
theorem dX5_turn_15 : decode cX5_turn 15 = .ok (.iconst 0, 1) := by decide +kernel
theorem dX5_turn_16 : decode cX5_turn 16 = .ok (.iload_n 1, 1) := by decide +kernel
theorem dX5_turn_17 : decode cX5_turn 17 = .ok (.invokevirtual 174, 3) := by decide +kernel
theorem dX5_turn_20 : decode cX5_turn 20 = .ok (.aload_n 0, 1) := by decide +kernel
theorem dX5_turn_21 : decode cX5_turn 21 = .ok (.getfield 23, 3) := by decide +kernel
theorem dX5_turn_24 : decode cX5_turn 24 = .ok (.bipush 16, 2) := by decide +kernel
theorem dX5_turn_26 : decode cX5_turn 26 = .ok (.iaload, 1) := by decide +kernel
theorem dX5_turn_27 : decode cX5_turn 27 = .ok (.ireturn, 1) := by decide +kernel
theorem dX5_pricked_0 : decode cX5_pricked 0 = .ok (.aload_n 0, 1) := by decide +kernel
theorem dX5_pricked_1 : decode cX5_pricked 1 = .ok (.getfield 23, 3) := by decide +kernel
theorem dX5_pricked_4 : decode cX5_pricked 4 = .ok (.bipush 20, 2) := by decide +kernel
theorem dX5_pricked_6 : decode cX5_pricked 6 = .ok (.iload_n 1, 1) := by decide +kernel
theorem dX5_pricked_7 : decode cX5_pricked 7 = .ok (.imul, 1) := by decide +kernel
theorem dX5_pricked_8 : decode cX5_pricked 8 = .ok (.bipush 10, 2) := by decide +kernel
theorem dX5_pricked_10 : decode cX5_pricked 10 = .ok (.iadd, 1) := by decide +kernel
theorem dX5_pricked_11 : decode cX5_pricked 11 = .ok (.iaload, 1) := by decide +kernel
theorem dX5_pricked_12 : decode cX5_pricked 12 = .ok (.iload_n 2, 1) := by decide +kernel
theorem dX5_pricked_13 : decode cX5_pricked 13 = .ok (.iadd, 1) := by decide +kernel
theorem dX5_pricked_14 : decode cX5_pricked 14 = .ok (.istore_n 3, 1) := by decide +kernel
theorem dX5_pricked_15 : decode cX5_pricked 15 = .ok (.aload_n 0, 1) := by decide +kernel
theorem dX5_pricked_16 : decode cX5_pricked 16 = .ok (.getfield 23, 3) := by decide +kernel
theorem dX5_pricked_19 : decode cX5_pricked 19 = .ok (.bipush 20, 2) := by decide +kernel
theorem dX5_pricked_21 : decode cX5_pricked 21 = .ok (.iload_n 1, 1) := by decide +kernel
theorem dX5_pricked_22 : decode cX5_pricked 22 = .ok (.imul, 1) := by decide +kernel
theorem dX5_pricked_23 : decode cX5_pricked 23 = .ok (.bipush 10, 2) := by decide +kernel
theorem dX5_pricked_25 : decode cX5_pricked 25 = .ok (.iadd, 1) := by decide +kernel
theorem dX5_pricked_26 : decode cX5_pricked 26 = .ok (.iload_n 3, 1) := by decide +kernel
theorem dX5_pricked_27 : decode cX5_pricked 27 = .ok (.bipush 99, 2) := by decide +kernel
theorem dX5_pricked_29 : decode cX5_pricked 29 = .ok (.if_icmp .le 8, 3) := by decide +kernel
theorem dX5_pricked_32 : decode cX5_pricked 32 = .ok (.bipush 99, 2) := by decide +kernel
theorem dX5_pricked_34 : decode cX5_pricked 34 = .ok (.goto 4, 3) := by decide +kernel
theorem dX5_pricked_37 : decode cX5_pricked 37 = .ok (.iload_n 3, 1) := by decide +kernel
theorem dX5_pricked_38 : decode cX5_pricked 38 = .ok (.iastore, 1) := by decide +kernel
theorem dX5_pricked_39 : decode cX5_pricked 39 = .ok (.return_, 1) := by decide +kernel
set_option maxRecDepth 20000 in
theorem ggX5_prick_X5_in : GoodIn wsX5_prick wsX5_in := goodIn_r _ [6] (by decide +kernel) (by decide +kernel)
set_option maxRecDepth 20000 in
theorem gX5_prick_X5_in : GoodIn wsX5_prick (va_wsS RX5 58 yX5_in wsX5_in) := goodIn_app (goodIn_of _ (by decide +kernel)) ggX5_prick_X5_in
set_option maxRecDepth 20000 in
theorem ggX5_prick_X5_pricked : GoodIn wsX5_prick wsX5_pricked := goodIn_r _ [10, 2, 11, 12, 13, 14, 15, 16, 17, 18, 19, 20, 21, 22, 23, 24, 25, 26, 27, 28, 29, 30, 31, 32, 33, 34, 35] (by decide +kernel) (by decide +kernel)
set_option maxRecDepth 20000 in
theorem gX5_prick_X5_pricked : GoodIn wsX5_prick (wsV RX5 180 RX5 yX5_pricked wsX5_pricked) := goodIn_app (goodIn_of _ (by decide +kernel)) ggX5_prick_X5_pricked
theorem dX5_prick_0 : decode cX5_prick 0 = .ok (.iload_n 1, 1) := by decide +kernel
theorem dX5_prick_1 : decode cX5_prick 1 = .ok (.i2l, 1) := by decide +kernel
theorem dX5_prick_2 : decode cX5_prick 2 = .ok (.lconst 1, 1) := by decide +kernel
theorem dX5_prick_3 : decode cX5_prick 3 = .ok (.ldc2_w 178, 3) := by decide +kernel
theorem dX5_prick_6 : decode cX5_prick 6 = .ok (.invokestatic 58, 3) := by decide +kernel
theorem dX5_prick_9 : decode cX5_prick 9 = .ok (.ifCond .ne 5, 3) := by decide +kernel
theorem dX5_prick_12 : decode cX5_prick 12 = .ok (.iconst (-1), 1) := by decide +kernel
theorem dX5_prick_13 : decode cX5_prick 13 = .ok (.ireturn, 1) := by decide +kernel
theorem dX5_prick_14 : decode cX5_prick 14 = .ok (.aload_n 0, 1) := by decide +kernel
theorem dX5_prick_15 : decode cX5_prick 15 = .ok (.iconst 0, 1) := by decide +kernel
theorem dX5_prick_16 : decode cX5_prick 16 = .ok (.iload_n 1, 1) := by decide +kernel
theorem dX5_prick_17 : decode cX5_prick 17 = .ok (.invokevirtual 180, 3) := by decide +kernel
theorem dX5_prick_20 : decode cX5_prick 20 = .ok (.aload_n 0, 1) := by decide +kernel
theorem dX5_prick_21 : decode cX5_prick 21 = .ok (.getfield 23, 3) := by decide +kernel
theorem dX5_prick_24 : decode cX5_prick 24 = .ok (.bipush 10, 2) := by decide +kernel
theorem dX5_prick_26 : decode cX5_prick 26 = .ok (.iaload, 1) := by decide +kernel
theorem dX5_prick_27 : decode cX5_prick 27 = .ok (.ireturn, 1) := by decide +kernel
set_option maxRecDepth 20000 in
theorem ggX5_spots_X5_in : GoodIn wsX5_spots wsX5_in := goodIn_r _ [6] (by decide +kernel) (by decide +kernel)
set_option maxRecDepth 20000 in
theorem gX5_spots_X5_in : GoodIn wsX5_spots (va_wsS RX5 58 yX5_in wsX5_in) := goodIn_app (goodIn_of _ (by decide +kernel)) ggX5_spots_X5_in
theorem dX5_spots_0 : decode cX5_spots 0 = .ok (.iload_n 1, 1) := by decide +kernel
theorem dX5_spots_1 : decode cX5_spots 1 = .ok (.i2l, 1) := by decide +kernel
theorem dX5_spots_2 : decode cX5_spots 2 = .ok (.lconst 0, 1) := by decide +kernel
theorem dX5_spots_3 : decode cX5_spots 3 = .ok (.ldc2_w 183, 3) := by decide +kernel
theorem dX5_spots_6 : decode cX5_spots 6 = .ok (.invokestatic 58, 3) := by decide +kernel
theorem dX5_spots_9 : decode cX5_spots 9 = .ok (.ifCond .ne 5, 3) := by decide +kernel
theorem dX5_spots_12 : decode cX5_spots 12 = .ok (.iconst (-1), 1) := by decide +kernel
theorem dX5_spots_13 : decode cX5_spots 13 = .ok (.ireturn, 1) := by decide +kernel
theorem dX5_spots_14 : decode cX5_spots 14 = .ok (.aload_n 0, 1) := by decide +kernel
theorem dX5_spots_15 : decode cX5_spots 15 = .ok (.getfield 23, 3) := by decide +kernel
theorem dX5_spots_18 : decode cX5_spots 18 = .ok (.bipush 11, 2) := by decide +kernel
theorem dX5_spots_20 : decode cX5_spots 20 = .ok (.iaload, 1) := by decide +kernel
theorem dX5_spots_21 : decode cX5_spots 21 = .ok (.istore_n 2, 1) := by decide +kernel
theorem dX5_spots_22 : decode cX5_spots 22 = .ok (.aload_n 0, 1) := by decide +kernel
theorem dX5_spots_23 : decode cX5_spots 23 = .ok (.getfield 23, 3) := by decide +kernel
theorem dX5_spots_26 : decode cX5_spots 26 = .ok (.bipush 11, 2) := by decide +kernel
theorem dX5_spots_28 : decode cX5_spots 28 = .ok (.iload_n 1, 1) := by decide +kernel
theorem dX5_spots_29 : decode cX5_spots 29 = .ok (.iastore, 1) := by decide +kernel
theorem dX5_spots_30 : decode cX5_spots 30 = .ok (.iload_n 2, 1) := by decide +kernel
theorem dX5_spots_31 : decode cX5_spots 31 = .ok (.ireturn, 1) := by decide +kernel
set_option maxRecDepth 20000 in
theorem ggX5_face_X5_in : GoodIn wsX5_face wsX5_in := goodIn_r _ [6] (by decide +kernel) (by decide +kernel)
set_option maxRecDepth 20000 in
theorem gX5_face_X5_in : GoodIn wsX5_face (va_wsS RX5 58 yX5_in wsX5_in) := goodIn_app (goodIn_of _ (by decide +kernel)) ggX5_face_X5_in
set_option maxRecDepth 20000 in
theorem ggX5_face_X5_holdsAt : GoodIn wsX5_face wsX5_holdsAt := goodIn_r _ [10, 2, 11, 20, 21, 22, 23, 24, 25, 26, 27, 28, 29, 30, 31, 32, 33, 34, 35, 36, 37, 38, 39, 40, 41, 42, 43, 44] (by decide +kernel) (by decide +kernel)
set_option maxRecDepth 20000 in
theorem gX5_face_X5_holdsAt : GoodIn wsX5_face (wsV RX5 157 RX5 yX5_holdsAt wsX5_holdsAt) := goodIn_app (goodIn_of _ (by decide +kernel)) ggX5_face_X5_holdsAt
set_option maxRecDepth 20000 in
theorem ggX5_face_X5_press : GoodIn wsX5_face wsX5_press := goodIn_r _ [15, 2, 11, 20, 21, 22, 23, 24, 25, 26, 27, 28, 29, 30, 31, 32, 33, 34, 35, 36, 37, 38, 39, 40, 41, 42, 43, 44] (by decide +kernel) (by decide +kernel)
set_option maxRecDepth 20000 in
theorem gX5_face_X5_press : GoodIn wsX5_face (wsV RX5 150 RX5 yX5_press wsX5_press) := goodIn_app (goodIn_of _ (by decide +kernel)) ggX5_face_X5_press
set_option maxRecDepth 20000 in
theorem ggX5_face_X5_pulls : GoodIn wsX5_face wsX5_pulls := goodIn_r _ [19, 11, 20, 21, 22, 23, 24, 25, 26, 27, 28, 29, 30, 31, 32, 33, 34, 35, 36, 37, 38, 39, 40, 41, 42, 43, 44] (by decide +kernel) (by decide +kernel)
set_option maxRecDepth 20000 in
theorem gX5_face_X5_pulls : GoodIn wsX5_face (wsV RX5 153 RX5 yX5_pulls wsX5_pulls) := goodIn_app (goodIn_of _ (by decide +kernel)) ggX5_face_X5_pulls
theorem dX5_face_0 : decode cX5_face 0 = .ok (.iload_n 1, 1) := by decide +kernel
theorem dX5_face_1 : decode cX5_face 1 = .ok (.i2l, 1) := by decide +kernel
theorem dX5_face_2 : decode cX5_face 2 = .ok (.lconst 0, 1) := by decide +kernel
theorem dX5_face_3 : decode cX5_face 3 = .ok (.ldc2_w 172, 3) := by decide +kernel
theorem dX5_face_6 : decode cX5_face 6 = .ok (.invokestatic 58, 3) := by decide +kernel
theorem dX5_face_9 : decode cX5_face 9 = .ok (.ifCond .eq 15, 3) := by decide +kernel
theorem dX5_face_12 : decode cX5_face 12 = .ok (.iload_n 2, 1) := by decide +kernel
theorem dX5_face_13 : decode cX5_face 13 = .ok (.i2l, 1) := by decide +kernel
theorem dX5_face_14 : decode cX5_face 14 = .ok (.lconst 0, 1) := by decide +kernel
theorem dX5_face_15 : decode cX5_face 15 = .ok (.ldc2_w 172, 3) := by decide +kernel
theorem dX5_face_18 : decode cX5_face 18 = .ok (.invokestatic 58, 3) := by decide +kernel
theorem dX5_face_21 : decode cX5_face 21 = .ok (.ifCond .ne 5, 3) := by decide +kernel
theorem dX5_face_24 : decode cX5_face 24 = .ok (.iconst (-1), 1) := by decide +kernel
theorem dX5_face_25 : decode cX5_face 25 = .ok (.ireturn, 1) := by decide +kernel
theorem dX5_face_26 : decode cX5_face 26 = .ok (.iload_n 2, 1) := by decide +kernel
theorem dX5_face_27 : decode cX5_face 27 = .ok (.ifCond .ne 12, 3) := by decide +kernel
theorem dX5_face_30 : decode cX5_face 30 = .ok (.aload_n 0, 1) := by decide +kernel
theorem dX5_face_31 : decode cX5_face 31 = .ok (.getfield 23, 3) := by decide +kernel
theorem dX5_face_34 : decode cX5_face 34 = .ok (.iload_n 1, 1) := by decide +kernel
theorem dX5_face_35 : decode cX5_face 35 = .ok (.iaload, 1) := by decide +kernel
theorem dX5_face_36 : decode cX5_face 36 = .ok (.goto 43, 3) := by decide +kernel
theorem dX5_face_39 : decode cX5_face 39 = .ok (.iload_n 2, 1) := by decide +kernel
theorem dX5_face_40 : decode cX5_face 40 = .ok (.iconst 1, 1) := by decide +kernel
theorem dX5_face_41 : decode cX5_face 41 = .ok (.if_icmp .ne 14, 3) := by decide +kernel
theorem dX5_face_44 : decode cX5_face 44 = .ok (.aload_n 0, 1) := by decide +kernel
theorem dX5_face_45 : decode cX5_face 45 = .ok (.getfield 23, 3) := by decide +kernel
theorem dX5_face_48 : decode cX5_face 48 = .ok (.iconst 5, 1) := by decide +kernel
theorem dX5_face_49 : decode cX5_face 49 = .ok (.iload_n 1, 1) := by decide +kernel
theorem dX5_face_50 : decode cX5_face 50 = .ok (.iadd, 1) := by decide +kernel
theorem dX5_face_51 : decode cX5_face 51 = .ok (.iaload, 1) := by decide +kernel
theorem dX5_face_52 : decode cX5_face 52 = .ok (.goto 27, 3) := by decide +kernel
theorem dX5_face_55 : decode cX5_face 55 = .ok (.iload_n 2, 1) := by decide +kernel
theorem dX5_face_56 : decode cX5_face 56 = .ok (.iconst 2, 1) := by decide +kernel
theorem dX5_face_57 : decode cX5_face 57 = .ok (.if_icmp .ne 12, 3) := by decide +kernel
theorem dX5_face_60 : decode cX5_face 60 = .ok (.aload_n 0, 1) := by decide +kernel
theorem dX5_face_61 : decode cX5_face 61 = .ok (.iconst 0, 1) := by decide +kernel
theorem dX5_face_62 : decode cX5_face 62 = .ok (.iload_n 1, 1) := by decide +kernel
theorem dX5_face_63 : decode cX5_face 63 = .ok (.invokevirtual 157, 3) := by decide +kernel
theorem dX5_face_66 : decode cX5_face 66 = .ok (.goto 13, 3) := by decide +kernel
theorem dX5_face_69 : decode cX5_face 69 = .ok (.aload_n 0, 1) := by decide +kernel
theorem dX5_face_70 : decode cX5_face 70 = .ok (.aload_n 0, 1) := by decide +kernel
theorem dX5_face_71 : decode cX5_face 71 = .ok (.iconst 0, 1) := by decide +kernel
theorem dX5_face_72 : decode cX5_face 72 = .ok (.invokevirtual 150, 3) := by decide +kernel
theorem dX5_face_75 : decode cX5_face 75 = .ok (.iload_n 1, 1) := by decide +kernel
theorem dX5_face_76 : decode cX5_face 76 = .ok (.invokevirtual 153, 3) := by decide +kernel
theorem dX5_face_79 : decode cX5_face 79 = .ok (.ireturn, 1) := by decide +kernel
set_option maxRecDepth 20000 in
theorem ggX5_now_X5_press : GoodIn wsX5_now wsX5_press := goodIn_r _ [7, 1, 2, 8, 9, 10, 11, 12, 13, 14, 15, 16, 17, 18, 19, 20, 21, 22, 23, 24, 25, 26, 27, 28, 29, 30, 31, 32] (by decide +kernel) (by decide +kernel)
set_option maxRecDepth 20000 in
theorem gX5_now_X5_press : GoodIn wsX5_now (wsV RX5 150 RX5 yX5_press wsX5_press) := goodIn_app (goodIn_of _ (by decide +kernel)) ggX5_now_X5_press
theorem dX5_now_0 : decode cX5_now 0 = .ok (.iload_n 1, 1) := by decide +kernel
theorem dX5_now_1 : decode cX5_now 1 = .ok (.tableswitch 139 0 9 #[55, 63, 70, 78, 86, 94, 102, 110, 116, 131], 55) := by decide +kernel
theorem dX5_now_56 : decode cX5_now 56 = .ok (.aload_n 0, 1) := by decide +kernel
theorem dX5_now_57 : decode cX5_now 57 = .ok (.getfield 23, 3) := by decide +kernel
theorem dX5_now_60 : decode cX5_now 60 = .ok (.bipush 16, 2) := by decide +kernel
theorem dX5_now_62 : decode cX5_now 62 = .ok (.iaload, 1) := by decide +kernel
theorem dX5_now_63 : decode cX5_now 63 = .ok (.ireturn, 1) := by decide +kernel
theorem dX5_now_64 : decode cX5_now 64 = .ok (.aload_n 0, 1) := by decide +kernel
theorem dX5_now_65 : decode cX5_now 65 = .ok (.getfield 23, 3) := by decide +kernel
theorem dX5_now_68 : decode cX5_now 68 = .ok (.iconst 4, 1) := by decide +kernel
theorem dX5_now_69 : decode cX5_now 69 = .ok (.iaload, 1) := by decide +kernel
theorem dX5_now_70 : decode cX5_now 70 = .ok (.ireturn, 1) := by decide +kernel
theorem dX5_now_71 : decode cX5_now 71 = .ok (.aload_n 0, 1) := by decide +kernel
theorem dX5_now_72 : decode cX5_now 72 = .ok (.getfield 23, 3) := by decide +kernel
theorem dX5_now_75 : decode cX5_now 75 = .ok (.bipush 9, 2) := by decide +kernel
theorem dX5_now_77 : decode cX5_now 77 = .ok (.iaload, 1) := by decide +kernel
theorem dX5_now_78 : decode cX5_now 78 = .ok (.ireturn, 1) := by decide +kernel
theorem dX5_now_79 : decode cX5_now 79 = .ok (.aload_n 0, 1) := by decide +kernel
theorem dX5_now_80 : decode cX5_now 80 = .ok (.getfield 23, 3) := by decide +kernel
theorem dX5_now_83 : decode cX5_now 83 = .ok (.bipush 10, 2) := by decide +kernel
theorem dX5_now_85 : decode cX5_now 85 = .ok (.iaload, 1) := by decide +kernel
theorem dX5_now_86 : decode cX5_now 86 = .ok (.ireturn, 1) := by decide +kernel
theorem dX5_now_87 : decode cX5_now 87 = .ok (.aload_n 0, 1) := by decide +kernel
theorem dX5_now_88 : decode cX5_now 88 = .ok (.getfield 23, 3) := by decide +kernel
theorem dX5_now_91 : decode cX5_now 91 = .ok (.bipush 12, 2) := by decide +kernel
theorem dX5_now_93 : decode cX5_now 93 = .ok (.iaload, 1) := by decide +kernel
theorem dX5_now_94 : decode cX5_now 94 = .ok (.ireturn, 1) := by decide +kernel
theorem dX5_now_95 : decode cX5_now 95 = .ok (.aload_n 0, 1) := by decide +kernel
theorem dX5_now_96 : decode cX5_now 96 = .ok (.getfield 23, 3) := by decide +kernel
theorem dX5_now_99 : decode cX5_now 99 = .ok (.bipush 13, 2) := by decide +kernel
theorem dX5_now_101 : decode cX5_now 101 = .ok (.iaload, 1) := by decide +kernel
theorem dX5_now_102 : decode cX5_now 102 = .ok (.ireturn, 1) := by decide +kernel
theorem dX5_now_103 : decode cX5_now 103 = .ok (.aload_n 0, 1) := by decide +kernel
theorem dX5_now_104 : decode cX5_now 104 = .ok (.getfield 23, 3) := by decide +kernel
theorem dX5_now_107 : decode cX5_now 107 = .ok (.bipush 14, 2) := by decide +kernel
theorem dX5_now_109 : decode cX5_now 109 = .ok (.iaload, 1) := by decide +kernel
theorem dX5_now_110 : decode cX5_now 110 = .ok (.ireturn, 1) := by decide +kernel
theorem dX5_now_111 : decode cX5_now 111 = .ok (.aload_n 0, 1) := by decide +kernel
theorem dX5_now_112 : decode cX5_now 112 = .ok (.iconst 0, 1) := by decide +kernel
theorem dX5_now_113 : decode cX5_now 113 = .ok (.invokevirtual 150, 3) := by decide +kernel
theorem dX5_now_116 : decode cX5_now 116 = .ok (.ireturn, 1) := by decide +kernel
theorem dX5_now_117 : decode cX5_now 117 = .ok (.aload_n 0, 1) := by decide +kernel
theorem dX5_now_118 : decode cX5_now 118 = .ok (.iconst 0, 1) := by decide +kernel
theorem dX5_now_119 : decode cX5_now 119 = .ok (.invokevirtual 150, 3) := by decide +kernel
theorem dX5_now_122 : decode cX5_now 122 = .ok (.aload_n 0, 1) := by decide +kernel
theorem dX5_now_123 : decode cX5_now 123 = .ok (.getfield 13, 3) := by decide +kernel
theorem dX5_now_126 : decode cX5_now 126 = .ok (.iconst 0, 1) := by decide +kernel
theorem dX5_now_127 : decode cX5_now 127 = .ok (.iaload, 1) := by decide +kernel
theorem dX5_now_128 : decode cX5_now 128 = .ok (.imul, 1) := by decide +kernel
theorem dX5_now_129 : decode cX5_now 129 = .ok (.iconst 2, 1) := by decide +kernel
theorem dX5_now_130 : decode cX5_now 130 = .ok (.idiv, 1) := by decide +kernel
theorem dX5_now_131 : decode cX5_now 131 = .ok (.ireturn, 1) := by decide +kernel
theorem dX5_now_132 : decode cX5_now 132 = .ok (.aload_n 0, 1) := by decide +kernel
theorem dX5_now_133 : decode cX5_now 133 = .ok (.getfield 23, 3) := by decide +kernel
theorem dX5_now_136 : decode cX5_now 136 = .ok (.bipush 15, 2) := by decide +kernel
theorem dX5_now_138 : decode cX5_now 138 = .ok (.iaload, 1) := by decide +kernel
theorem dX5_now_139 : decode cX5_now 139 = .ok (.ireturn, 1) := by decide +kernel
theorem dX5_now_140 : decode cX5_now 140 = .ok (.iconst (-1), 1) := by decide +kernel
theorem dX5_now_141 : decode cX5_now 141 = .ok (.ireturn, 1) := by decide +kernel
set_option maxRecDepth 20000 in
theorem ggX5_anew_X5_begins : GoodIn wsX5_anew wsX5_begins := goodIn_r _ [6, 1, 7, 8, 9, 10, 11, 12, 13, 14, 15, 16, 17, 18, 19, 20, 21, 22, 23, 24, 25, 26, 27, 28, 29, 30, 31, 32] (by decide +kernel) (by decide +kernel)
set_option maxRecDepth 20000 in
theorem gX5_anew_X5_begins : GoodIn wsX5_anew (wsV RX5 52 RX5 yX5_begins wsX5_begins) := goodIn_app (goodIn_of _ (by decide +kernel)) ggX5_anew_X5_begins
theorem dX5_anew_0 : decode cX5_anew 0 = .ok (.aload_n 0, 1) := by decide +kernel
theorem dX5_anew_1 : decode cX5_anew 1 = .ok (.getfield 23, 3) := by decide +kernel
theorem dX5_anew_4 : decode cX5_anew 4 = .ok (.bipush 12, 2) := by decide +kernel
theorem dX5_anew_6 : decode cX5_anew 6 = .ok (.iaload, 1) := by decide +kernel
theorem dX5_anew_7 : decode cX5_anew 7 = .ok (.istore_n 1, 1) := by decide +kernel
theorem dX5_anew_8 : decode cX5_anew 8 = .ok (.aload_n 0, 1) := by decide +kernel
theorem dX5_anew_9 : decode cX5_anew 9 = .ok (.iconst 0, 1) := by decide +kernel
theorem dX5_anew_10 : decode cX5_anew 10 = .ok (.invokevirtual 52, 3) := by decide +kernel
theorem dX5_anew_13 : decode cX5_anew 13 = .ok (.iload_n 1, 1) := by decide +kernel
theorem dX5_anew_14 : decode cX5_anew 14 = .ok (.ireturn, 1) := by decide +kernel
set_option maxRecDepth 20000 in
theorem ggX5_tried_X5_second : GoodIn wsX5_tried wsX5_second := goodIn_r _ [10, 1, 11, 12, 13, 14, 9, 15, 16, 17, 18, 19, 20, 21, 22, 23, 24, 25, 26, 27, 28, 29, 30, 31, 32, 33, 34, 35, 36, 37, 38, 39, 40, 41, 42, 43, 44, 45, 46, 47, 48] (by decide +kernel) (by decide +kernel)
set_option maxRecDepth 20000 in
theorem gX5_tried_X5_second : GoodIn wsX5_tried (wsV RX5 164 RX5 yX5_second wsX5_second) := goodIn_app (goodIn_of _ (by decide +kernel)) ggX5_tried_X5_second
theorem dX5_tried_0 : decode cX5_tried 0 = .ok (.bipush 60, 2) := by decide +kernel
theorem dX5_tried_2 : decode cX5_tried 2 = .ok (.istore_n 3, 1) := by decide +kernel
theorem dX5_tried_3 : decode cX5_tried 3 = .ok (.aload_n 0, 1) := by decide +kernel
theorem dX5_tried_4 : decode cX5_tried 4 = .ok (.getfield 23, 3) := by decide +kernel
theorem dX5_tried_7 : decode cX5_tried 7 = .ok (.iload_n 3, 1) := by decide +kernel
theorem dX5_tried_8 : decode cX5_tried 8 = .ok (.bipush 13, 2) := by decide +kernel
theorem dX5_tried_10 : decode cX5_tried 10 = .ok (.iadd, 1) := by decide +kernel
theorem dX5_tried_11 : decode cX5_tried 11 = .ok (.iaload, 1) := by decide +kernel
theorem dX5_tried_12 : decode cX5_tried 12 = .ok (.istore 4, 2) := by decide +kernel
theorem dX5_tried_14 : decode cX5_tried 14 = .ok (.aload_n 0, 1) := by decide +kernel
theorem dX5_tried_15 : decode cX5_tried 15 = .ok (.iconst 3, 1) := by decide +kernel
theorem dX5_tried_16 : decode cX5_tried 16 = .ok (.iload_n 1, 1) := by decide +kernel
theorem dX5_tried_17 : decode cX5_tried 17 = .ok (.iload_n 2, 1) := by decide +kernel
theorem dX5_tried_18 : decode cX5_tried 18 = .ok (.invokevirtual 164, 3) := by decide +kernel
theorem dX5_tried_21 : decode cX5_tried 21 = .ok (.aload_n 0, 1) := by decide +kernel
theorem dX5_tried_22 : decode cX5_tried 22 = .ok (.getfield 23, 3) := by decide +kernel
theorem dX5_tried_25 : decode cX5_tried 25 = .ok (.iload_n 3, 1) := by decide +kernel
theorem dX5_tried_26 : decode cX5_tried 26 = .ok (.bipush 12, 2) := by decide +kernel
theorem dX5_tried_28 : decode cX5_tried 28 = .ok (.iadd, 1) := by decide +kernel
theorem dX5_tried_29 : decode cX5_tried 29 = .ok (.iaload, 1) := by decide +kernel
theorem dX5_tried_30 : decode cX5_tried 30 = .ok (.istore 5, 2) := by decide +kernel
theorem dX5_tried_32 : decode cX5_tried 32 = .ok (.aload_n 0, 1) := by decide +kernel
theorem dX5_tried_33 : decode cX5_tried 33 = .ok (.iload 4, 2) := by decide +kernel
theorem dX5_tried_35 : decode cX5_tried 35 = .ok (.ifCond .ne 20, 3) := by decide +kernel
theorem dX5_tried_38 : decode cX5_tried 38 = .ok (.aload_n 0, 1) := by decide +kernel
theorem dX5_tried_39 : decode cX5_tried 39 = .ok (.getfield 23, 3) := by decide +kernel
theorem dX5_tried_42 : decode cX5_tried 42 = .ok (.iload_n 3, 1) := by decide +kernel
theorem dX5_tried_43 : decode cX5_tried 43 = .ok (.bipush 13, 2) := by decide +kernel
theorem dX5_tried_45 : decode cX5_tried 45 = .ok (.iadd, 1) := by decide +kernel
theorem dX5_tried_46 : decode cX5_tried 46 = .ok (.iaload, 1) := by decide +kernel
theorem dX5_tried_47 : decode cX5_tried 47 = .ok (.ifCond .le 8, 3) := by decide +kernel
theorem dX5_tried_50 : decode cX5_tried 50 = .ok (.iload 5, 2) := by decide +kernel
theorem dX5_tried_52 : decode cX5_tried 52 = .ok (.goto 7, 3) := by decide +kernel
theorem dX5_tried_55 : decode cX5_tried 55 = .ok (.aload_n 0, 1) := by decide +kernel
theorem dX5_tried_56 : decode cX5_tried 56 = .ok (.getfield 30, 3) := by decide +kernel
theorem dX5_tried_59 : decode cX5_tried 59 = .ok (.putfield 30, 3) := by decide +kernel
theorem dX5_tried_62 : decode cX5_tried 62 = .ok (.aload_n 0, 1) := by decide +kernel
theorem dX5_tried_63 : decode cX5_tried 63 = .ok (.aload_n 0, 1) := by decide +kernel
theorem dX5_tried_64 : decode cX5_tried 64 = .ok (.getfield 185, 3) := by decide +kernel
theorem dX5_tried_67 : decode cX5_tried 67 = .ok (.ifCond .ge 20, 3) := by decide +kernel
theorem dX5_tried_70 : decode cX5_tried 70 = .ok (.aload_n 0, 1) := by decide +kernel
theorem dX5_tried_71 : decode cX5_tried 71 = .ok (.getfield 23, 3) := by decide +kernel
theorem dX5_tried_74 : decode cX5_tried 74 = .ok (.iload_n 3, 1) := by decide +kernel
theorem dX5_tried_75 : decode cX5_tried 75 = .ok (.bipush 15, 2) := by decide +kernel
theorem dX5_tried_77 : decode cX5_tried 77 = .ok (.iadd, 1) := by decide +kernel
theorem dX5_tried_78 : decode cX5_tried 78 = .ok (.iaload, 1) := by decide +kernel
theorem dX5_tried_79 : decode cX5_tried 79 = .ok (.ifCond .le 8, 3) := by decide +kernel
theorem dX5_tried_82 : decode cX5_tried 82 = .ok (.iload 5, 2) := by decide +kernel
theorem dX5_tried_84 : decode cX5_tried 84 = .ok (.goto 7, 3) := by decide +kernel
theorem dX5_tried_87 : decode cX5_tried 87 = .ok (.aload_n 0, 1) := by decide +kernel
theorem dX5_tried_88 : decode cX5_tried 88 = .ok (.getfield 185, 3) := by decide +kernel
theorem dX5_tried_91 : decode cX5_tried 91 = .ok (.putfield 185, 3) := by decide +kernel
theorem dX5_tried_94 : decode cX5_tried 94 = .ok (.aload_n 0, 1) := by decide +kernel
theorem dX5_tried_95 : decode cX5_tried 95 = .ok (.getfield 188, 3) := by decide +kernel
theorem dX5_tried_98 : decode cX5_tried 98 = .ok (.ifCond .lt 19, 3) := by decide +kernel
theorem dX5_tried_101 : decode cX5_tried 101 = .ok (.aload_n 0, 1) := by decide +kernel
theorem dX5_tried_102 : decode cX5_tried 102 = .ok (.getfield 23, 3) := by decide +kernel
theorem dX5_tried_105 : decode cX5_tried 105 = .ok (.iload_n 3, 1) := by decide +kernel
theorem dX5_tried_106 : decode cX5_tried 106 = .ok (.bipush 17, 2) := by decide +kernel
theorem dX5_tried_108 : decode cX5_tried 108 = .ok (.iadd, 1) := by decide +kernel
theorem dX5_tried_109 : decode cX5_tried 109 = .ok (.iaload, 1) := by decide +kernel
theorem dX5_tried_110 : decode cX5_tried 110 = .ok (.aload_n 0, 1) := by decide +kernel
theorem dX5_tried_111 : decode cX5_tried 111 = .ok (.getfield 191, 3) := by decide +kernel
theorem dX5_tried_114 : decode cX5_tried 114 = .ok (.if_icmp .le 22, 3) := by decide +kernel
theorem dX5_tried_117 : decode cX5_tried 117 = .ok (.aload_n 0, 1) := by decide +kernel
theorem dX5_tried_118 : decode cX5_tried 118 = .ok (.aload_n 0, 1) := by decide +kernel
theorem dX5_tried_119 : decode cX5_tried 119 = .ok (.getfield 23, 3) := by decide +kernel
theorem dX5_tried_122 : decode cX5_tried 122 = .ok (.iload_n 3, 1) := by decide +kernel
theorem dX5_tried_123 : decode cX5_tried 123 = .ok (.bipush 17, 2) := by decide +kernel
theorem dX5_tried_125 : decode cX5_tried 125 = .ok (.iadd, 1) := by decide +kernel
theorem dX5_tried_126 : decode cX5_tried 126 = .ok (.iaload, 1) := by decide +kernel
theorem dX5_tried_127 : decode cX5_tried 127 = .ok (.putfield 191, 3) := by decide +kernel
theorem dX5_tried_130 : decode cX5_tried 130 = .ok (.aload_n 0, 1) := by decide +kernel
theorem dX5_tried_131 : decode cX5_tried 131 = .ok (.iload 5, 2) := by decide +kernel
theorem dX5_tried_133 : decode cX5_tried 133 = .ok (.putfield 188, 3) := by decide +kernel
theorem dX5_tried_136 : decode cX5_tried 136 = .ok (.return_, 1) := by decide +kernel
set_option maxRecDepth 20000 in
theorem ggX5_fresh_X5_begins : GoodIn wsX5_fresh wsX5_begins := goodIn_r _ [10, 1, 11, 12, 13, 14, 15, 16, 17, 18, 19, 20, 21, 22, 23, 24, 25, 26, 27, 28, 29, 30, 31, 32, 33, 34, 35, 36] (by decide +kernel) (by decide +kernel)
set_option maxRecDepth 20000 in
theorem gX5_fresh_X5_begins : GoodIn wsX5_fresh (wsV RX5 52 RX5 yX5_begins wsX5_begins) := goodIn_app (goodIn_of _ (by decide +kernel)) ggX5_fresh_X5_begins
theorem dX5_fresh_0 : decode cX5_fresh 0 = .ok (.aload_n 0, 1) := by decide +kernel
theorem dX5_fresh_1 : decode cX5_fresh 1 = .ok (.iconst 3, 1) := by decide +kernel
theorem dX5_fresh_2 : decode cX5_fresh 2 = .ok (.invokevirtual 52, 3) := by decide +kernel
theorem dX5_fresh_5 : decode cX5_fresh 5 = .ok (.aload_n 0, 1) := by decide +kernel
theorem dX5_fresh_6 : decode cX5_fresh 6 = .ok (.getfield 23, 3) := by decide +kernel
theorem dX5_fresh_9 : decode cX5_fresh 9 = .ok (.bipush 71, 2) := by decide +kernel
theorem dX5_fresh_11 : decode cX5_fresh 11 = .ok (.iload_n 1, 1) := by decide +kernel
theorem dX5_fresh_12 : decode cX5_fresh 12 = .ok (.iastore, 1) := by decide +kernel
theorem dX5_fresh_13 : decode cX5_fresh 13 = .ok (.aload_n 0, 1) := by decide +kernel
theorem dX5_fresh_14 : decode cX5_fresh 14 = .ok (.bipush (-9), 2) := by decide +kernel
theorem dX5_fresh_16 : decode cX5_fresh 16 = .ok (.putfield 30, 3) := by decide +kernel
theorem dX5_fresh_19 : decode cX5_fresh 19 = .ok (.aload_n 0, 1) := by decide +kernel
theorem dX5_fresh_20 : decode cX5_fresh 20 = .ok (.iconst 0, 1) := by decide +kernel
theorem dX5_fresh_21 : decode cX5_fresh 21 = .ok (.putfield 191, 3) := by decide +kernel
theorem dX5_fresh_24 : decode cX5_fresh 24 = .ok (.aload_n 0, 1) := by decide +kernel
theorem dX5_fresh_25 : decode cX5_fresh 25 = .ok (.bipush (-9), 2) := by decide +kernel
theorem dX5_fresh_27 : decode cX5_fresh 27 = .ok (.putfield 188, 3) := by decide +kernel
theorem dX5_fresh_30 : decode cX5_fresh 30 = .ok (.aload_n 0, 1) := by decide +kernel
theorem dX5_fresh_31 : decode cX5_fresh 31 = .ok (.bipush (-9), 2) := by decide +kernel
theorem dX5_fresh_33 : decode cX5_fresh 33 = .ok (.putfield 185, 3) := by decide +kernel
theorem dX5_fresh_36 : decode cX5_fresh 36 = .ok (.return_, 1) := by decide +kernel
set_option maxRecDepth 20000 in
theorem ggX5_plan_X5_tried : GoodIn wsX5_plan wsX5_tried := goodIn_r _ [7, 8, 9, 10, 11, 12, 13, 14, 15, 6, 16, 17, 18, 19, 20, 21, 22, 23, 24, 25, 26, 27, 28, 29, 38, 39, 40, 41, 42, 43, 44, 45, 46, 47, 48, 49, 50, 51, 52, 53, 54, 55, 56, 57, 58, 59, 60, 61, 62] (by decide +kernel) (by decide +kernel)
set_option maxRecDepth 20000 in
theorem gX5_plan_X5_tried : GoodIn wsX5_plan (wsV RX5 194 RX5 yX5_tried wsX5_tried) := goodIn_app (goodIn_of _ (by decide +kernel)) ggX5_plan_X5_tried
set_option maxRecDepth 20000 in
theorem ggX5_plan_X5_turns : GoodIn wsX5_plan wsX5_turns := goodIn_r _ [33, 8, 38, 39, 40, 41, 42, 43, 44, 45, 46, 47, 48, 49, 50, 51, 52, 53, 54, 55, 56, 57, 58, 59, 60, 61, 62] (by decide +kernel) (by decide +kernel)
set_option maxRecDepth 20000 in
theorem gX5_plan_X5_turns : GoodIn wsX5_plan (wsV RX5 174 RX5 yX5_turns wsX5_turns) := goodIn_app (goodIn_of _ (by decide +kernel)) ggX5_plan_X5_turns
set_option maxRecDepth 20000 in
theorem ggX5_plan_X5_pricked : GoodIn wsX5_plan wsX5_pricked := goodIn_r _ [37, 8, 38, 39, 40, 41, 42, 43, 44, 45, 46, 47, 48, 49, 50, 51, 52, 53, 54, 55, 56, 57, 58, 59, 60, 61, 62] (by decide +kernel) (by decide +kernel)
set_option maxRecDepth 20000 in
theorem gX5_plan_X5_pricked : GoodIn wsX5_plan (wsV RX5 180 RX5 yX5_pricked wsX5_pricked) := goodIn_app (goodIn_of _ (by decide +kernel)) ggX5_plan_X5_pricked
theorem dX5_plan_0 : decode cX5_plan 0 = .ok (.iconst 0, 1) := by decide +kernel
theorem dX5_plan_1 : decode cX5_plan 1 = .ok (.istore_n 2, 1) := by decide +kernel
theorem dX5_plan_2 : decode cX5_plan 2 = .ok (.iload_n 2, 1) := by decide +kernel
theorem dX5_plan_3 : decode cX5_plan 3 = .ok (.aload_n 0, 1) := by decide +kernel
theorem dX5_plan_4 : decode cX5_plan 4 = .ok (.getfield 17, 3) := by decide +kernel
theorem dX5_plan_7 : decode cX5_plan 7 = .ok (.iconst 0, 1) := by decide +kernel
theorem dX5_plan_8 : decode cX5_plan 8 = .ok (.iaload, 1) := by decide +kernel
theorem dX5_plan_9 : decode cX5_plan 9 = .ok (.if_icmp .ge 127, 3) := by decide +kernel
theorem dX5_plan_12 : decode cX5_plan 12 = .ok (.aload_n 0, 1) := by decide +kernel
theorem dX5_plan_13 : decode cX5_plan 13 = .ok (.getfield 20, 3) := by decide +kernel
theorem dX5_plan_16 : decode cX5_plan 16 = .ok (.iconst 3, 1) := by decide +kernel
theorem dX5_plan_17 : decode cX5_plan 17 = .ok (.iload_n 2, 1) := by decide +kernel
theorem dX5_plan_18 : decode cX5_plan 18 = .ok (.imul, 1) := by decide +kernel
theorem dX5_plan_19 : decode cX5_plan 19 = .ok (.iaload, 1) := by decide +kernel
theorem dX5_plan_20 : decode cX5_plan 20 = .ok (.istore_n 3, 1) := by decide +kernel
theorem dX5_plan_21 : decode cX5_plan 21 = .ok (.aload_n 0, 1) := by decide +kernel
theorem dX5_plan_22 : decode cX5_plan 22 = .ok (.getfield 20, 3) := by decide +kernel
theorem dX5_plan_25 : decode cX5_plan 25 = .ok (.iconst 3, 1) := by decide +kernel
theorem dX5_plan_26 : decode cX5_plan 26 = .ok (.iload_n 2, 1) := by decide +kernel
theorem dX5_plan_27 : decode cX5_plan 27 = .ok (.imul, 1) := by decide +kernel
theorem dX5_plan_28 : decode cX5_plan 28 = .ok (.iconst 1, 1) := by decide +kernel
theorem dX5_plan_29 : decode cX5_plan 29 = .ok (.iadd, 1) := by decide +kernel
theorem dX5_plan_30 : decode cX5_plan 30 = .ok (.iaload, 1) := by decide +kernel
theorem dX5_plan_31 : decode cX5_plan 31 = .ok (.istore 4, 2) := by decide +kernel
theorem dX5_plan_33 : decode cX5_plan 33 = .ok (.iload_n 3, 1) := by decide +kernel
theorem dX5_plan_34 : decode cX5_plan 34 = .ok (.ifCond .ne 10, 3) := by decide +kernel
theorem dX5_plan_37 : decode cX5_plan 37 = .ok (.iload 4, 2) := by decide +kernel
theorem dX5_plan_39 : decode cX5_plan 39 = .ok (.iload_n 1, 1) := by decide +kernel
theorem dX5_plan_40 : decode cX5_plan 40 = .ok (.iadd, 1) := by decide +kernel
theorem dX5_plan_41 : decode cX5_plan 41 = .ok (.goto 5, 3) := by decide +kernel
theorem dX5_plan_44 : decode cX5_plan 44 = .ok (.iload 4, 2) := by decide +kernel
theorem dX5_plan_46 : decode cX5_plan 46 = .ok (.istore 5, 2) := by decide +kernel
theorem dX5_plan_48 : decode cX5_plan 48 = .ok (.iload 5, 2) := by decide +kernel
theorem dX5_plan_50 : decode cX5_plan 50 = .ok (.sipush 300, 3) := by decide +kernel
theorem dX5_plan_53 : decode cX5_plan 53 = .ok (.if_icmp .le 9, 3) := by decide +kernel
theorem dX5_plan_56 : decode cX5_plan 56 = .ok (.sipush 300, 3) := by decide +kernel
theorem dX5_plan_59 : decode cX5_plan 59 = .ok (.goto 5, 3) := by decide +kernel
theorem dX5_plan_62 : decode cX5_plan 62 = .ok (.iload 5, 2) := by decide +kernel
theorem dX5_plan_64 : decode cX5_plan 64 = .ok (.istore 5, 2) := by decide +kernel
theorem dX5_plan_66 : decode cX5_plan 66 = .ok (.iconst 0, 1) := by decide +kernel
theorem dX5_plan_67 : decode cX5_plan 67 = .ok (.istore 6, 2) := by decide +kernel
theorem dX5_plan_69 : decode cX5_plan 69 = .ok (.iload 6, 2) := by decide +kernel
theorem dX5_plan_71 : decode cX5_plan 71 = .ok (.aload_n 0, 1) := by decide +kernel
theorem dX5_plan_72 : decode cX5_plan 72 = .ok (.getfield 20, 3) := by decide +kernel
theorem dX5_plan_75 : decode cX5_plan 75 = .ok (.iconst 3, 1) := by decide +kernel
theorem dX5_plan_76 : decode cX5_plan 76 = .ok (.iload_n 2, 1) := by decide +kernel
theorem dX5_plan_77 : decode cX5_plan 77 = .ok (.imul, 1) := by decide +kernel
theorem dX5_plan_78 : decode cX5_plan 78 = .ok (.iconst 2, 1) := by decide +kernel
theorem dX5_plan_79 : decode cX5_plan 79 = .ok (.iadd, 1) := by decide +kernel
theorem dX5_plan_80 : decode cX5_plan 80 = .ok (.iaload, 1) := by decide +kernel
theorem dX5_plan_81 : decode cX5_plan 81 = .ok (.if_icmp .ge 25, 3) := by decide +kernel
theorem dX5_plan_84 : decode cX5_plan 84 = .ok (.aload_n 0, 1) := by decide +kernel
theorem dX5_plan_85 : decode cX5_plan 85 = .ok (.iload 5, 2) := by decide +kernel
theorem dX5_plan_87 : decode cX5_plan 87 = .ok (.iload_n 3, 1) := by decide +kernel
theorem dX5_plan_88 : decode cX5_plan 88 = .ok (.iconst 3, 1) := by decide +kernel
theorem dX5_plan_89 : decode cX5_plan 89 = .ok (.if_icmp .ne 7, 3) := by decide +kernel
theorem dX5_plan_92 : decode cX5_plan 92 = .ok (.iconst 1, 1) := by decide +kernel
theorem dX5_plan_93 : decode cX5_plan 93 = .ok (.goto 4, 3) := by decide +kernel
theorem dX5_plan_96 : decode cX5_plan 96 = .ok (.iconst 0, 1) := by decide +kernel
theorem dX5_plan_97 : decode cX5_plan 97 = .ok (.invokevirtual 194, 3) := by decide +kernel
theorem dX5_plan_100 : decode cX5_plan 100 = .ok (.iinc 6 1, 3) := by decide +kernel
theorem dX5_plan_103 : decode cX5_plan 103 = .ok (.goto (-34), 3) := by decide +kernel
theorem dX5_plan_106 : decode cX5_plan 106 = .ok (.iload_n 3, 1) := by decide +kernel
theorem dX5_plan_107 : decode cX5_plan 107 = .ok (.iconst 1, 1) := by decide +kernel
theorem dX5_plan_108 : decode cX5_plan 108 = .ok (.if_icmp .ne 10, 3) := by decide +kernel
theorem dX5_plan_111 : decode cX5_plan 111 = .ok (.aload_n 0, 1) := by decide +kernel
theorem dX5_plan_112 : decode cX5_plan 112 = .ok (.iconst 3, 1) := by decide +kernel
theorem dX5_plan_113 : decode cX5_plan 113 = .ok (.iload 4, 2) := by decide +kernel
theorem dX5_plan_115 : decode cX5_plan 115 = .ok (.invokevirtual 174, 3) := by decide +kernel
theorem dX5_plan_118 : decode cX5_plan 118 = .ok (.iload_n 3, 1) := by decide +kernel
theorem dX5_plan_119 : decode cX5_plan 119 = .ok (.iconst 2, 1) := by decide +kernel
theorem dX5_plan_120 : decode cX5_plan 120 = .ok (.if_icmp .ne 10, 3) := by decide +kernel
theorem dX5_plan_123 : decode cX5_plan 123 = .ok (.aload_n 0, 1) := by decide +kernel
theorem dX5_plan_124 : decode cX5_plan 124 = .ok (.iconst 3, 1) := by decide +kernel
theorem dX5_plan_125 : decode cX5_plan 125 = .ok (.iload 4, 2) := by decide +kernel
theorem dX5_plan_127 : decode cX5_plan 127 = .ok (.invokevirtual 180, 3) := by decide +kernel
theorem dX5_plan_130 : decode cX5_plan 130 = .ok (.iinc 2 1, 3) := by decide +kernel
theorem dX5_plan_133 : decode cX5_plan 133 = .ok (.goto (-131), 3) := by decide +kernel
theorem dX5_plan_136 : decode cX5_plan 136 = .ok (.return_, 1) := by decide +kernel
