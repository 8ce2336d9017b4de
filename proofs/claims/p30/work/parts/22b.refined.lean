-- CanonCoteLaw.isRefined (LCanonCote;IJ)Z
section
theorem dL_isRefined_0 : decode cL_isRefined 0 = .ok (.lload_n 2, 1) := by decide +kernel
theorem dL_isRefined_1 : decode cL_isRefined 1 = .ok (.invokestatic 23, 3) := by decide +kernel
theorem dL_isRefined_4 : decode cL_isRefined 4 = .ok (.istore 4, 2) := by decide +kernel
theorem dL_isRefined_6 : decode cL_isRefined 6 = .ok (.bipush 8, 2) := by decide +kernel
theorem dL_isRefined_8 : decode cL_isRefined 8 = .ok (.newarray .long, 2) := by decide +kernel
theorem dL_isRefined_10 : decode cL_isRefined 10 = .ok (.astore 5, 2) := by decide +kernel
theorem dL_isRefined_12 : decode cL_isRefined 12 = .ok (.bipush 8, 2) := by decide +kernel
theorem dL_isRefined_14 : decode cL_isRefined 14 = .ok (.newarray .int, 2) := by decide +kernel
theorem dL_isRefined_16 : decode cL_isRefined 16 = .ok (.astore 6, 2) := by decide +kernel
theorem dL_isRefined_18 : decode cL_isRefined 18 = .ok (.iconst 0, 1) := by decide +kernel
theorem dL_isRefined_19 : decode cL_isRefined 19 = .ok (.istore 7, 2) := by decide +kernel
theorem dL_isRefined_21 : decode cL_isRefined 21 = .ok (.iconst 1, 1) := by decide +kernel
theorem dL_isRefined_22 : decode cL_isRefined 22 = .ok (.istore 8, 2) := by decide +kernel
theorem dL_isRefined_24 : decode cL_isRefined 24 = .ok (.iconst (-1), 1) := by decide +kernel
theorem dL_isRefined_25 : decode cL_isRefined 25 = .ok (.istore 9, 2) := by decide +kernel
theorem dL_isRefined_27 : decode cL_isRefined 27 = .ok (.iload 8, 2) := by decide +kernel
theorem dL_isRefined_29 : decode cL_isRefined 29 = .ok (.iload 7, 2) := by decide +kernel
theorem dL_isRefined_31 : decode cL_isRefined 31 = .ok (.if_icmp .le 294, 3) := by decide +kernel
theorem dL_isRefined_34 : decode cL_isRefined 34 = .ok (.iload 9, 2) := by decide +kernel
theorem dL_isRefined_36 : decode cL_isRefined 36 = .ok (.ifCond .ge 7, 3) := by decide +kernel
theorem dL_isRefined_39 : decode cL_isRefined 39 = .ok (.iconst 0, 1) := by decide +kernel
theorem dL_isRefined_40 : decode cL_isRefined 40 = .ok (.goto 5, 3) := by decide +kernel
theorem dL_isRefined_43 : decode cL_isRefined 43 = .ok (.iload 8, 2) := by decide +kernel
theorem dL_isRefined_45 : decode cL_isRefined 45 = .ok (.istore 7, 2) := by decide +kernel
theorem dL_isRefined_47 : decode cL_isRefined 47 = .ok (.iconst 0, 1) := by decide +kernel
theorem dL_isRefined_48 : decode cL_isRefined 48 = .ok (.istore 8, 2) := by decide +kernel
theorem dL_isRefined_50 : decode cL_isRefined 50 = .ok (.iconst 0, 1) := by decide +kernel
theorem dL_isRefined_51 : decode cL_isRefined 51 = .ok (.istore 10, 2) := by decide +kernel
theorem dL_isRefined_53 : decode cL_isRefined 53 = .ok (.iload 10, 2) := by decide +kernel
theorem dL_isRefined_55 : decode cL_isRefined 55 = .ok (.iload 4, 2) := by decide +kernel
theorem dL_isRefined_57 : decode cL_isRefined 57 = .ok (.if_icmp .ge 124, 3) := by decide +kernel
theorem dL_isRefined_60 : decode cL_isRefined 60 = .ok (.aload 5, 2) := by decide +kernel
theorem dL_isRefined_62 : decode cL_isRefined 62 = .ok (.iload 10, 2) := by decide +kernel
theorem dL_isRefined_64 : decode cL_isRefined 64 = .ok (.iload 9, 2) := by decide +kernel
theorem dL_isRefined_66 : decode cL_isRefined 66 = .ok (.ifCond .ge 13, 3) := by decide +kernel
theorem dL_isRefined_69 : decode cL_isRefined 69 = .ok (.lload_n 2, 1) := by decide +kernel
theorem dL_isRefined_70 : decode cL_isRefined 70 = .ok (.iload 10, 2) := by decide +kernel
theorem dL_isRefined_72 : decode cL_isRefined 72 = .ok (.invokestatic 31, 3) := by decide +kernel
theorem dL_isRefined_75 : decode cL_isRefined 75 = .ok (.i2l, 1) := by decide +kernel
theorem dL_isRefined_76 : decode cL_isRefined 76 = .ok (.goto 9, 3) := by decide +kernel
theorem dL_isRefined_79 : decode cL_isRefined 79 = .ok (.aload 6, 2) := by decide +kernel
theorem dL_isRefined_81 : decode cL_isRefined 81 = .ok (.iload 10, 2) := by decide +kernel
theorem dL_isRefined_83 : decode cL_isRefined 83 = .ok (.iaload, 1) := by decide +kernel
theorem dL_isRefined_84 : decode cL_isRefined 84 = .ok (.i2l, 1) := by decide +kernel
theorem dL_isRefined_85 : decode cL_isRefined 85 = .ok (.lastore, 1) := by decide +kernel
theorem dL_isRefined_86 : decode cL_isRefined 86 = .ok (.iconst 0, 1) := by decide +kernel
theorem dL_isRefined_87 : decode cL_isRefined 87 = .ok (.istore 11, 2) := by decide +kernel
theorem dL_isRefined_89 : decode cL_isRefined 89 = .ok (.iload 11, 2) := by decide +kernel
theorem dL_isRefined_91 : decode cL_isRefined 91 = .ok (.iload 4, 2) := by decide +kernel
theorem dL_isRefined_93 : decode cL_isRefined 93 = .ok (.if_icmp .ge 82, 3) := by decide +kernel
theorem dL_isRefined_96 : decode cL_isRefined 96 = .ok (.iload 9, 2) := by decide +kernel
theorem dL_isRefined_98 : decode cL_isRefined 98 = .ok (.ifCond .lt 77, 3) := by decide +kernel
theorem dL_isRefined_101 : decode cL_isRefined 101 = .ok (.iconst 0, 1) := by decide +kernel
theorem dL_isRefined_102 : decode cL_isRefined 102 = .ok (.istore 12, 2) := by decide +kernel
theorem dL_isRefined_104 : decode cL_isRefined 104 = .ok (.iconst 0, 1) := by decide +kernel
theorem dL_isRefined_105 : decode cL_isRefined 105 = .ok (.istore 13, 2) := by decide +kernel
theorem dL_isRefined_107 : decode cL_isRefined 107 = .ok (.iload 13, 2) := by decide +kernel
theorem dL_isRefined_109 : decode cL_isRefined 109 = .ok (.iload 4, 2) := by decide +kernel
theorem dL_isRefined_111 : decode cL_isRefined 111 = .ok (.if_icmp .ge 40, 3) := by decide +kernel
theorem dL_isRefined_114 : decode cL_isRefined 114 = .ok (.iload 12, 2) := by decide +kernel
theorem dL_isRefined_116 : decode cL_isRefined 116 = .ok (.aload 6, 2) := by decide +kernel
theorem dL_isRefined_118 : decode cL_isRefined 118 = .ok (.iload 13, 2) := by decide +kernel
theorem dL_isRefined_120 : decode cL_isRefined 120 = .ok (.iaload, 1) := by decide +kernel
theorem dL_isRefined_121 : decode cL_isRefined 121 = .ok (.iload 11, 2) := by decide +kernel
theorem dL_isRefined_123 : decode cL_isRefined 123 = .ok (.if_icmp .ne 18, 3) := by decide +kernel
theorem dL_isRefined_126 : decode cL_isRefined 126 = .ok (.lload_n 2, 1) := by decide +kernel
theorem dL_isRefined_127 : decode cL_isRefined 127 = .ok (.iload 10, 2) := by decide +kernel
theorem dL_isRefined_129 : decode cL_isRefined 129 = .ok (.iload 13, 2) := by decide +kernel
theorem dL_isRefined_131 : decode cL_isRefined 131 = .ok (.invokestatic 39, 3) := by decide +kernel
theorem dL_isRefined_134 : decode cL_isRefined 134 = .ok (.ifCond .eq 7, 3) := by decide +kernel
theorem dL_isRefined_137 : decode cL_isRefined 137 = .ok (.iconst 1, 1) := by decide +kernel
theorem dL_isRefined_138 : decode cL_isRefined 138 = .ok (.goto 4, 3) := by decide +kernel
theorem dL_isRefined_141 : decode cL_isRefined 141 = .ok (.iconst 0, 1) := by decide +kernel
theorem dL_isRefined_142 : decode cL_isRefined 142 = .ok (.iadd, 1) := by decide +kernel
theorem dL_isRefined_143 : decode cL_isRefined 143 = .ok (.istore 12, 2) := by decide +kernel
theorem dL_isRefined_145 : decode cL_isRefined 145 = .ok (.iinc 13 1, 3) := by decide +kernel
theorem dL_isRefined_148 : decode cL_isRefined 148 = .ok (.goto (-41), 3) := by decide +kernel
theorem dL_isRefined_151 : decode cL_isRefined 151 = .ok (.aload 5, 2) := by decide +kernel
theorem dL_isRefined_153 : decode cL_isRefined 153 = .ok (.iload 10, 2) := by decide +kernel
theorem dL_isRefined_155 : decode cL_isRefined 155 = .ok (.aload 5, 2) := by decide +kernel
theorem dL_isRefined_157 : decode cL_isRefined 157 = .ok (.iload 10, 2) := by decide +kernel
theorem dL_isRefined_159 : decode cL_isRefined 159 = .ok (.laload, 1) := by decide +kernel
theorem dL_isRefined_160 : decode cL_isRefined 160 = .ok (.ldc2_w 48, 3) := by decide +kernel
theorem dL_isRefined_163 : decode cL_isRefined 163 = .ok (.lmul, 1) := by decide +kernel
theorem dL_isRefined_164 : decode cL_isRefined 164 = .ok (.iload 12, 2) := by decide +kernel
theorem dL_isRefined_166 : decode cL_isRefined 166 = .ok (.i2l, 1) := by decide +kernel
theorem dL_isRefined_167 : decode cL_isRefined 167 = .ok (.ladd, 1) := by decide +kernel
theorem dL_isRefined_168 : decode cL_isRefined 168 = .ok (.lastore, 1) := by decide +kernel
theorem dL_isRefined_169 : decode cL_isRefined 169 = .ok (.iinc 11 1, 3) := by decide +kernel
theorem dL_isRefined_172 : decode cL_isRefined 172 = .ok (.goto (-83), 3) := by decide +kernel
theorem dL_isRefined_175 : decode cL_isRefined 175 = .ok (.iinc 10 1, 3) := by decide +kernel
theorem dL_isRefined_178 : decode cL_isRefined 178 = .ok (.goto (-125), 3) := by decide +kernel
theorem dL_isRefined_181 : decode cL_isRefined 181 = .ok (.iconst 0, 1) := by decide +kernel
theorem dL_isRefined_182 : decode cL_isRefined 182 = .ok (.istore 10, 2) := by decide +kernel
theorem dL_isRefined_184 : decode cL_isRefined 184 = .ok (.iload 10, 2) := by decide +kernel
theorem dL_isRefined_186 : decode cL_isRefined 186 = .ok (.iload 4, 2) := by decide +kernel
theorem dL_isRefined_188 : decode cL_isRefined 188 = .ok (.if_icmp .ge 131, 3) := by decide +kernel
theorem dL_isRefined_191 : decode cL_isRefined 191 = .ok (.iconst 0, 1) := by decide +kernel
theorem dL_isRefined_192 : decode cL_isRefined 192 = .ok (.istore 11, 2) := by decide +kernel
theorem dL_isRefined_194 : decode cL_isRefined 194 = .ok (.iconst 0, 1) := by decide +kernel
theorem dL_isRefined_195 : decode cL_isRefined 195 = .ok (.istore 12, 2) := by decide +kernel
theorem dL_isRefined_197 : decode cL_isRefined 197 = .ok (.iload 12, 2) := by decide +kernel
theorem dL_isRefined_199 : decode cL_isRefined 199 = .ok (.iload 4, 2) := by decide +kernel
theorem dL_isRefined_201 : decode cL_isRefined 201 = .ok (.if_icmp .ge 87, 3) := by decide +kernel
theorem dL_isRefined_204 : decode cL_isRefined 204 = .ok (.aload 5, 2) := by decide +kernel
theorem dL_isRefined_206 : decode cL_isRefined 206 = .ok (.iload 12, 2) := by decide +kernel
theorem dL_isRefined_208 : decode cL_isRefined 208 = .ok (.laload, 1) := by decide +kernel
theorem dL_isRefined_209 : decode cL_isRefined 209 = .ok (.aload 5, 2) := by decide +kernel
theorem dL_isRefined_211 : decode cL_isRefined 211 = .ok (.iload 10, 2) := by decide +kernel
theorem dL_isRefined_213 : decode cL_isRefined 213 = .ok (.laload, 1) := by decide +kernel
theorem dL_isRefined_214 : decode cL_isRefined 214 = .ok (.lcmp, 1) := by decide +kernel
theorem dL_isRefined_215 : decode cL_isRefined 215 = .ok (.ifCond .ge 7, 3) := by decide +kernel
theorem dL_isRefined_218 : decode cL_isRefined 218 = .ok (.iconst 1, 1) := by decide +kernel
theorem dL_isRefined_219 : decode cL_isRefined 219 = .ok (.goto 4, 3) := by decide +kernel
theorem dL_isRefined_222 : decode cL_isRefined 222 = .ok (.iconst 0, 1) := by decide +kernel
theorem dL_isRefined_223 : decode cL_isRefined 223 = .ok (.istore 13, 2) := by decide +kernel
theorem dL_isRefined_225 : decode cL_isRefined 225 = .ok (.iconst 0, 1) := by decide +kernel
theorem dL_isRefined_226 : decode cL_isRefined 226 = .ok (.istore 14, 2) := by decide +kernel
theorem dL_isRefined_228 : decode cL_isRefined 228 = .ok (.iload 14, 2) := by decide +kernel
theorem dL_isRefined_230 : decode cL_isRefined 230 = .ok (.iload 12, 2) := by decide +kernel
theorem dL_isRefined_232 : decode cL_isRefined 232 = .ok (.if_icmp .ge 35, 3) := by decide +kernel
theorem dL_isRefined_235 : decode cL_isRefined 235 = .ok (.iload 13, 2) := by decide +kernel
theorem dL_isRefined_237 : decode cL_isRefined 237 = .ok (.ifCond .eq 21, 3) := by decide +kernel
theorem dL_isRefined_240 : decode cL_isRefined 240 = .ok (.aload 5, 2) := by decide +kernel
theorem dL_isRefined_242 : decode cL_isRefined 242 = .ok (.iload 14, 2) := by decide +kernel
theorem dL_isRefined_244 : decode cL_isRefined 244 = .ok (.laload, 1) := by decide +kernel
theorem dL_isRefined_245 : decode cL_isRefined 245 = .ok (.aload 5, 2) := by decide +kernel
theorem dL_isRefined_247 : decode cL_isRefined 247 = .ok (.iload 12, 2) := by decide +kernel
theorem dL_isRefined_249 : decode cL_isRefined 249 = .ok (.laload, 1) := by decide +kernel
theorem dL_isRefined_250 : decode cL_isRefined 250 = .ok (.lcmp, 1) := by decide +kernel
theorem dL_isRefined_251 : decode cL_isRefined 251 = .ok (.ifCond .eq 7, 3) := by decide +kernel
theorem dL_isRefined_254 : decode cL_isRefined 254 = .ok (.iconst 1, 1) := by decide +kernel
theorem dL_isRefined_255 : decode cL_isRefined 255 = .ok (.goto 4, 3) := by decide +kernel
theorem dL_isRefined_258 : decode cL_isRefined 258 = .ok (.iconst 0, 1) := by decide +kernel
theorem dL_isRefined_259 : decode cL_isRefined 259 = .ok (.istore 13, 2) := by decide +kernel
theorem dL_isRefined_261 : decode cL_isRefined 261 = .ok (.iinc 14 1, 3) := by decide +kernel
theorem dL_isRefined_264 : decode cL_isRefined 264 = .ok (.goto (-36), 3) := by decide +kernel
theorem dL_isRefined_267 : decode cL_isRefined 267 = .ok (.iload 11, 2) := by decide +kernel
theorem dL_isRefined_269 : decode cL_isRefined 269 = .ok (.iload 13, 2) := by decide +kernel
theorem dL_isRefined_271 : decode cL_isRefined 271 = .ok (.ifCond .eq 7, 3) := by decide +kernel
theorem dL_isRefined_274 : decode cL_isRefined 274 = .ok (.iconst 1, 1) := by decide +kernel
theorem dL_isRefined_275 : decode cL_isRefined 275 = .ok (.goto 4, 3) := by decide +kernel
theorem dL_isRefined_278 : decode cL_isRefined 278 = .ok (.iconst 0, 1) := by decide +kernel
theorem dL_isRefined_279 : decode cL_isRefined 279 = .ok (.iadd, 1) := by decide +kernel
theorem dL_isRefined_280 : decode cL_isRefined 280 = .ok (.istore 11, 2) := by decide +kernel
theorem dL_isRefined_282 : decode cL_isRefined 282 = .ok (.iinc 12 1, 3) := by decide +kernel
theorem dL_isRefined_285 : decode cL_isRefined 285 = .ok (.goto (-88), 3) := by decide +kernel
theorem dL_isRefined_288 : decode cL_isRefined 288 = .ok (.aload 6, 2) := by decide +kernel
theorem dL_isRefined_290 : decode cL_isRefined 290 = .ok (.iload 10, 2) := by decide +kernel
theorem dL_isRefined_292 : decode cL_isRefined 292 = .ok (.iload 11, 2) := by decide +kernel
theorem dL_isRefined_294 : decode cL_isRefined 294 = .ok (.iastore, 1) := by decide +kernel
theorem dL_isRefined_295 : decode cL_isRefined 295 = .ok (.iload 11, 2) := by decide +kernel
theorem dL_isRefined_297 : decode cL_isRefined 297 = .ok (.iload 8, 2) := by decide +kernel
theorem dL_isRefined_299 : decode cL_isRefined 299 = .ok (.if_icmp .lt 10, 3) := by decide +kernel
theorem dL_isRefined_302 : decode cL_isRefined 302 = .ok (.iload 11, 2) := by decide +kernel
theorem dL_isRefined_304 : decode cL_isRefined 304 = .ok (.iconst 1, 1) := by decide +kernel
theorem dL_isRefined_305 : decode cL_isRefined 305 = .ok (.iadd, 1) := by decide +kernel
theorem dL_isRefined_306 : decode cL_isRefined 306 = .ok (.goto 5, 3) := by decide +kernel
theorem dL_isRefined_309 : decode cL_isRefined 309 = .ok (.iload 8, 2) := by decide +kernel
theorem dL_isRefined_311 : decode cL_isRefined 311 = .ok (.istore 8, 2) := by decide +kernel
theorem dL_isRefined_313 : decode cL_isRefined 313 = .ok (.iinc 10 1, 3) := by decide +kernel
theorem dL_isRefined_316 : decode cL_isRefined 316 = .ok (.goto (-132), 3) := by decide +kernel
theorem dL_isRefined_319 : decode cL_isRefined 319 = .ok (.iinc 9 1, 3) := by decide +kernel
theorem dL_isRefined_322 : decode cL_isRefined 322 = .ok (.goto (-295), 3) := by decide +kernel
theorem dL_isRefined_325 : decode cL_isRefined 325 = .ok (.aload_n 0, 1) := by decide +kernel
theorem dL_isRefined_326 : decode cL_isRefined 326 = .ok (.iload_n 1, 1) := by decide +kernel
theorem dL_isRefined_327 : decode cL_isRefined 327 = .ok (.invokevirtual 50, 3) := by decide +kernel
theorem dL_isRefined_330 : decode cL_isRefined 330 = .ok (.iload 8, 2) := by decide +kernel
theorem dL_isRefined_332 : decode cL_isRefined 332 = .ok (.if_icmp .ne 17, 3) := by decide +kernel
theorem dL_isRefined_335 : decode cL_isRefined 335 = .ok (.aload_n 0, 1) := by decide +kernel
theorem dL_isRefined_336 : decode cL_isRefined 336 = .ok (.iload_n 1, 1) := by decide +kernel
theorem dL_isRefined_337 : decode cL_isRefined 337 = .ok (.invokevirtual 55, 3) := by decide +kernel
theorem dL_isRefined_340 : decode cL_isRefined 340 = .ok (.iload 9, 2) := by decide +kernel
theorem dL_isRefined_342 : decode cL_isRefined 342 = .ok (.if_icmp .ne 7, 3) := by decide +kernel
theorem dL_isRefined_345 : decode cL_isRefined 345 = .ok (.iconst 1, 1) := by decide +kernel
theorem dL_isRefined_346 : decode cL_isRefined 346 = .ok (.goto 4, 3) := by decide +kernel
theorem dL_isRefined_349 : decode cL_isRefined 349 = .ok (.iconst 0, 1) := by decide +kernel
theorem dL_isRefined_350 : decode cL_isRefined 350 = .ok (.istore 10, 2) := by decide +kernel
theorem dL_isRefined_352 : decode cL_isRefined 352 = .ok (.iconst 0, 1) := by decide +kernel
theorem dL_isRefined_353 : decode cL_isRefined 353 = .ok (.istore 11, 2) := by decide +kernel
theorem dL_isRefined_355 : decode cL_isRefined 355 = .ok (.iload 11, 2) := by decide +kernel
theorem dL_isRefined_357 : decode cL_isRefined 357 = .ok (.iload 4, 2) := by decide +kernel
theorem dL_isRefined_359 : decode cL_isRefined 359 = .ok (.if_icmp .ge 36, 3) := by decide +kernel
theorem dL_isRefined_362 : decode cL_isRefined 362 = .ok (.iload 10, 2) := by decide +kernel
theorem dL_isRefined_364 : decode cL_isRefined 364 = .ok (.ifCond .eq 31, 3) := by decide +kernel
theorem dL_isRefined_367 : decode cL_isRefined 367 = .ok (.aload_n 0, 1) := by decide +kernel
theorem dL_isRefined_368 : decode cL_isRefined 368 = .ok (.iload_n 1, 1) := by decide +kernel
theorem dL_isRefined_369 : decode cL_isRefined 369 = .ok (.iload 11, 2) := by decide +kernel
theorem dL_isRefined_371 : decode cL_isRefined 371 = .ok (.invokevirtual 58, 3) := by decide +kernel
theorem dL_isRefined_374 : decode cL_isRefined 374 = .ok (.aload 6, 2) := by decide +kernel
theorem dL_isRefined_376 : decode cL_isRefined 376 = .ok (.iload 11, 2) := by decide +kernel
theorem dL_isRefined_378 : decode cL_isRefined 378 = .ok (.iaload, 1) := by decide +kernel
theorem dL_isRefined_379 : decode cL_isRefined 379 = .ok (.if_icmp .ne 7, 3) := by decide +kernel
theorem dL_isRefined_382 : decode cL_isRefined 382 = .ok (.iconst 1, 1) := by decide +kernel
theorem dL_isRefined_383 : decode cL_isRefined 383 = .ok (.goto 4, 3) := by decide +kernel
theorem dL_isRefined_386 : decode cL_isRefined 386 = .ok (.iconst 0, 1) := by decide +kernel
theorem dL_isRefined_387 : decode cL_isRefined 387 = .ok (.istore 10, 2) := by decide +kernel
theorem dL_isRefined_389 : decode cL_isRefined 389 = .ok (.iinc 11 1, 3) := by decide +kernel
theorem dL_isRefined_392 : decode cL_isRefined 392 = .ok (.goto (-37), 3) := by decide +kernel
theorem dL_isRefined_395 : decode cL_isRefined 395 = .ok (.iload 10, 2) := by decide +kernel
theorem dL_isRefined_397 : decode cL_isRefined 397 = .ok (.ireturn, 1) := by decide +kernel
set_option maxRecDepth 20000 in
theorem ggL_isRefined_L_size : GoodIn wsL_isRefined wsL_size := goodIn_r _ [7] (by decide +kernel) (by decide +kernel)
set_option maxRecDepth 20000 in
theorem gL_isRefined_L_size : GoodIn wsL_isRefined (va_wsS RL 23 yL_size wsL_size) := goodIn_app (goodIn_of _ (by decide +kernel)) ggL_isRefined_L_size
set_option maxRecDepth 20000 in
theorem ggL_isRefined_L_colour : GoodIn wsL_isRefined wsL_colour := goodIn_r _ [10, 11] (by decide +kernel) (by decide +kernel)
set_option maxRecDepth 20000 in
theorem gL_isRefined_L_colour : GoodIn wsL_isRefined (va_wsS RL 31 yL_colour wsL_colour) := goodIn_app (goodIn_of _ (by decide +kernel)) ggL_isRefined_L_colour
set_option maxRecDepth 20000 in
theorem ggL_isRefined_L_edge : GoodIn wsL_isRefined wsL_edge := goodIn_r _ [14, 15, 16, 6, 17] (by decide +kernel) (by decide +kernel)
set_option maxRecDepth 20000 in
theorem gL_isRefined_L_edge : GoodIn wsL_isRefined (va_wsS RL 39 yL_edge wsL_edge) := goodIn_app (goodIn_of _ (by decide +kernel)) ggL_isRefined_L_edge
set_option maxRecDepth 20000 in
theorem ggL_isRefined_X7_classes : GoodIn wsL_isRefined wsX7_classes := goodIn_ca (goodIn_r _ [22, 23, 24, 25, 26, 21, 27, 28, 29, 30, 31, 32, 33, 34, 35, 36, 37, 38, 39, 40, 41, 42, 43, 44, 45, 46, 47, 48, 49, 50, 51, 52, 53, 54, 55, 56, 57, 58, 59, 60, 61, 62, 63, 64, 76, 77, 78, 79, 80, 81, 82, 83, 84, 85, 86, 87, 88, 89] (by decide +kernel) (by decide +kernel)) (goodIn_sub (fun _ h => List.mem_cons_of_mem _ (List.mem_append_right _ h)) (by decide +kernel))
set_option maxRecDepth 20000 in
theorem gL_isRefined_X7_classes : GoodIn wsL_isRefined (wsV RL 50 RX7 yX7_classes wsX7_classes) := goodIn_app (goodIn_of _ (by decide +kernel)) ggL_isRefined_X7_classes
set_option maxRecDepth 20000 in
theorem ggL_isRefined_X7_rounds : GoodIn wsL_isRefined wsX7_rounds := goodIn_ca (goodIn_r _ [68, 23, 24, 25, 26, 21, 27, 28, 29, 30, 31, 32, 33, 34, 35, 36, 37, 38, 39, 40, 41, 42, 43, 44, 45, 46, 47, 48, 49, 50, 51, 52, 53, 54, 55, 56, 57, 58, 59, 60, 61, 62, 63, 64, 76, 77, 78, 79, 80, 81, 82, 83, 84, 85, 86, 87, 88, 89] (by decide +kernel) (by decide +kernel)) (goodIn_sub (fun _ h => List.mem_cons_of_mem _ (List.mem_append_right _ h)) (by decide +kernel))
set_option maxRecDepth 20000 in
theorem gL_isRefined_X7_rounds : GoodIn wsL_isRefined (wsV RL 55 RX7 yX7_rounds wsX7_rounds) := goodIn_app (goodIn_of _ (by decide +kernel)) ggL_isRefined_X7_rounds
set_option maxRecDepth 20000 in
theorem ggL_isRefined_X7_classOf : GoodIn wsL_isRefined wsX7_classOf := goodIn_ca (goodIn_r _ [72, 23, 24, 25, 26, 21, 27, 28, 29, 30, 73, 74, 75, 31, 32, 33, 34, 35, 36, 37, 38, 39, 40, 41, 42, 43, 44, 45, 46, 47, 48, 49, 50, 51, 52, 53, 54, 55, 56, 57, 58, 59, 60, 61, 62, 63, 64, 76, 77, 78, 79, 80, 81, 82, 83, 84, 85, 86, 87, 88, 89] (by decide +kernel) (by decide +kernel)) (goodIn_sub (fun _ h => List.mem_cons_of_mem _ (List.mem_append_right _ h)) (by decide +kernel))
set_option maxRecDepth 20000 in
theorem gL_isRefined_X7_classOf : GoodIn wsL_isRefined (wsV RL 58 RX7 yX7_classOf wsX7_classOf) := goodIn_app (goodIn_of _ (by decide +kernel)) ggL_isRefined_X7_classOf
theorem wd_L_isRefined_0 : Cond.arrayClass .long ∈ wsL_isRefined := by decide +kernel
theorem wd_L_isRefined_1 : Cond.arrayClass .int ∈ wsL_isRefined := by decide +kernel
theorem wd_L_isRefined_2 : Cond.constantLong RL 48 8 ∈ wsL_isRefined := by decide +kernel
def r_L_isRefined : Room := { frames := 8, cells := 20, slots := 124, locals := 134 }
set_option maxRecDepth 100000 in
set_option maxHeartbeats 4000000 in
theorem w_L_isRefined_142 {K : zK} {w : Nat} (hk : zIs K RL cL_isRefined 15 wsL_isRefined (some .boolean) r_L_isRefined) (hfl : (kL K).stackTraces = false) (hnx : zNX K) {r0 : Int32} {τ0 : zST} (hq : zQG K (.inr (some (.int r0))) τ0) (hw : eN (kZ K) = (w + 2)) (cs ss : Nat) (hb1 : cs + 0 ≤ 20) (hb2 : ss + 0 ≤ 124) (F : Nat) (k27 : Nat → Int32 → Int64 → Int32 → Nat → Nat → Int32 → Int32 → Int32 → zST → Option (Int32 × zST)) (hk27 : ∀ (a0 : Nat) (a1 : Int32) (a2 : Int64) (a4 : Int32) (a5 : Nat) (a6 : Nat) (a7 : Int32) (a8 : Int32) (a9 : Int32) (ha0 : atCanonCote (kZ K) a0) (ha5 : aJ (kZ K) a5 8) (ha6 : aI (kZ K) a6 8) (σ : zST), k27 a0 a1 a2 a4 a5 a6 a7 a8 a9 σ = some (r0, τ0) → Z K cs ss 27 [(0, .ref (eA (kZ K) a0)), (1, .int a1), (2, .long a2), (4, .int a4), (5, .ref (eA (kZ K) a5)), (6, .ref (eA (kZ K) a6)), (7, .int a7), (8, .int a8), (9, .int a9)] [] σ) (k53 : Nat → Int32 → Int64 → Int32 → Nat → Nat → Int32 → Int32 → Int32 → Int32 → zST → Option (Int32 × zST)) (hk53 : ∀ (a0 : Nat) (a1 : Int32) (a2 : Int64) (a4 : Int32) (a5 : Nat) (a6 : Nat) (a7 : Int32) (a8 : Int32) (a9 : Int32) (a10 : Int32) (ha0 : atCanonCote (kZ K) a0) (ha5 : aJ (kZ K) a5 8) (ha6 : aI (kZ K) a6 8) (σ : zST), k53 a0 a1 a2 a4 a5 a6 a7 a8 a9 a10 σ = some (r0, τ0) → Z K cs ss 53 [(0, .ref (eA (kZ K) a0)), (1, .int a1), (2, .long a2), (4, .int a4), (5, .ref (eA (kZ K) a5)), (6, .ref (eA (kZ K) a6)), (7, .int a7), (8, .int a8), (9, .int a9), (10, .int a10)] [] σ) (k89 : Nat → Int32 → Int64 → Int32 → Nat → Nat → Int32 → Int32 → Int32 → Int32 → Int32 → zST → Option (Int32 × zST)) (hk89 : ∀ (a0 : Nat) (a1 : Int32) (a2 : Int64) (a4 : Int32) (a5 : Nat) (a6 : Nat) (a7 : Int32) (a8 : Int32) (a9 : Int32) (a10 : Int32) (a11 : Int32) (ha0 : atCanonCote (kZ K) a0) (ha5 : aJ (kZ K) a5 8) (ha6 : aI (kZ K) a6 8) (σ : zST), k89 a0 a1 a2 a4 a5 a6 a7 a8 a9 a10 a11 σ = some (r0, τ0) → Z K cs ss 89 [(0, .ref (eA (kZ K) a0)), (1, .int a1), (2, .long a2), (4, .int a4), (5, .ref (eA (kZ K) a5)), (6, .ref (eA (kZ K) a6)), (7, .int a7), (8, .int a8), (9, .int a9), (10, .int a10), (11, .int a11)] [] σ) (k107 : Nat → Int32 → Int64 → Int32 → Nat → Nat → Int32 → Int32 → Int32 → Int32 → Int32 → Int32 → Int32 → zST → Option (Int32 × zST)) (hk107 : ∀ (a0 : Nat) (a1 : Int32) (a2 : Int64) (a4 : Int32) (a5 : Nat) (a6 : Nat) (a7 : Int32) (a8 : Int32) (a9 : Int32) (a10 : Int32) (a11 : Int32) (a12 : Int32) (a13 : Int32) (ha0 : atCanonCote (kZ K) a0) (ha5 : aJ (kZ K) a5 8) (ha6 : aI (kZ K) a6 8) (σ : zST), k107 a0 a1 a2 a4 a5 a6 a7 a8 a9 a10 a11 a12 a13 σ = some (r0, τ0) → Z K cs ss 107 [(0, .ref (eA (kZ K) a0)), (1, .int a1), (2, .long a2), (4, .int a4), (5, .ref (eA (kZ K) a5)), (6, .ref (eA (kZ K) a6)), (7, .int a7), (8, .int a8), (9, .int a9), (10, .int a10), (11, .int a11), (12, .int a12), (13, .int a13)] [] σ) (a0 : Nat) (a1 : Int32) (a2 : Int64) (a4 : Int32) (a5 : Nat) (a6 : Nat) (a7 : Int32) (a8 : Int32) (a9 : Int32) (a10 : Int32) (a11 : Int32) (a13 : Int32) (t0 : Int32) (t1 : Int32) (ha0 : atCanonCote (kZ K) a0) (ha5 : aJ (kZ K) a5 8) (ha6 : aI (kZ K) a6 8) (σ : zST) (h : m_L_isRefined_142 F w k27 k53 k89 k107 a0 a1 a2 a4 a5 a6 a7 a8 a9 a10 a11 a13 t0 t1 σ = some (r0, τ0)) : Z K cs ss 142 [(0, .ref (eA (kZ K) a0)), (1, .int a1), (2, .long a2), (4, .int a4), (5, .ref (eA (kZ K) a5)), (6, .ref (eA (kZ K) a6)), (7, .int a7), (8, .int a8), (9, .int a9), (10, .int a10), (11, .int a11), (13, .int a13)] [.int t0, .int t1] σ := by
  unfold m_L_isRefined_142 at h
  refine Z_iadd hk dL_isRefined_142 ?_
  obtain ⟨x88, e89, h⟩ := nm_get h
  refine Z_eqI e89 ?_
  refine Z_istore hk (lv' := [(12, .int x88), (0, .ref (eA (kZ K) a0)), (1, .int a1), (2, .long a2), (4, .int a4), (5, .ref (eA (kZ K) a5)), (6, .ref (eA (kZ K) a6)), (7, .int a7), (8, .int a8), (9, .int a9), (10, .int a10), (11, .int a11), (13, .int a13)]) dL_isRefined_143 (by decide) rfl ?_
  obtain ⟨x90, e91, h⟩ := nm_get h
  refine Z_iinc hk 12 (v := x90) (lv' := [(13, .int x90), (12, .int x88), (0, .ref (eA (kZ K) a0)), (1, .int a1), (2, .long a2), (4, .int a4), (5, .ref (eA (kZ K) a5)), (6, .ref (eA (kZ K) a6)), (7, .int a7), (8, .int a8), (9, .int a9), (10, .int a10), (11, .int a11)]) dL_isRefined_145 rfl (by rw [zc_iinc_1]; exact e91) (by decide) rfl ?_
  refine Z_goto hk (tgt := 107) dL_isRefined_148 (by decide) ?_
  refine Z_sub [2, 3, 4, 5, 6, 7, 8, 9, 10, 11, 12, 1, 0] rfl ?_
  exact hk107 a0 a1 a2 a4 a5 a6 a7 a8 a9 a10 a11 x88 x90 ha0 ha5 ha6 σ h
set_option maxRecDepth 100000 in
set_option maxHeartbeats 4000000 in
theorem w_L_isRefined_141 {K : zK} {w : Nat} (hk : zIs K RL cL_isRefined 15 wsL_isRefined (some .boolean) r_L_isRefined) (hfl : (kL K).stackTraces = false) (hnx : zNX K) {r0 : Int32} {τ0 : zST} (hq : zQG K (.inr (some (.int r0))) τ0) (hw : eN (kZ K) = (w + 2)) (cs ss : Nat) (hb1 : cs + 0 ≤ 20) (hb2 : ss + 0 ≤ 124) (F : Nat) (k27 : Nat → Int32 → Int64 → Int32 → Nat → Nat → Int32 → Int32 → Int32 → zST → Option (Int32 × zST)) (hk27 : ∀ (a0 : Nat) (a1 : Int32) (a2 : Int64) (a4 : Int32) (a5 : Nat) (a6 : Nat) (a7 : Int32) (a8 : Int32) (a9 : Int32) (ha0 : atCanonCote (kZ K) a0) (ha5 : aJ (kZ K) a5 8) (ha6 : aI (kZ K) a6 8) (σ : zST), k27 a0 a1 a2 a4 a5 a6 a7 a8 a9 σ = some (r0, τ0) → Z K cs ss 27 [(0, .ref (eA (kZ K) a0)), (1, .int a1), (2, .long a2), (4, .int a4), (5, .ref (eA (kZ K) a5)), (6, .ref (eA (kZ K) a6)), (7, .int a7), (8, .int a8), (9, .int a9)] [] σ) (k53 : Nat → Int32 → Int64 → Int32 → Nat → Nat → Int32 → Int32 → Int32 → Int32 → zST → Option (Int32 × zST)) (hk53 : ∀ (a0 : Nat) (a1 : Int32) (a2 : Int64) (a4 : Int32) (a5 : Nat) (a6 : Nat) (a7 : Int32) (a8 : Int32) (a9 : Int32) (a10 : Int32) (ha0 : atCanonCote (kZ K) a0) (ha5 : aJ (kZ K) a5 8) (ha6 : aI (kZ K) a6 8) (σ : zST), k53 a0 a1 a2 a4 a5 a6 a7 a8 a9 a10 σ = some (r0, τ0) → Z K cs ss 53 [(0, .ref (eA (kZ K) a0)), (1, .int a1), (2, .long a2), (4, .int a4), (5, .ref (eA (kZ K) a5)), (6, .ref (eA (kZ K) a6)), (7, .int a7), (8, .int a8), (9, .int a9), (10, .int a10)] [] σ) (k89 : Nat → Int32 → Int64 → Int32 → Nat → Nat → Int32 → Int32 → Int32 → Int32 → Int32 → zST → Option (Int32 × zST)) (hk89 : ∀ (a0 : Nat) (a1 : Int32) (a2 : Int64) (a4 : Int32) (a5 : Nat) (a6 : Nat) (a7 : Int32) (a8 : Int32) (a9 : Int32) (a10 : Int32) (a11 : Int32) (ha0 : atCanonCote (kZ K) a0) (ha5 : aJ (kZ K) a5 8) (ha6 : aI (kZ K) a6 8) (σ : zST), k89 a0 a1 a2 a4 a5 a6 a7 a8 a9 a10 a11 σ = some (r0, τ0) → Z K cs ss 89 [(0, .ref (eA (kZ K) a0)), (1, .int a1), (2, .long a2), (4, .int a4), (5, .ref (eA (kZ K) a5)), (6, .ref (eA (kZ K) a6)), (7, .int a7), (8, .int a8), (9, .int a9), (10, .int a10), (11, .int a11)] [] σ) (k107 : Nat → Int32 → Int64 → Int32 → Nat → Nat → Int32 → Int32 → Int32 → Int32 → Int32 → Int32 → Int32 → zST → Option (Int32 × zST)) (hk107 : ∀ (a0 : Nat) (a1 : Int32) (a2 : Int64) (a4 : Int32) (a5 : Nat) (a6 : Nat) (a7 : Int32) (a8 : Int32) (a9 : Int32) (a10 : Int32) (a11 : Int32) (a12 : Int32) (a13 : Int32) (ha0 : atCanonCote (kZ K) a0) (ha5 : aJ (kZ K) a5 8) (ha6 : aI (kZ K) a6 8) (σ : zST), k107 a0 a1 a2 a4 a5 a6 a7 a8 a9 a10 a11 a12 a13 σ = some (r0, τ0) → Z K cs ss 107 [(0, .ref (eA (kZ K) a0)), (1, .int a1), (2, .long a2), (4, .int a4), (5, .ref (eA (kZ K) a5)), (6, .ref (eA (kZ K) a6)), (7, .int a7), (8, .int a8), (9, .int a9), (10, .int a10), (11, .int a11), (12, .int a12), (13, .int a13)] [] σ) (a0 : Nat) (a1 : Int32) (a2 : Int64) (a4 : Int32) (a5 : Nat) (a6 : Nat) (a7 : Int32) (a8 : Int32) (a9 : Int32) (a10 : Int32) (a11 : Int32) (a13 : Int32) (t0 : Int32) (ha0 : atCanonCote (kZ K) a0) (ha5 : aJ (kZ K) a5 8) (ha6 : aI (kZ K) a6 8) (σ : zST) (h : m_L_isRefined_141 F w k27 k53 k89 k107 a0 a1 a2 a4 a5 a6 a7 a8 a9 a10 a11 a13 t0 σ = some (r0, τ0)) : Z K cs ss 141 [(0, .ref (eA (kZ K) a0)), (1, .int a1), (2, .long a2), (4, .int a4), (5, .ref (eA (kZ K) a5)), (6, .ref (eA (kZ K) a6)), (7, .int a7), (8, .int a8), (9, .int a9), (10, .int a10), (11, .int a11), (13, .int a13)] [.int t0] σ := by
  unfold m_L_isRefined_141 at h
  refine Z_iconst hk dL_isRefined_141 zc_iconst_0 ?_
  refine Z_sub [0, 1, 2, 3, 4, 5, 6, 7, 8, 9, 10, 11] rfl ?_
  exact w_L_isRefined_142 hk hfl hnx hq hw cs ss (by omega) (by omega) F k27 hk27 k53 hk53 k89 hk89 k107 hk107 a0 a1 a2 a4 a5 a6 a7 a8 a9 a10 a11 a13 0 t0 ha0 ha5 ha6 σ h
set_option maxRecDepth 100000 in
set_option maxHeartbeats 4000000 in
theorem w_L_isRefined_107 {K : zK} {w : Nat} (hk : zIs K RL cL_isRefined 15 wsL_isRefined (some .boolean) r_L_isRefined) (hfl : (kL K).stackTraces = false) (hnx : zNX K) {r0 : Int32} {τ0 : zST} (hq : zQG K (.inr (some (.int r0))) τ0) (hw : eN (kZ K) = (w + 2)) (cs ss : Nat) (hb1 : cs + 0 ≤ 20) (hb2 : ss + 0 ≤ 124) (F : Nat) (k27 : Nat → Int32 → Int64 → Int32 → Nat → Nat → Int32 → Int32 → Int32 → zST → Option (Int32 × zST)) (hk27 : ∀ (a0 : Nat) (a1 : Int32) (a2 : Int64) (a4 : Int32) (a5 : Nat) (a6 : Nat) (a7 : Int32) (a8 : Int32) (a9 : Int32) (ha0 : atCanonCote (kZ K) a0) (ha5 : aJ (kZ K) a5 8) (ha6 : aI (kZ K) a6 8) (σ : zST), k27 a0 a1 a2 a4 a5 a6 a7 a8 a9 σ = some (r0, τ0) → Z K cs ss 27 [(0, .ref (eA (kZ K) a0)), (1, .int a1), (2, .long a2), (4, .int a4), (5, .ref (eA (kZ K) a5)), (6, .ref (eA (kZ K) a6)), (7, .int a7), (8, .int a8), (9, .int a9)] [] σ) (k53 : Nat → Int32 → Int64 → Int32 → Nat → Nat → Int32 → Int32 → Int32 → Int32 → zST → Option (Int32 × zST)) (hk53 : ∀ (a0 : Nat) (a1 : Int32) (a2 : Int64) (a4 : Int32) (a5 : Nat) (a6 : Nat) (a7 : Int32) (a8 : Int32) (a9 : Int32) (a10 : Int32) (ha0 : atCanonCote (kZ K) a0) (ha5 : aJ (kZ K) a5 8) (ha6 : aI (kZ K) a6 8) (σ : zST), k53 a0 a1 a2 a4 a5 a6 a7 a8 a9 a10 σ = some (r0, τ0) → Z K cs ss 53 [(0, .ref (eA (kZ K) a0)), (1, .int a1), (2, .long a2), (4, .int a4), (5, .ref (eA (kZ K) a5)), (6, .ref (eA (kZ K) a6)), (7, .int a7), (8, .int a8), (9, .int a9), (10, .int a10)] [] σ) (k89 : Nat → Int32 → Int64 → Int32 → Nat → Nat → Int32 → Int32 → Int32 → Int32 → Int32 → zST → Option (Int32 × zST)) (hk89 : ∀ (a0 : Nat) (a1 : Int32) (a2 : Int64) (a4 : Int32) (a5 : Nat) (a6 : Nat) (a7 : Int32) (a8 : Int32) (a9 : Int32) (a10 : Int32) (a11 : Int32) (ha0 : atCanonCote (kZ K) a0) (ha5 : aJ (kZ K) a5 8) (ha6 : aI (kZ K) a6 8) (σ : zST), k89 a0 a1 a2 a4 a5 a6 a7 a8 a9 a10 a11 σ = some (r0, τ0) → Z K cs ss 89 [(0, .ref (eA (kZ K) a0)), (1, .int a1), (2, .long a2), (4, .int a4), (5, .ref (eA (kZ K) a5)), (6, .ref (eA (kZ K) a6)), (7, .int a7), (8, .int a8), (9, .int a9), (10, .int a10), (11, .int a11)] [] σ) : ∀ (n : Nat) (a0 : Nat) (a1 : Int32) (a2 : Int64) (a4 : Int32) (a5 : Nat) (a6 : Nat) (a7 : Int32) (a8 : Int32) (a9 : Int32) (a10 : Int32) (a11 : Int32) (a12 : Int32) (a13 : Int32) (ha0 : atCanonCote (kZ K) a0) (ha5 : aJ (kZ K) a5 8) (ha6 : aI (kZ K) a6 8) (σ : zST), m_L_isRefined_107 F w k27 k53 k89 n a0 a1 a2 a4 a5 a6 a7 a8 a9 a10 a11 a12 a13 σ = some (r0, τ0) → Z K cs ss 107 [(0, .ref (eA (kZ K) a0)), (1, .int a1), (2, .long a2), (4, .int a4), (5, .ref (eA (kZ K) a5)), (6, .ref (eA (kZ K) a6)), (7, .int a7), (8, .int a8), (9, .int a9), (10, .int a10), (11, .int a11), (12, .int a12), (13, .int a13)] [] σ := by
  intro n
  induction n with
  | zero => intro a0 a1 a2 a4 a5 a6 a7 a8 a9 a10 a11 a12 a13 ha0 ha5 ha6 σ h; cases h
  | succ n ih =>
    intro a0 a1 a2 a4 a5 a6 a7 a8 a9 a10 a11 a12 a13 ha0 ha5 ha6 σ h
    rw [m_L_isRefined_107] at h
    refine Z_iload hk 12 dL_isRefined_107 rfl ?_
    refine Z_iload hk 3 dL_isRefined_109 rfl ?_
    refine Z_icmp_ge hk (tgt := 151) dL_isRefined_111 (by decide) (fun c61 => ?_) (fun c61 => ?_)
    · have h := if_yes h c61
      refine Z_aload hk 4 dL_isRefined_151 rfl ?_
      refine Z_iload hk 9 dL_isRefined_153 rfl ?_
      refine Z_aload hk 4 dL_isRefined_155 rfl ?_
      refine Z_iload hk 9 dL_isRefined_157 rfl ?_
      obtain ⟨i64, x62, e63, h⟩ := ldL_get h
      refine Z_lald hk ha5 i64 dL_isRefined_159 ?_
      refine Z_eqL e63 ?_
      refine Z_ldc2 hk (v := 8) dL_isRefined_160 wd_L_isRefined_2 ?_
      refine Z_lmul hk dL_isRefined_163 ?_
      refine Z_iload hk 11 dL_isRefined_164 rfl ?_
      refine Z_i2l hk dL_isRefined_166 ?_
      refine Z_ladd hk dL_isRefined_167 ?_
      obtain ⟨i67, s65, e66, h⟩ := stL_get h
      refine Z_last hk ha5 i67 dL_isRefined_168 ?_
      refine Z_eqS e66 ?_
      obtain ⟨x68, e69, h⟩ := nm_get h
      refine Z_iinc hk 10 (v := x68) (lv' := [(11, .int x68), (0, .ref (eA (kZ K) a0)), (1, .int a1), (2, .long a2), (4, .int a4), (5, .ref (eA (kZ K) a5)), (6, .ref (eA (kZ K) a6)), (7, .int a7), (8, .int a8), (9, .int a9), (10, .int a10), (12, .int a12), (13, .int a13)]) dL_isRefined_169 rfl (by rw [zc_iinc_1]; exact e69) (by decide) rfl ?_
      refine Z_goto hk (tgt := 89) dL_isRefined_172 (by decide) ?_
      refine Z_sub [1, 2, 3, 4, 5, 6, 7, 8, 9, 10, 0] rfl ?_
      exact hk89 a0 a1 a2 a4 a5 a6 a7 a8 a9 a10 x68 ha0 ha5 ha6 s65 h
    · have h := if_no h c61
      refine Z_iload hk 11 dL_isRefined_114 rfl ?_
      refine Z_aload hk 5 dL_isRefined_116 rfl ?_
      refine Z_iload hk 12 dL_isRefined_118 rfl ?_
      obtain ⟨i72, x70, e71, h⟩ := ldI_get h
      refine Z_iald hk ha6 i72 dL_isRefined_120 ?_
      refine Z_eqI e71 ?_
      refine Z_iload hk 10 dL_isRefined_121 rfl ?_
      refine Z_icmp_ne hk (tgt := 141) dL_isRefined_123 (by decide) (fun c73 => ?_) (fun c73 => ?_)
      · have h := if_yes h c73
        refine Z_lload_n hk 2 dL_isRefined_126 rfl rfl ?_
        refine Z_iload hk 9 dL_isRefined_127 rfl ?_
        refine Z_iload hk 12 dL_isRefined_129 rfl ?_
        obtain ⟨x74, s75, h76, h⟩ := bd_ok h
        refine Z_callT 3 hk [.long a2, .int a10, .int a13] (c_L_edge hk.loc hk.inj F a2 a10 a13 σ h76) gL_isRefined_L_edge rfl ⟨rfl, rfl⟩ (by decide +kernel) ⟨Nat.le_of_ble_eq_true rfl, Nat.le_of_ble_eq_true rfl⟩ rfl rfl (Nat.le_of_ble_eq_true rfl) ⟨by show cs + 0 ≤ 20; omega, by show ss + 0 ≤ 124; omega⟩ dL_isRefined_131 ?_
        show Z K cs ss 134 [(0, .ref (eA (kZ K) a0)), (1, .int a1), (2, .long a2), (4, .int a4), (5, .ref (eA (kZ K) a5)), (6, .ref (eA (kZ K) a6)), (7, .int a7), (8, .int a8), (9, .int a9), (10, .int a10), (11, .int a11), (12, .int a12), (13, .int a13)] [.int x74, .int a12] s75
        refine Z_if_eq hk (tgt := 141) dL_isRefined_134 (by decide) (fun c77 => ?_) (fun c77 => ?_)
        · have h := if_yes h c77
          refine Z_sub [0, 1, 2, 3, 4, 5, 6, 7, 8, 9, 10, 12] rfl ?_
          exact w_L_isRefined_141 hk hfl hnx hq hw cs ss (by omega) (by omega) F k27 hk27 k53 hk53 k89 hk89 (m_L_isRefined_107 F w k27 k53 k89 n) ih a0 a1 a2 a4 a5 a6 a7 a8 a9 a10 a11 a13 a12 ha0 ha5 ha6 s75 h
        · have h := if_no h c77
          refine Z_iconst hk dL_isRefined_137 zc_iconst_1 ?_
          refine Z_goto hk (tgt := 142) dL_isRefined_138 (by decide) ?_
          refine Z_sub [0, 1, 2, 3, 4, 5, 6, 7, 8, 9, 10, 12] rfl ?_
          exact w_L_isRefined_142 hk hfl hnx hq hw cs ss (by omega) (by omega) F k27 hk27 k53 hk53 k89 hk89 (m_L_isRefined_107 F w k27 k53 k89 n) ih a0 a1 a2 a4 a5 a6 a7 a8 a9 a10 a11 a13 1 a12 ha0 ha5 ha6 s75 h
      · have h := if_no h c73
        refine Z_sub [0, 1, 2, 3, 4, 5, 6, 7, 8, 9, 10, 12] rfl ?_
        exact w_L_isRefined_141 hk hfl hnx hq hw cs ss (by omega) (by omega) F k27 hk27 k53 hk53 k89 hk89 (m_L_isRefined_107 F w k27 k53 k89 n) ih a0 a1 a2 a4 a5 a6 a7 a8 a9 a10 a11 a13 a12 ha0 ha5 ha6 σ h
set_option maxRecDepth 100000 in
set_option maxHeartbeats 4000000 in
theorem w_L_isRefined_175 {K : zK} {w : Nat} (hk : zIs K RL cL_isRefined 15 wsL_isRefined (some .boolean) r_L_isRefined) (hfl : (kL K).stackTraces = false) (hnx : zNX K) {r0 : Int32} {τ0 : zST} (hq : zQG K (.inr (some (.int r0))) τ0) (hw : eN (kZ K) = (w + 2)) (cs ss : Nat) (hb1 : cs + 0 ≤ 20) (hb2 : ss + 0 ≤ 124) (F : Nat) (k27 : Nat → Int32 → Int64 → Int32 → Nat → Nat → Int32 → Int32 → Int32 → zST → Option (Int32 × zST)) (hk27 : ∀ (a0 : Nat) (a1 : Int32) (a2 : Int64) (a4 : Int32) (a5 : Nat) (a6 : Nat) (a7 : Int32) (a8 : Int32) (a9 : Int32) (ha0 : atCanonCote (kZ K) a0) (ha5 : aJ (kZ K) a5 8) (ha6 : aI (kZ K) a6 8) (σ : zST), k27 a0 a1 a2 a4 a5 a6 a7 a8 a9 σ = some (r0, τ0) → Z K cs ss 27 [(0, .ref (eA (kZ K) a0)), (1, .int a1), (2, .long a2), (4, .int a4), (5, .ref (eA (kZ K) a5)), (6, .ref (eA (kZ K) a6)), (7, .int a7), (8, .int a8), (9, .int a9)] [] σ) (k53 : Nat → Int32 → Int64 → Int32 → Nat → Nat → Int32 → Int32 → Int32 → Int32 → zST → Option (Int32 × zST)) (hk53 : ∀ (a0 : Nat) (a1 : Int32) (a2 : Int64) (a4 : Int32) (a5 : Nat) (a6 : Nat) (a7 : Int32) (a8 : Int32) (a9 : Int32) (a10 : Int32) (ha0 : atCanonCote (kZ K) a0) (ha5 : aJ (kZ K) a5 8) (ha6 : aI (kZ K) a6 8) (σ : zST), k53 a0 a1 a2 a4 a5 a6 a7 a8 a9 a10 σ = some (r0, τ0) → Z K cs ss 53 [(0, .ref (eA (kZ K) a0)), (1, .int a1), (2, .long a2), (4, .int a4), (5, .ref (eA (kZ K) a5)), (6, .ref (eA (kZ K) a6)), (7, .int a7), (8, .int a8), (9, .int a9), (10, .int a10)] [] σ) (a0 : Nat) (a1 : Int32) (a2 : Int64) (a4 : Int32) (a5 : Nat) (a6 : Nat) (a7 : Int32) (a8 : Int32) (a9 : Int32) (a10 : Int32) (ha0 : atCanonCote (kZ K) a0) (ha5 : aJ (kZ K) a5 8) (ha6 : aI (kZ K) a6 8) (σ : zST) (h : m_L_isRefined_175 F w k27 k53 a0 a1 a2 a4 a5 a6 a7 a8 a9 a10 σ = some (r0, τ0)) : Z K cs ss 175 [(0, .ref (eA (kZ K) a0)), (1, .int a1), (2, .long a2), (4, .int a4), (5, .ref (eA (kZ K) a5)), (6, .ref (eA (kZ K) a6)), (7, .int a7), (8, .int a8), (9, .int a9), (10, .int a10)] [] σ := by
  unfold m_L_isRefined_175 at h
  obtain ⟨x59, e60, h⟩ := nm_get h
  refine Z_iinc hk 9 (v := x59) (lv' := [(10, .int x59), (0, .ref (eA (kZ K) a0)), (1, .int a1), (2, .long a2), (4, .int a4), (5, .ref (eA (kZ K) a5)), (6, .ref (eA (kZ K) a6)), (7, .int a7), (8, .int a8), (9, .int a9)]) dL_isRefined_175 rfl (by rw [zc_iinc_1]; exact e60) (by decide) rfl ?_
  refine Z_goto hk (tgt := 53) dL_isRefined_178 (by decide) ?_
  refine Z_sub [1, 2, 3, 4, 5, 6, 7, 8, 9, 0] rfl ?_
  exact hk53 a0 a1 a2 a4 a5 a6 a7 a8 a9 x59 ha0 ha5 ha6 σ h
set_option maxRecDepth 100000 in
set_option maxHeartbeats 4000000 in
theorem w_L_isRefined_89 {K : zK} {w : Nat} (hk : zIs K RL cL_isRefined 15 wsL_isRefined (some .boolean) r_L_isRefined) (hfl : (kL K).stackTraces = false) (hnx : zNX K) {r0 : Int32} {τ0 : zST} (hq : zQG K (.inr (some (.int r0))) τ0) (hw : eN (kZ K) = (w + 2)) (cs ss : Nat) (hb1 : cs + 0 ≤ 20) (hb2 : ss + 0 ≤ 124) (F : Nat) (k27 : Nat → Int32 → Int64 → Int32 → Nat → Nat → Int32 → Int32 → Int32 → zST → Option (Int32 × zST)) (hk27 : ∀ (a0 : Nat) (a1 : Int32) (a2 : Int64) (a4 : Int32) (a5 : Nat) (a6 : Nat) (a7 : Int32) (a8 : Int32) (a9 : Int32) (ha0 : atCanonCote (kZ K) a0) (ha5 : aJ (kZ K) a5 8) (ha6 : aI (kZ K) a6 8) (σ : zST), k27 a0 a1 a2 a4 a5 a6 a7 a8 a9 σ = some (r0, τ0) → Z K cs ss 27 [(0, .ref (eA (kZ K) a0)), (1, .int a1), (2, .long a2), (4, .int a4), (5, .ref (eA (kZ K) a5)), (6, .ref (eA (kZ K) a6)), (7, .int a7), (8, .int a8), (9, .int a9)] [] σ) (k53 : Nat → Int32 → Int64 → Int32 → Nat → Nat → Int32 → Int32 → Int32 → Int32 → zST → Option (Int32 × zST)) (hk53 : ∀ (a0 : Nat) (a1 : Int32) (a2 : Int64) (a4 : Int32) (a5 : Nat) (a6 : Nat) (a7 : Int32) (a8 : Int32) (a9 : Int32) (a10 : Int32) (ha0 : atCanonCote (kZ K) a0) (ha5 : aJ (kZ K) a5 8) (ha6 : aI (kZ K) a6 8) (σ : zST), k53 a0 a1 a2 a4 a5 a6 a7 a8 a9 a10 σ = some (r0, τ0) → Z K cs ss 53 [(0, .ref (eA (kZ K) a0)), (1, .int a1), (2, .long a2), (4, .int a4), (5, .ref (eA (kZ K) a5)), (6, .ref (eA (kZ K) a6)), (7, .int a7), (8, .int a8), (9, .int a9), (10, .int a10)] [] σ) : ∀ (n : Nat) (a0 : Nat) (a1 : Int32) (a2 : Int64) (a4 : Int32) (a5 : Nat) (a6 : Nat) (a7 : Int32) (a8 : Int32) (a9 : Int32) (a10 : Int32) (a11 : Int32) (ha0 : atCanonCote (kZ K) a0) (ha5 : aJ (kZ K) a5 8) (ha6 : aI (kZ K) a6 8) (σ : zST), m_L_isRefined_89 F w k27 k53 n a0 a1 a2 a4 a5 a6 a7 a8 a9 a10 a11 σ = some (r0, τ0) → Z K cs ss 89 [(0, .ref (eA (kZ K) a0)), (1, .int a1), (2, .long a2), (4, .int a4), (5, .ref (eA (kZ K) a5)), (6, .ref (eA (kZ K) a6)), (7, .int a7), (8, .int a8), (9, .int a9), (10, .int a10), (11, .int a11)] [] σ := by
  intro n
  induction n with
  | zero => intro a0 a1 a2 a4 a5 a6 a7 a8 a9 a10 a11 ha0 ha5 ha6 σ h; cases h
  | succ n ih =>
    intro a0 a1 a2 a4 a5 a6 a7 a8 a9 a10 a11 ha0 ha5 ha6 σ h
    rw [m_L_isRefined_89] at h
    refine Z_iload hk 10 dL_isRefined_89 rfl ?_
    refine Z_iload hk 3 dL_isRefined_91 rfl ?_
    refine Z_icmp_ge hk (tgt := 175) dL_isRefined_93 (by decide) (fun c55 => ?_) (fun c55 => ?_)
    · have h := if_yes h c55
      refine Z_sub [0, 1, 2, 3, 4, 5, 6, 7, 8, 9] rfl ?_
      exact w_L_isRefined_175 hk hfl hnx hq hw cs ss (by omega) (by omega) F k27 hk27 k53 hk53 a0 a1 a2 a4 a5 a6 a7 a8 a9 a10 ha0 ha5 ha6 σ h
    · have h := if_no h c55
      refine Z_iload hk 8 dL_isRefined_96 rfl ?_
      refine Z_if_lt hk (tgt := 175) dL_isRefined_98 (by decide) (fun c56 => ?_) (fun c56 => ?_)
      · have h := if_yes h c56
        refine Z_sub [0, 1, 2, 3, 4, 5, 6, 7, 8, 9] rfl ?_
        exact w_L_isRefined_175 hk hfl hnx hq hw cs ss (by omega) (by omega) F k27 hk27 k53 hk53 a0 a1 a2 a4 a5 a6 a7 a8 a9 a10 ha0 ha5 ha6 σ h
      · have h := if_no h c56
        refine Z_iconst hk dL_isRefined_101 zc_iconst_0 ?_
        refine Z_istore hk (lv' := [(12, .int 0), (0, .ref (eA (kZ K) a0)), (1, .int a1), (2, .long a2), (4, .int a4), (5, .ref (eA (kZ K) a5)), (6, .ref (eA (kZ K) a6)), (7, .int a7), (8, .int a8), (9, .int a9), (10, .int a10), (11, .int a11)]) dL_isRefined_102 (by decide) rfl ?_
        refine Z_iconst hk dL_isRefined_104 zc_iconst_0 ?_
        refine Z_istore hk (lv' := [(13, .int 0), (12, .int 0), (0, .ref (eA (kZ K) a0)), (1, .int a1), (2, .long a2), (4, .int a4), (5, .ref (eA (kZ K) a5)), (6, .ref (eA (kZ K) a6)), (7, .int a7), (8, .int a8), (9, .int a9), (10, .int a10), (11, .int a11)]) dL_isRefined_105 (by decide) rfl ?_
        refine Z_sub [2, 3, 4, 5, 6, 7, 8, 9, 10, 11, 12, 1, 0] rfl ?_
        exact w_L_isRefined_107 hk hfl hnx hq hw cs ss (by omega) (by omega) F k27 hk27 k53 hk53 (m_L_isRefined_89 F w k27 k53 n) ih F a0 a1 a2 a4 a5 a6 a7 a8 a9 a10 a11 0 0 ha0 ha5 ha6 σ h
set_option maxRecDepth 100000 in
set_option maxHeartbeats 4000000 in
theorem w_L_isRefined_85 {K : zK} {w : Nat} (hk : zIs K RL cL_isRefined 15 wsL_isRefined (some .boolean) r_L_isRefined) (hfl : (kL K).stackTraces = false) (hnx : zNX K) {r0 : Int32} {τ0 : zST} (hq : zQG K (.inr (some (.int r0))) τ0) (hw : eN (kZ K) = (w + 2)) (cs ss : Nat) (hb1 : cs + 0 ≤ 20) (hb2 : ss + 0 ≤ 124) (F : Nat) (k27 : Nat → Int32 → Int64 → Int32 → Nat → Nat → Int32 → Int32 → Int32 → zST → Option (Int32 × zST)) (hk27 : ∀ (a0 : Nat) (a1 : Int32) (a2 : Int64) (a4 : Int32) (a5 : Nat) (a6 : Nat) (a7 : Int32) (a8 : Int32) (a9 : Int32) (ha0 : atCanonCote (kZ K) a0) (ha5 : aJ (kZ K) a5 8) (ha6 : aI (kZ K) a6 8) (σ : zST), k27 a0 a1 a2 a4 a5 a6 a7 a8 a9 σ = some (r0, τ0) → Z K cs ss 27 [(0, .ref (eA (kZ K) a0)), (1, .int a1), (2, .long a2), (4, .int a4), (5, .ref (eA (kZ K) a5)), (6, .ref (eA (kZ K) a6)), (7, .int a7), (8, .int a8), (9, .int a9)] [] σ) (k53 : Nat → Int32 → Int64 → Int32 → Nat → Nat → Int32 → Int32 → Int32 → Int32 → zST → Option (Int32 × zST)) (hk53 : ∀ (a0 : Nat) (a1 : Int32) (a2 : Int64) (a4 : Int32) (a5 : Nat) (a6 : Nat) (a7 : Int32) (a8 : Int32) (a9 : Int32) (a10 : Int32) (ha0 : atCanonCote (kZ K) a0) (ha5 : aJ (kZ K) a5 8) (ha6 : aI (kZ K) a6 8) (σ : zST), k53 a0 a1 a2 a4 a5 a6 a7 a8 a9 a10 σ = some (r0, τ0) → Z K cs ss 53 [(0, .ref (eA (kZ K) a0)), (1, .int a1), (2, .long a2), (4, .int a4), (5, .ref (eA (kZ K) a5)), (6, .ref (eA (kZ K) a6)), (7, .int a7), (8, .int a8), (9, .int a9), (10, .int a10)] [] σ) (a0 : Nat) (a1 : Int32) (a2 : Int64) (a4 : Int32) (a5 : Nat) (a6 : Nat) (a7 : Int32) (a8 : Int32) (a9 : Int32) (a10 : Int32) (t0 : Int64) (t1 : Int32) (t2 : Nat) (ha0 : atCanonCote (kZ K) a0) (ha5 : aJ (kZ K) a5 8) (ha6 : aI (kZ K) a6 8) (ht2 : aJ (kZ K) t2 8) (σ : zST) (h : m_L_isRefined_85 F w k27 k53 a0 a1 a2 a4 a5 a6 a7 a8 a9 a10 t0 t1 t2 σ = some (r0, τ0)) : Z K cs ss 85 [(0, .ref (eA (kZ K) a0)), (1, .int a1), (2, .long a2), (4, .int a4), (5, .ref (eA (kZ K) a5)), (6, .ref (eA (kZ K) a6)), (7, .int a7), (8, .int a8), (9, .int a9), (10, .int a10)] [.long t0, .int t1, .ref (eA (kZ K) t2)] σ := by
  unfold m_L_isRefined_85 at h
  obtain ⟨i42, s40, e41, h⟩ := stL_get h
  refine Z_last hk ht2 i42 dL_isRefined_85 ?_
  refine Z_eqS e41 ?_
  refine Z_iconst hk dL_isRefined_86 zc_iconst_0 ?_
  refine Z_istore hk (lv' := [(11, .int 0), (0, .ref (eA (kZ K) a0)), (1, .int a1), (2, .long a2), (4, .int a4), (5, .ref (eA (kZ K) a5)), (6, .ref (eA (kZ K) a6)), (7, .int a7), (8, .int a8), (9, .int a9), (10, .int a10)]) dL_isRefined_87 (by decide) rfl ?_
  refine Z_sub [1, 2, 3, 4, 5, 6, 7, 8, 9, 10, 0] rfl ?_
  exact w_L_isRefined_89 hk hfl hnx hq hw cs ss (by omega) (by omega) F k27 hk27 k53 hk53 F a0 a1 a2 a4 a5 a6 a7 a8 a9 a10 0 ha0 ha5 ha6 s40 h
set_option maxRecDepth 100000 in
set_option maxHeartbeats 4000000 in
theorem w_L_isRefined_259 {K : zK} {w : Nat} (hk : zIs K RL cL_isRefined 15 wsL_isRefined (some .boolean) r_L_isRefined) (hfl : (kL K).stackTraces = false) (hnx : zNX K) {r0 : Int32} {τ0 : zST} (hq : zQG K (.inr (some (.int r0))) τ0) (hw : eN (kZ K) = (w + 2)) (cs ss : Nat) (hb1 : cs + 0 ≤ 20) (hb2 : ss + 0 ≤ 124) (F : Nat) (k27 : Nat → Int32 → Int64 → Int32 → Nat → Nat → Int32 → Int32 → Int32 → zST → Option (Int32 × zST)) (hk27 : ∀ (a0 : Nat) (a1 : Int32) (a2 : Int64) (a4 : Int32) (a5 : Nat) (a6 : Nat) (a7 : Int32) (a8 : Int32) (a9 : Int32) (ha0 : atCanonCote (kZ K) a0) (ha5 : aJ (kZ K) a5 8) (ha6 : aI (kZ K) a6 8) (σ : zST), k27 a0 a1 a2 a4 a5 a6 a7 a8 a9 σ = some (r0, τ0) → Z K cs ss 27 [(0, .ref (eA (kZ K) a0)), (1, .int a1), (2, .long a2), (4, .int a4), (5, .ref (eA (kZ K) a5)), (6, .ref (eA (kZ K) a6)), (7, .int a7), (8, .int a8), (9, .int a9)] [] σ) (k184 : Nat → Int32 → Int64 → Int32 → Nat → Nat → Int32 → Int32 → Int32 → Int32 → zST → Option (Int32 × zST)) (hk184 : ∀ (a0 : Nat) (a1 : Int32) (a2 : Int64) (a4 : Int32) (a5 : Nat) (a6 : Nat) (a7 : Int32) (a8 : Int32) (a9 : Int32) (a10 : Int32) (ha0 : atCanonCote (kZ K) a0) (ha5 : aJ (kZ K) a5 8) (ha6 : aI (kZ K) a6 8) (σ : zST), k184 a0 a1 a2 a4 a5 a6 a7 a8 a9 a10 σ = some (r0, τ0) → Z K cs ss 184 [(0, .ref (eA (kZ K) a0)), (1, .int a1), (2, .long a2), (4, .int a4), (5, .ref (eA (kZ K) a5)), (6, .ref (eA (kZ K) a6)), (7, .int a7), (8, .int a8), (9, .int a9), (10, .int a10)] [] σ) (k197 : Nat → Int32 → Int64 → Int32 → Nat → Nat → Int32 → Int32 → Int32 → Int32 → Int32 → Int32 → zST → Option (Int32 × zST)) (hk197 : ∀ (a0 : Nat) (a1 : Int32) (a2 : Int64) (a4 : Int32) (a5 : Nat) (a6 : Nat) (a7 : Int32) (a8 : Int32) (a9 : Int32) (a10 : Int32) (a11 : Int32) (a12 : Int32) (ha0 : atCanonCote (kZ K) a0) (ha5 : aJ (kZ K) a5 8) (ha6 : aI (kZ K) a6 8) (σ : zST), k197 a0 a1 a2 a4 a5 a6 a7 a8 a9 a10 a11 a12 σ = some (r0, τ0) → Z K cs ss 197 [(0, .ref (eA (kZ K) a0)), (1, .int a1), (2, .long a2), (4, .int a4), (5, .ref (eA (kZ K) a5)), (6, .ref (eA (kZ K) a6)), (7, .int a7), (8, .int a8), (9, .int a9), (10, .int a10), (11, .int a11), (12, .int a12)] [] σ) (k228 : Nat → Int32 → Int64 → Int32 → Nat → Nat → Int32 → Int32 → Int32 → Int32 → Int32 → Int32 → Int32 → Int32 → zST → Option (Int32 × zST)) (hk228 : ∀ (a0 : Nat) (a1 : Int32) (a2 : Int64) (a4 : Int32) (a5 : Nat) (a6 : Nat) (a7 : Int32) (a8 : Int32) (a9 : Int32) (a10 : Int32) (a11 : Int32) (a12 : Int32) (a13 : Int32) (a14 : Int32) (ha0 : atCanonCote (kZ K) a0) (ha5 : aJ (kZ K) a5 8) (ha6 : aI (kZ K) a6 8) (σ : zST), k228 a0 a1 a2 a4 a5 a6 a7 a8 a9 a10 a11 a12 a13 a14 σ = some (r0, τ0) → Z K cs ss 228 [(0, .ref (eA (kZ K) a0)), (1, .int a1), (2, .long a2), (4, .int a4), (5, .ref (eA (kZ K) a5)), (6, .ref (eA (kZ K) a6)), (7, .int a7), (8, .int a8), (9, .int a9), (10, .int a10), (11, .int a11), (12, .int a12), (13, .int a13), (14, .int a14)] [] σ) (a0 : Nat) (a1 : Int32) (a2 : Int64) (a4 : Int32) (a5 : Nat) (a6 : Nat) (a7 : Int32) (a8 : Int32) (a9 : Int32) (a10 : Int32) (a11 : Int32) (a12 : Int32) (a14 : Int32) (t0 : Int32) (ha0 : atCanonCote (kZ K) a0) (ha5 : aJ (kZ K) a5 8) (ha6 : aI (kZ K) a6 8) (σ : zST) (h : m_L_isRefined_259 F w k27 k184 k197 k228 a0 a1 a2 a4 a5 a6 a7 a8 a9 a10 a11 a12 a14 t0 σ = some (r0, τ0)) : Z K cs ss 259 [(0, .ref (eA (kZ K) a0)), (1, .int a1), (2, .long a2), (4, .int a4), (5, .ref (eA (kZ K) a5)), (6, .ref (eA (kZ K) a6)), (7, .int a7), (8, .int a8), (9, .int a9), (10, .int a10), (11, .int a11), (12, .int a12), (14, .int a14)] [.int t0] σ := by
  unfold m_L_isRefined_259 at h
  refine Z_istore hk (lv' := [(13, .int t0), (0, .ref (eA (kZ K) a0)), (1, .int a1), (2, .long a2), (4, .int a4), (5, .ref (eA (kZ K) a5)), (6, .ref (eA (kZ K) a6)), (7, .int a7), (8, .int a8), (9, .int a9), (10, .int a10), (11, .int a11), (12, .int a12), (14, .int a14)]) dL_isRefined_259 (by decide) rfl ?_
  obtain ⟨x96, e97, h⟩ := nm_get h
  refine Z_iinc hk 13 (v := x96) (lv' := [(14, .int x96), (13, .int t0), (0, .ref (eA (kZ K) a0)), (1, .int a1), (2, .long a2), (4, .int a4), (5, .ref (eA (kZ K) a5)), (6, .ref (eA (kZ K) a6)), (7, .int a7), (8, .int a8), (9, .int a9), (10, .int a10), (11, .int a11), (12, .int a12)]) dL_isRefined_261 rfl (by rw [zc_iinc_1]; exact e97) (by decide) rfl ?_
  refine Z_goto hk (tgt := 228) dL_isRefined_264 (by decide) ?_
  refine Z_sub [2, 3, 4, 5, 6, 7, 8, 9, 10, 11, 12, 13, 1, 0] rfl ?_
  exact hk228 a0 a1 a2 a4 a5 a6 a7 a8 a9 a10 a11 a12 t0 x96 ha0 ha5 ha6 σ h
set_option maxRecDepth 100000 in
set_option maxHeartbeats 4000000 in
theorem w_L_isRefined_258 {K : zK} {w : Nat} (hk : zIs K RL cL_isRefined 15 wsL_isRefined (some .boolean) r_L_isRefined) (hfl : (kL K).stackTraces = false) (hnx : zNX K) {r0 : Int32} {τ0 : zST} (hq : zQG K (.inr (some (.int r0))) τ0) (hw : eN (kZ K) = (w + 2)) (cs ss : Nat) (hb1 : cs + 0 ≤ 20) (hb2 : ss + 0 ≤ 124) (F : Nat) (k27 : Nat → Int32 → Int64 → Int32 → Nat → Nat → Int32 → Int32 → Int32 → zST → Option (Int32 × zST)) (hk27 : ∀ (a0 : Nat) (a1 : Int32) (a2 : Int64) (a4 : Int32) (a5 : Nat) (a6 : Nat) (a7 : Int32) (a8 : Int32) (a9 : Int32) (ha0 : atCanonCote (kZ K) a0) (ha5 : aJ (kZ K) a5 8) (ha6 : aI (kZ K) a6 8) (σ : zST), k27 a0 a1 a2 a4 a5 a6 a7 a8 a9 σ = some (r0, τ0) → Z K cs ss 27 [(0, .ref (eA (kZ K) a0)), (1, .int a1), (2, .long a2), (4, .int a4), (5, .ref (eA (kZ K) a5)), (6, .ref (eA (kZ K) a6)), (7, .int a7), (8, .int a8), (9, .int a9)] [] σ) (k184 : Nat → Int32 → Int64 → Int32 → Nat → Nat → Int32 → Int32 → Int32 → Int32 → zST → Option (Int32 × zST)) (hk184 : ∀ (a0 : Nat) (a1 : Int32) (a2 : Int64) (a4 : Int32) (a5 : Nat) (a6 : Nat) (a7 : Int32) (a8 : Int32) (a9 : Int32) (a10 : Int32) (ha0 : atCanonCote (kZ K) a0) (ha5 : aJ (kZ K) a5 8) (ha6 : aI (kZ K) a6 8) (σ : zST), k184 a0 a1 a2 a4 a5 a6 a7 a8 a9 a10 σ = some (r0, τ0) → Z K cs ss 184 [(0, .ref (eA (kZ K) a0)), (1, .int a1), (2, .long a2), (4, .int a4), (5, .ref (eA (kZ K) a5)), (6, .ref (eA (kZ K) a6)), (7, .int a7), (8, .int a8), (9, .int a9), (10, .int a10)] [] σ) (k197 : Nat → Int32 → Int64 → Int32 → Nat → Nat → Int32 → Int32 → Int32 → Int32 → Int32 → Int32 → zST → Option (Int32 × zST)) (hk197 : ∀ (a0 : Nat) (a1 : Int32) (a2 : Int64) (a4 : Int32) (a5 : Nat) (a6 : Nat) (a7 : Int32) (a8 : Int32) (a9 : Int32) (a10 : Int32) (a11 : Int32) (a12 : Int32) (ha0 : atCanonCote (kZ K) a0) (ha5 : aJ (kZ K) a5 8) (ha6 : aI (kZ K) a6 8) (σ : zST), k197 a0 a1 a2 a4 a5 a6 a7 a8 a9 a10 a11 a12 σ = some (r0, τ0) → Z K cs ss 197 [(0, .ref (eA (kZ K) a0)), (1, .int a1), (2, .long a2), (4, .int a4), (5, .ref (eA (kZ K) a5)), (6, .ref (eA (kZ K) a6)), (7, .int a7), (8, .int a8), (9, .int a9), (10, .int a10), (11, .int a11), (12, .int a12)] [] σ) (k228 : Nat → Int32 → Int64 → Int32 → Nat → Nat → Int32 → Int32 → Int32 → Int32 → Int32 → Int32 → Int32 → Int32 → zST → Option (Int32 × zST)) (hk228 : ∀ (a0 : Nat) (a1 : Int32) (a2 : Int64) (a4 : Int32) (a5 : Nat) (a6 : Nat) (a7 : Int32) (a8 : Int32) (a9 : Int32) (a10 : Int32) (a11 : Int32) (a12 : Int32) (a13 : Int32) (a14 : Int32) (ha0 : atCanonCote (kZ K) a0) (ha5 : aJ (kZ K) a5 8) (ha6 : aI (kZ K) a6 8) (σ : zST), k228 a0 a1 a2 a4 a5 a6 a7 a8 a9 a10 a11 a12 a13 a14 σ = some (r0, τ0) → Z K cs ss 228 [(0, .ref (eA (kZ K) a0)), (1, .int a1), (2, .long a2), (4, .int a4), (5, .ref (eA (kZ K) a5)), (6, .ref (eA (kZ K) a6)), (7, .int a7), (8, .int a8), (9, .int a9), (10, .int a10), (11, .int a11), (12, .int a12), (13, .int a13), (14, .int a14)] [] σ) (a0 : Nat) (a1 : Int32) (a2 : Int64) (a4 : Int32) (a5 : Nat) (a6 : Nat) (a7 : Int32) (a8 : Int32) (a9 : Int32) (a10 : Int32) (a11 : Int32) (a12 : Int32) (a14 : Int32) (ha0 : atCanonCote (kZ K) a0) (ha5 : aJ (kZ K) a5 8) (ha6 : aI (kZ K) a6 8) (σ : zST) (h : m_L_isRefined_258 F w k27 k184 k197 k228 a0 a1 a2 a4 a5 a6 a7 a8 a9 a10 a11 a12 a14 σ = some (r0, τ0)) : Z K cs ss 258 [(0, .ref (eA (kZ K) a0)), (1, .int a1), (2, .long a2), (4, .int a4), (5, .ref (eA (kZ K) a5)), (6, .ref (eA (kZ K) a6)), (7, .int a7), (8, .int a8), (9, .int a9), (10, .int a10), (11, .int a11), (12, .int a12), (14, .int a14)] [] σ := by
  unfold m_L_isRefined_258 at h
  refine Z_iconst hk dL_isRefined_258 zc_iconst_0 ?_
  refine Z_sub [0, 1, 2, 3, 4, 5, 6, 7, 8, 9, 10, 11, 12] rfl ?_
  exact w_L_isRefined_259 hk hfl hnx hq hw cs ss (by omega) (by omega) F k27 hk27 k184 hk184 k197 hk197 k228 hk228 a0 a1 a2 a4 a5 a6 a7 a8 a9 a10 a11 a12 a14 0 ha0 ha5 ha6 σ h
set_option maxRecDepth 100000 in
set_option maxHeartbeats 4000000 in
theorem w_L_isRefined_279 {K : zK} {w : Nat} (hk : zIs K RL cL_isRefined 15 wsL_isRefined (some .boolean) r_L_isRefined) (hfl : (kL K).stackTraces = false) (hnx : zNX K) {r0 : Int32} {τ0 : zST} (hq : zQG K (.inr (some (.int r0))) τ0) (hw : eN (kZ K) = (w + 2)) (cs ss : Nat) (hb1 : cs + 0 ≤ 20) (hb2 : ss + 0 ≤ 124) (F : Nat) (k27 : Nat → Int32 → Int64 → Int32 → Nat → Nat → Int32 → Int32 → Int32 → zST → Option (Int32 × zST)) (hk27 : ∀ (a0 : Nat) (a1 : Int32) (a2 : Int64) (a4 : Int32) (a5 : Nat) (a6 : Nat) (a7 : Int32) (a8 : Int32) (a9 : Int32) (ha0 : atCanonCote (kZ K) a0) (ha5 : aJ (kZ K) a5 8) (ha6 : aI (kZ K) a6 8) (σ : zST), k27 a0 a1 a2 a4 a5 a6 a7 a8 a9 σ = some (r0, τ0) → Z K cs ss 27 [(0, .ref (eA (kZ K) a0)), (1, .int a1), (2, .long a2), (4, .int a4), (5, .ref (eA (kZ K) a5)), (6, .ref (eA (kZ K) a6)), (7, .int a7), (8, .int a8), (9, .int a9)] [] σ) (k184 : Nat → Int32 → Int64 → Int32 → Nat → Nat → Int32 → Int32 → Int32 → Int32 → zST → Option (Int32 × zST)) (hk184 : ∀ (a0 : Nat) (a1 : Int32) (a2 : Int64) (a4 : Int32) (a5 : Nat) (a6 : Nat) (a7 : Int32) (a8 : Int32) (a9 : Int32) (a10 : Int32) (ha0 : atCanonCote (kZ K) a0) (ha5 : aJ (kZ K) a5 8) (ha6 : aI (kZ K) a6 8) (σ : zST), k184 a0 a1 a2 a4 a5 a6 a7 a8 a9 a10 σ = some (r0, τ0) → Z K cs ss 184 [(0, .ref (eA (kZ K) a0)), (1, .int a1), (2, .long a2), (4, .int a4), (5, .ref (eA (kZ K) a5)), (6, .ref (eA (kZ K) a6)), (7, .int a7), (8, .int a8), (9, .int a9), (10, .int a10)] [] σ) (k197 : Nat → Int32 → Int64 → Int32 → Nat → Nat → Int32 → Int32 → Int32 → Int32 → Int32 → Int32 → zST → Option (Int32 × zST)) (hk197 : ∀ (a0 : Nat) (a1 : Int32) (a2 : Int64) (a4 : Int32) (a5 : Nat) (a6 : Nat) (a7 : Int32) (a8 : Int32) (a9 : Int32) (a10 : Int32) (a11 : Int32) (a12 : Int32) (ha0 : atCanonCote (kZ K) a0) (ha5 : aJ (kZ K) a5 8) (ha6 : aI (kZ K) a6 8) (σ : zST), k197 a0 a1 a2 a4 a5 a6 a7 a8 a9 a10 a11 a12 σ = some (r0, τ0) → Z K cs ss 197 [(0, .ref (eA (kZ K) a0)), (1, .int a1), (2, .long a2), (4, .int a4), (5, .ref (eA (kZ K) a5)), (6, .ref (eA (kZ K) a6)), (7, .int a7), (8, .int a8), (9, .int a9), (10, .int a10), (11, .int a11), (12, .int a12)] [] σ) (a0 : Nat) (a1 : Int32) (a2 : Int64) (a4 : Int32) (a5 : Nat) (a6 : Nat) (a7 : Int32) (a8 : Int32) (a9 : Int32) (a10 : Int32) (a12 : Int32) (t0 : Int32) (t1 : Int32) (ha0 : atCanonCote (kZ K) a0) (ha5 : aJ (kZ K) a5 8) (ha6 : aI (kZ K) a6 8) (σ : zST) (h : m_L_isRefined_279 F w k27 k184 k197 a0 a1 a2 a4 a5 a6 a7 a8 a9 a10 a12 t0 t1 σ = some (r0, τ0)) : Z K cs ss 279 [(0, .ref (eA (kZ K) a0)), (1, .int a1), (2, .long a2), (4, .int a4), (5, .ref (eA (kZ K) a5)), (6, .ref (eA (kZ K) a6)), (7, .int a7), (8, .int a8), (9, .int a9), (10, .int a10), (12, .int a12)] [.int t0, .int t1] σ := by
  unfold m_L_isRefined_279 at h
  refine Z_iadd hk dL_isRefined_279 ?_
  obtain ⟨x92, e93, h⟩ := nm_get h
  refine Z_eqI e93 ?_
  refine Z_istore hk (lv' := [(11, .int x92), (0, .ref (eA (kZ K) a0)), (1, .int a1), (2, .long a2), (4, .int a4), (5, .ref (eA (kZ K) a5)), (6, .ref (eA (kZ K) a6)), (7, .int a7), (8, .int a8), (9, .int a9), (10, .int a10), (12, .int a12)]) dL_isRefined_280 (by decide) rfl ?_
  obtain ⟨x94, e95, h⟩ := nm_get h
  refine Z_iinc hk 11 (v := x94) (lv' := [(12, .int x94), (11, .int x92), (0, .ref (eA (kZ K) a0)), (1, .int a1), (2, .long a2), (4, .int a4), (5, .ref (eA (kZ K) a5)), (6, .ref (eA (kZ K) a6)), (7, .int a7), (8, .int a8), (9, .int a9), (10, .int a10)]) dL_isRefined_282 rfl (by rw [zc_iinc_1]; exact e95) (by decide) rfl ?_
  refine Z_goto hk (tgt := 197) dL_isRefined_285 (by decide) ?_
  refine Z_sub [2, 3, 4, 5, 6, 7, 8, 9, 10, 11, 1, 0] rfl ?_
  exact hk197 a0 a1 a2 a4 a5 a6 a7 a8 a9 a10 x92 x94 ha0 ha5 ha6 σ h
set_option maxRecDepth 100000 in
set_option maxHeartbeats 4000000 in
theorem w_L_isRefined_228 {K : zK} {w : Nat} (hk : zIs K RL cL_isRefined 15 wsL_isRefined (some .boolean) r_L_isRefined) (hfl : (kL K).stackTraces = false) (hnx : zNX K) {r0 : Int32} {τ0 : zST} (hq : zQG K (.inr (some (.int r0))) τ0) (hw : eN (kZ K) = (w + 2)) (cs ss : Nat) (hb1 : cs + 0 ≤ 20) (hb2 : ss + 0 ≤ 124) (F : Nat) (k27 : Nat → Int32 → Int64 → Int32 → Nat → Nat → Int32 → Int32 → Int32 → zST → Option (Int32 × zST)) (hk27 : ∀ (a0 : Nat) (a1 : Int32) (a2 : Int64) (a4 : Int32) (a5 : Nat) (a6 : Nat) (a7 : Int32) (a8 : Int32) (a9 : Int32) (ha0 : atCanonCote (kZ K) a0) (ha5 : aJ (kZ K) a5 8) (ha6 : aI (kZ K) a6 8) (σ : zST), k27 a0 a1 a2 a4 a5 a6 a7 a8 a9 σ = some (r0, τ0) → Z K cs ss 27 [(0, .ref (eA (kZ K) a0)), (1, .int a1), (2, .long a2), (4, .int a4), (5, .ref (eA (kZ K) a5)), (6, .ref (eA (kZ K) a6)), (7, .int a7), (8, .int a8), (9, .int a9)] [] σ) (k184 : Nat → Int32 → Int64 → Int32 → Nat → Nat → Int32 → Int32 → Int32 → Int32 → zST → Option (Int32 × zST)) (hk184 : ∀ (a0 : Nat) (a1 : Int32) (a2 : Int64) (a4 : Int32) (a5 : Nat) (a6 : Nat) (a7 : Int32) (a8 : Int32) (a9 : Int32) (a10 : Int32) (ha0 : atCanonCote (kZ K) a0) (ha5 : aJ (kZ K) a5 8) (ha6 : aI (kZ K) a6 8) (σ : zST), k184 a0 a1 a2 a4 a5 a6 a7 a8 a9 a10 σ = some (r0, τ0) → Z K cs ss 184 [(0, .ref (eA (kZ K) a0)), (1, .int a1), (2, .long a2), (4, .int a4), (5, .ref (eA (kZ K) a5)), (6, .ref (eA (kZ K) a6)), (7, .int a7), (8, .int a8), (9, .int a9), (10, .int a10)] [] σ) (k197 : Nat → Int32 → Int64 → Int32 → Nat → Nat → Int32 → Int32 → Int32 → Int32 → Int32 → Int32 → zST → Option (Int32 × zST)) (hk197 : ∀ (a0 : Nat) (a1 : Int32) (a2 : Int64) (a4 : Int32) (a5 : Nat) (a6 : Nat) (a7 : Int32) (a8 : Int32) (a9 : Int32) (a10 : Int32) (a11 : Int32) (a12 : Int32) (ha0 : atCanonCote (kZ K) a0) (ha5 : aJ (kZ K) a5 8) (ha6 : aI (kZ K) a6 8) (σ : zST), k197 a0 a1 a2 a4 a5 a6 a7 a8 a9 a10 a11 a12 σ = some (r0, τ0) → Z K cs ss 197 [(0, .ref (eA (kZ K) a0)), (1, .int a1), (2, .long a2), (4, .int a4), (5, .ref (eA (kZ K) a5)), (6, .ref (eA (kZ K) a6)), (7, .int a7), (8, .int a8), (9, .int a9), (10, .int a10), (11, .int a11), (12, .int a12)] [] σ) : ∀ (n : Nat) (a0 : Nat) (a1 : Int32) (a2 : Int64) (a4 : Int32) (a5 : Nat) (a6 : Nat) (a7 : Int32) (a8 : Int32) (a9 : Int32) (a10 : Int32) (a11 : Int32) (a12 : Int32) (a13 : Int32) (a14 : Int32) (ha0 : atCanonCote (kZ K) a0) (ha5 : aJ (kZ K) a5 8) (ha6 : aI (kZ K) a6 8) (σ : zST), m_L_isRefined_228 F w k27 k184 k197 n a0 a1 a2 a4 a5 a6 a7 a8 a9 a10 a11 a12 a13 a14 σ = some (r0, τ0) → Z K cs ss 228 [(0, .ref (eA (kZ K) a0)), (1, .int a1), (2, .long a2), (4, .int a4), (5, .ref (eA (kZ K) a5)), (6, .ref (eA (kZ K) a6)), (7, .int a7), (8, .int a8), (9, .int a9), (10, .int a10), (11, .int a11), (12, .int a12), (13, .int a13), (14, .int a14)] [] σ := by
  intro n
  induction n with
  | zero => intro a0 a1 a2 a4 a5 a6 a7 a8 a9 a10 a11 a12 a13 a14 ha0 ha5 ha6 σ h; cases h
  | succ n ih =>
    intro a0 a1 a2 a4 a5 a6 a7 a8 a9 a10 a11 a12 a13 a14 ha0 ha5 ha6 σ h
    rw [m_L_isRefined_228] at h
    refine Z_iload hk 13 dL_isRefined_228 rfl ?_
    refine Z_iload hk 11 dL_isRefined_230 rfl ?_
    refine Z_icmp_ge hk (tgt := 267) dL_isRefined_232 (by decide) (fun c78 => ?_) (fun c78 => ?_)
    · have h := if_yes h c78
      refine Z_iload hk 10 dL_isRefined_267 rfl ?_
      refine Z_iload hk 12 dL_isRefined_269 rfl ?_
      refine Z_if_eq hk (tgt := 278) dL_isRefined_271 (by decide) (fun c79 => ?_) (fun c79 => ?_)
      · have h := if_yes h c79
        refine Z_iconst hk dL_isRefined_278 zc_iconst_0 ?_
        refine Z_sub [0, 1, 2, 3, 4, 5, 6, 7, 8, 9, 11] rfl ?_
        exact w_L_isRefined_279 hk hfl hnx hq hw cs ss (by omega) (by omega) F k27 hk27 k184 hk184 k197 hk197 a0 a1 a2 a4 a5 a6 a7 a8 a9 a10 a12 0 a11 ha0 ha5 ha6 σ h
      · have h := if_no h c79
        refine Z_iconst hk dL_isRefined_274 zc_iconst_1 ?_
        refine Z_goto hk (tgt := 279) dL_isRefined_275 (by decide) ?_
        refine Z_sub [0, 1, 2, 3, 4, 5, 6, 7, 8, 9, 11] rfl ?_
        exact w_L_isRefined_279 hk hfl hnx hq hw cs ss (by omega) (by omega) F k27 hk27 k184 hk184 k197 hk197 a0 a1 a2 a4 a5 a6 a7 a8 a9 a10 a12 1 a11 ha0 ha5 ha6 σ h
    · have h := if_no h c78
      refine Z_iload hk 12 dL_isRefined_235 rfl ?_
      refine Z_if_eq hk (tgt := 258) dL_isRefined_237 (by decide) (fun c80 => ?_) (fun c80 => ?_)
      · have h := if_yes h c80
        refine Z_sub [0, 1, 2, 3, 4, 5, 6, 7, 8, 9, 10, 11, 13] rfl ?_
        exact w_L_isRefined_258 hk hfl hnx hq hw cs ss (by omega) (by omega) F k27 hk27 k184 hk184 k197 hk197 (m_L_isRefined_228 F w k27 k184 k197 n) ih a0 a1 a2 a4 a5 a6 a7 a8 a9 a10 a11 a12 a14 ha0 ha5 ha6 σ h
      · have h := if_no h c80
        refine Z_aload hk 4 dL_isRefined_240 rfl ?_
        refine Z_iload hk 13 dL_isRefined_242 rfl ?_
        obtain ⟨i83, x81, e82, h⟩ := ldL_get h
        refine Z_lald hk ha5 i83 dL_isRefined_244 ?_
        refine Z_eqL e82 ?_
        refine Z_aload hk 4 dL_isRefined_245 rfl ?_
        refine Z_iload hk 11 dL_isRefined_247 rfl ?_
        obtain ⟨i86, x84, e85, h⟩ := ldL_get h
        refine Z_lald hk ha5 i86 dL_isRefined_249 ?_
        refine Z_eqL e85 ?_
        refine Z_lcmp hk dL_isRefined_250 ?_
        refine Z_if_eq hk (tgt := 258) dL_isRefined_251 (by decide) (fun c87 => ?_) (fun c87 => ?_)
        · have h := if_yes h c87
          refine Z_sub [0, 1, 2, 3, 4, 5, 6, 7, 8, 9, 10, 11, 13] rfl ?_
          exact w_L_isRefined_258 hk hfl hnx hq hw cs ss (by omega) (by omega) F k27 hk27 k184 hk184 k197 hk197 (m_L_isRefined_228 F w k27 k184 k197 n) ih a0 a1 a2 a4 a5 a6 a7 a8 a9 a10 a11 a12 a14 ha0 ha5 ha6 σ h
        · have h := if_no h c87
          refine Z_iconst hk dL_isRefined_254 zc_iconst_1 ?_
          refine Z_goto hk (tgt := 259) dL_isRefined_255 (by decide) ?_
          refine Z_sub [0, 1, 2, 3, 4, 5, 6, 7, 8, 9, 10, 11, 13] rfl ?_
          exact w_L_isRefined_259 hk hfl hnx hq hw cs ss (by omega) (by omega) F k27 hk27 k184 hk184 k197 hk197 (m_L_isRefined_228 F w k27 k184 k197 n) ih a0 a1 a2 a4 a5 a6 a7 a8 a9 a10 a11 a12 a14 1 ha0 ha5 ha6 σ h
set_option maxRecDepth 100000 in
set_option maxHeartbeats 4000000 in
theorem w_L_isRefined_223 {K : zK} {w : Nat} (hk : zIs K RL cL_isRefined 15 wsL_isRefined (some .boolean) r_L_isRefined) (hfl : (kL K).stackTraces = false) (hnx : zNX K) {r0 : Int32} {τ0 : zST} (hq : zQG K (.inr (some (.int r0))) τ0) (hw : eN (kZ K) = (w + 2)) (cs ss : Nat) (hb1 : cs + 0 ≤ 20) (hb2 : ss + 0 ≤ 124) (F : Nat) (k27 : Nat → Int32 → Int64 → Int32 → Nat → Nat → Int32 → Int32 → Int32 → zST → Option (Int32 × zST)) (hk27 : ∀ (a0 : Nat) (a1 : Int32) (a2 : Int64) (a4 : Int32) (a5 : Nat) (a6 : Nat) (a7 : Int32) (a8 : Int32) (a9 : Int32) (ha0 : atCanonCote (kZ K) a0) (ha5 : aJ (kZ K) a5 8) (ha6 : aI (kZ K) a6 8) (σ : zST), k27 a0 a1 a2 a4 a5 a6 a7 a8 a9 σ = some (r0, τ0) → Z K cs ss 27 [(0, .ref (eA (kZ K) a0)), (1, .int a1), (2, .long a2), (4, .int a4), (5, .ref (eA (kZ K) a5)), (6, .ref (eA (kZ K) a6)), (7, .int a7), (8, .int a8), (9, .int a9)] [] σ) (k184 : Nat → Int32 → Int64 → Int32 → Nat → Nat → Int32 → Int32 → Int32 → Int32 → zST → Option (Int32 × zST)) (hk184 : ∀ (a0 : Nat) (a1 : Int32) (a2 : Int64) (a4 : Int32) (a5 : Nat) (a6 : Nat) (a7 : Int32) (a8 : Int32) (a9 : Int32) (a10 : Int32) (ha0 : atCanonCote (kZ K) a0) (ha5 : aJ (kZ K) a5 8) (ha6 : aI (kZ K) a6 8) (σ : zST), k184 a0 a1 a2 a4 a5 a6 a7 a8 a9 a10 σ = some (r0, τ0) → Z K cs ss 184 [(0, .ref (eA (kZ K) a0)), (1, .int a1), (2, .long a2), (4, .int a4), (5, .ref (eA (kZ K) a5)), (6, .ref (eA (kZ K) a6)), (7, .int a7), (8, .int a8), (9, .int a9), (10, .int a10)] [] σ) (k197 : Nat → Int32 → Int64 → Int32 → Nat → Nat → Int32 → Int32 → Int32 → Int32 → Int32 → Int32 → zST → Option (Int32 × zST)) (hk197 : ∀ (a0 : Nat) (a1 : Int32) (a2 : Int64) (a4 : Int32) (a5 : Nat) (a6 : Nat) (a7 : Int32) (a8 : Int32) (a9 : Int32) (a10 : Int32) (a11 : Int32) (a12 : Int32) (ha0 : atCanonCote (kZ K) a0) (ha5 : aJ (kZ K) a5 8) (ha6 : aI (kZ K) a6 8) (σ : zST), k197 a0 a1 a2 a4 a5 a6 a7 a8 a9 a10 a11 a12 σ = some (r0, τ0) → Z K cs ss 197 [(0, .ref (eA (kZ K) a0)), (1, .int a1), (2, .long a2), (4, .int a4), (5, .ref (eA (kZ K) a5)), (6, .ref (eA (kZ K) a6)), (7, .int a7), (8, .int a8), (9, .int a9), (10, .int a10), (11, .int a11), (12, .int a12)] [] σ) (a0 : Nat) (a1 : Int32) (a2 : Int64) (a4 : Int32) (a5 : Nat) (a6 : Nat) (a7 : Int32) (a8 : Int32) (a9 : Int32) (a10 : Int32) (a11 : Int32) (a12 : Int32) (t0 : Int32) (ha0 : atCanonCote (kZ K) a0) (ha5 : aJ (kZ K) a5 8) (ha6 : aI (kZ K) a6 8) (σ : zST) (h : m_L_isRefined_223 F w k27 k184 k197 a0 a1 a2 a4 a5 a6 a7 a8 a9 a10 a11 a12 t0 σ = some (r0, τ0)) : Z K cs ss 223 [(0, .ref (eA (kZ K) a0)), (1, .int a1), (2, .long a2), (4, .int a4), (5, .ref (eA (kZ K) a5)), (6, .ref (eA (kZ K) a6)), (7, .int a7), (8, .int a8), (9, .int a9), (10, .int a10), (11, .int a11), (12, .int a12)] [.int t0] σ := by
  unfold m_L_isRefined_223 at h
  refine Z_istore hk (lv' := [(13, .int t0), (0, .ref (eA (kZ K) a0)), (1, .int a1), (2, .long a2), (4, .int a4), (5, .ref (eA (kZ K) a5)), (6, .ref (eA (kZ K) a6)), (7, .int a7), (8, .int a8), (9, .int a9), (10, .int a10), (11, .int a11), (12, .int a12)]) dL_isRefined_223 (by decide) rfl ?_
  refine Z_iconst hk dL_isRefined_225 zc_iconst_0 ?_
  refine Z_istore hk (lv' := [(14, .int 0), (13, .int t0), (0, .ref (eA (kZ K) a0)), (1, .int a1), (2, .long a2), (4, .int a4), (5, .ref (eA (kZ K) a5)), (6, .ref (eA (kZ K) a6)), (7, .int a7), (8, .int a8), (9, .int a9), (10, .int a10), (11, .int a11), (12, .int a12)]) dL_isRefined_226 (by decide) rfl ?_
  refine Z_sub [2, 3, 4, 5, 6, 7, 8, 9, 10, 11, 12, 13, 1, 0] rfl ?_
  exact w_L_isRefined_228 hk hfl hnx hq hw cs ss (by omega) (by omega) F k27 hk27 k184 hk184 k197 hk197 F a0 a1 a2 a4 a5 a6 a7 a8 a9 a10 a11 a12 t0 0 ha0 ha5 ha6 σ h
set_option maxRecDepth 100000 in
set_option maxHeartbeats 4000000 in
theorem w_L_isRefined_311 {K : zK} {w : Nat} (hk : zIs K RL cL_isRefined 15 wsL_isRefined (some .boolean) r_L_isRefined) (hfl : (kL K).stackTraces = false) (hnx : zNX K) {r0 : Int32} {τ0 : zST} (hq : zQG K (.inr (some (.int r0))) τ0) (hw : eN (kZ K) = (w + 2)) (cs ss : Nat) (hb1 : cs + 0 ≤ 20) (hb2 : ss + 0 ≤ 124) (F : Nat) (k27 : Nat → Int32 → Int64 → Int32 → Nat → Nat → Int32 → Int32 → Int32 → zST → Option (Int32 × zST)) (hk27 : ∀ (a0 : Nat) (a1 : Int32) (a2 : Int64) (a4 : Int32) (a5 : Nat) (a6 : Nat) (a7 : Int32) (a8 : Int32) (a9 : Int32) (ha0 : atCanonCote (kZ K) a0) (ha5 : aJ (kZ K) a5 8) (ha6 : aI (kZ K) a6 8) (σ : zST), k27 a0 a1 a2 a4 a5 a6 a7 a8 a9 σ = some (r0, τ0) → Z K cs ss 27 [(0, .ref (eA (kZ K) a0)), (1, .int a1), (2, .long a2), (4, .int a4), (5, .ref (eA (kZ K) a5)), (6, .ref (eA (kZ K) a6)), (7, .int a7), (8, .int a8), (9, .int a9)] [] σ) (k184 : Nat → Int32 → Int64 → Int32 → Nat → Nat → Int32 → Int32 → Int32 → Int32 → zST → Option (Int32 × zST)) (hk184 : ∀ (a0 : Nat) (a1 : Int32) (a2 : Int64) (a4 : Int32) (a5 : Nat) (a6 : Nat) (a7 : Int32) (a8 : Int32) (a9 : Int32) (a10 : Int32) (ha0 : atCanonCote (kZ K) a0) (ha5 : aJ (kZ K) a5 8) (ha6 : aI (kZ K) a6 8) (σ : zST), k184 a0 a1 a2 a4 a5 a6 a7 a8 a9 a10 σ = some (r0, τ0) → Z K cs ss 184 [(0, .ref (eA (kZ K) a0)), (1, .int a1), (2, .long a2), (4, .int a4), (5, .ref (eA (kZ K) a5)), (6, .ref (eA (kZ K) a6)), (7, .int a7), (8, .int a8), (9, .int a9), (10, .int a10)] [] σ) (a0 : Nat) (a1 : Int32) (a2 : Int64) (a4 : Int32) (a5 : Nat) (a6 : Nat) (a7 : Int32) (a9 : Int32) (a10 : Int32) (t0 : Int32) (ha0 : atCanonCote (kZ K) a0) (ha5 : aJ (kZ K) a5 8) (ha6 : aI (kZ K) a6 8) (σ : zST) (h : m_L_isRefined_311 F w k27 k184 a0 a1 a2 a4 a5 a6 a7 a9 a10 t0 σ = some (r0, τ0)) : Z K cs ss 311 [(0, .ref (eA (kZ K) a0)), (1, .int a1), (2, .long a2), (4, .int a4), (5, .ref (eA (kZ K) a5)), (6, .ref (eA (kZ K) a6)), (7, .int a7), (9, .int a9), (10, .int a10)] [.int t0] σ := by
  unfold m_L_isRefined_311 at h
  refine Z_istore hk (lv' := [(8, .int t0), (0, .ref (eA (kZ K) a0)), (1, .int a1), (2, .long a2), (4, .int a4), (5, .ref (eA (kZ K) a5)), (6, .ref (eA (kZ K) a6)), (7, .int a7), (9, .int a9), (10, .int a10)]) dL_isRefined_311 (by decide) rfl ?_
  obtain ⟨x57, e58, h⟩ := nm_get h
  refine Z_iinc hk 9 (v := x57) (lv' := [(10, .int x57), (8, .int t0), (0, .ref (eA (kZ K) a0)), (1, .int a1), (2, .long a2), (4, .int a4), (5, .ref (eA (kZ K) a5)), (6, .ref (eA (kZ K) a6)), (7, .int a7), (9, .int a9)]) dL_isRefined_313 rfl (by rw [zc_iinc_1]; exact e58) (by decide) rfl ?_
  refine Z_goto hk (tgt := 184) dL_isRefined_316 (by decide) ?_
  refine Z_sub [2, 3, 4, 5, 6, 7, 8, 1, 9, 0] rfl ?_
  exact hk184 a0 a1 a2 a4 a5 a6 a7 t0 a9 x57 ha0 ha5 ha6 σ h
set_option maxRecDepth 100000 in
set_option maxHeartbeats 4000000 in
theorem w_L_isRefined_197 {K : zK} {w : Nat} (hk : zIs K RL cL_isRefined 15 wsL_isRefined (some .boolean) r_L_isRefined) (hfl : (kL K).stackTraces = false) (hnx : zNX K) {r0 : Int32} {τ0 : zST} (hq : zQG K (.inr (some (.int r0))) τ0) (hw : eN (kZ K) = (w + 2)) (cs ss : Nat) (hb1 : cs + 0 ≤ 20) (hb2 : ss + 0 ≤ 124) (F : Nat) (k27 : Nat → Int32 → Int64 → Int32 → Nat → Nat → Int32 → Int32 → Int32 → zST → Option (Int32 × zST)) (hk27 : ∀ (a0 : Nat) (a1 : Int32) (a2 : Int64) (a4 : Int32) (a5 : Nat) (a6 : Nat) (a7 : Int32) (a8 : Int32) (a9 : Int32) (ha0 : atCanonCote (kZ K) a0) (ha5 : aJ (kZ K) a5 8) (ha6 : aI (kZ K) a6 8) (σ : zST), k27 a0 a1 a2 a4 a5 a6 a7 a8 a9 σ = some (r0, τ0) → Z K cs ss 27 [(0, .ref (eA (kZ K) a0)), (1, .int a1), (2, .long a2), (4, .int a4), (5, .ref (eA (kZ K) a5)), (6, .ref (eA (kZ K) a6)), (7, .int a7), (8, .int a8), (9, .int a9)] [] σ) (k184 : Nat → Int32 → Int64 → Int32 → Nat → Nat → Int32 → Int32 → Int32 → Int32 → zST → Option (Int32 × zST)) (hk184 : ∀ (a0 : Nat) (a1 : Int32) (a2 : Int64) (a4 : Int32) (a5 : Nat) (a6 : Nat) (a7 : Int32) (a8 : Int32) (a9 : Int32) (a10 : Int32) (ha0 : atCanonCote (kZ K) a0) (ha5 : aJ (kZ K) a5 8) (ha6 : aI (kZ K) a6 8) (σ : zST), k184 a0 a1 a2 a4 a5 a6 a7 a8 a9 a10 σ = some (r0, τ0) → Z K cs ss 184 [(0, .ref (eA (kZ K) a0)), (1, .int a1), (2, .long a2), (4, .int a4), (5, .ref (eA (kZ K) a5)), (6, .ref (eA (kZ K) a6)), (7, .int a7), (8, .int a8), (9, .int a9), (10, .int a10)] [] σ) : ∀ (n : Nat) (a0 : Nat) (a1 : Int32) (a2 : Int64) (a4 : Int32) (a5 : Nat) (a6 : Nat) (a7 : Int32) (a8 : Int32) (a9 : Int32) (a10 : Int32) (a11 : Int32) (a12 : Int32) (ha0 : atCanonCote (kZ K) a0) (ha5 : aJ (kZ K) a5 8) (ha6 : aI (kZ K) a6 8) (σ : zST), m_L_isRefined_197 F w k27 k184 n a0 a1 a2 a4 a5 a6 a7 a8 a9 a10 a11 a12 σ = some (r0, τ0) → Z K cs ss 197 [(0, .ref (eA (kZ K) a0)), (1, .int a1), (2, .long a2), (4, .int a4), (5, .ref (eA (kZ K) a5)), (6, .ref (eA (kZ K) a6)), (7, .int a7), (8, .int a8), (9, .int a9), (10, .int a10), (11, .int a11), (12, .int a12)] [] σ := by
  intro n
  induction n with
  | zero => intro a0 a1 a2 a4 a5 a6 a7 a8 a9 a10 a11 a12 ha0 ha5 ha6 σ h; cases h
  | succ n ih =>
    intro a0 a1 a2 a4 a5 a6 a7 a8 a9 a10 a11 a12 ha0 ha5 ha6 σ h
    rw [m_L_isRefined_197] at h
    refine Z_iload hk 11 dL_isRefined_197 rfl ?_
    refine Z_iload hk 3 dL_isRefined_199 rfl ?_
    refine Z_icmp_ge hk (tgt := 288) dL_isRefined_201 (by decide) (fun c43 => ?_) (fun c43 => ?_)
    · have h := if_yes h c43
      refine Z_aload hk 5 dL_isRefined_288 rfl ?_
      refine Z_iload hk 9 dL_isRefined_290 rfl ?_
      refine Z_iload hk 10 dL_isRefined_292 rfl ?_
      obtain ⟨i46, s44, e45, h⟩ := stI_get h
      refine Z_iast hk ha6 i46 dL_isRefined_294 ?_
      refine Z_eqS e45 ?_
      refine Z_iload hk 10 dL_isRefined_295 rfl ?_
      refine Z_iload hk 7 dL_isRefined_297 rfl ?_
      refine Z_icmp_lt hk (tgt := 309) dL_isRefined_299 (by decide) (fun c47 => ?_) (fun c47 => ?_)
      · have h := if_yes h c47
        refine Z_iload hk 7 dL_isRefined_309 rfl ?_
        refine Z_sub [0, 1, 2, 3, 4, 5, 6, 8, 9] rfl ?_
        exact w_L_isRefined_311 hk hfl hnx hq hw cs ss (by omega) (by omega) F k27 hk27 k184 hk184 a0 a1 a2 a4 a5 a6 a7 a9 a10 a8 ha0 ha5 ha6 s44 h
      · have h := if_no h c47
        refine Z_iload hk 10 dL_isRefined_302 rfl ?_
        refine Z_iconst hk dL_isRefined_304 zc_iconst_1 ?_
        refine Z_iadd hk dL_isRefined_305 ?_
        refine Z_goto hk (tgt := 311) dL_isRefined_306 (by decide) ?_
        refine Z_sub [0, 1, 2, 3, 4, 5, 6, 8, 9] rfl ?_
        exact w_L_isRefined_311 hk hfl hnx hq hw cs ss (by omega) (by omega) F k27 hk27 k184 hk184 a0 a1 a2 a4 a5 a6 a7 a9 a10 (a11 + 1) ha0 ha5 ha6 s44 h
    · have h := if_no h c43
      refine Z_aload hk 4 dL_isRefined_204 rfl ?_
      refine Z_iload hk 11 dL_isRefined_206 rfl ?_
      obtain ⟨i50, x48, e49, h⟩ := ldL_get h
      refine Z_lald hk ha5 i50 dL_isRefined_208 ?_
      refine Z_eqL e49 ?_
      refine Z_aload hk 4 dL_isRefined_209 rfl ?_
      refine Z_iload hk 9 dL_isRefined_211 rfl ?_
      obtain ⟨i53, x51, e52, h⟩ := ldL_get h
      refine Z_lald hk ha5 i53 dL_isRefined_213 ?_
      refine Z_eqL e52 ?_
      refine Z_lcmp hk dL_isRefined_214 ?_
      refine Z_if_ge hk (tgt := 222) dL_isRefined_215 (by decide) (fun c54 => ?_) (fun c54 => ?_)
      · have h := if_yes h c54
        refine Z_iconst hk dL_isRefined_222 zc_iconst_0 ?_
        refine Z_sub [0, 1, 2, 3, 4, 5, 6, 7, 8, 9, 10, 11] rfl ?_
        exact w_L_isRefined_223 hk hfl hnx hq hw cs ss (by omega) (by omega) F k27 hk27 k184 hk184 (m_L_isRefined_197 F w k27 k184 n) ih a0 a1 a2 a4 a5 a6 a7 a8 a9 a10 a11 a12 0 ha0 ha5 ha6 σ h
      · have h := if_no h c54
        refine Z_iconst hk dL_isRefined_218 zc_iconst_1 ?_
        refine Z_goto hk (tgt := 223) dL_isRefined_219 (by decide) ?_
        refine Z_sub [0, 1, 2, 3, 4, 5, 6, 7, 8, 9, 10, 11] rfl ?_
        exact w_L_isRefined_223 hk hfl hnx hq hw cs ss (by omega) (by omega) F k27 hk27 k184 hk184 (m_L_isRefined_197 F w k27 k184 n) ih a0 a1 a2 a4 a5 a6 a7 a8 a9 a10 a11 a12 1 ha0 ha5 ha6 σ h
set_option maxRecDepth 100000 in
set_option maxHeartbeats 4000000 in
theorem w_L_isRefined_184 {K : zK} {w : Nat} (hk : zIs K RL cL_isRefined 15 wsL_isRefined (some .boolean) r_L_isRefined) (hfl : (kL K).stackTraces = false) (hnx : zNX K) {r0 : Int32} {τ0 : zST} (hq : zQG K (.inr (some (.int r0))) τ0) (hw : eN (kZ K) = (w + 2)) (cs ss : Nat) (hb1 : cs + 0 ≤ 20) (hb2 : ss + 0 ≤ 124) (F : Nat) (k27 : Nat → Int32 → Int64 → Int32 → Nat → Nat → Int32 → Int32 → Int32 → zST → Option (Int32 × zST)) (hk27 : ∀ (a0 : Nat) (a1 : Int32) (a2 : Int64) (a4 : Int32) (a5 : Nat) (a6 : Nat) (a7 : Int32) (a8 : Int32) (a9 : Int32) (ha0 : atCanonCote (kZ K) a0) (ha5 : aJ (kZ K) a5 8) (ha6 : aI (kZ K) a6 8) (σ : zST), k27 a0 a1 a2 a4 a5 a6 a7 a8 a9 σ = some (r0, τ0) → Z K cs ss 27 [(0, .ref (eA (kZ K) a0)), (1, .int a1), (2, .long a2), (4, .int a4), (5, .ref (eA (kZ K) a5)), (6, .ref (eA (kZ K) a6)), (7, .int a7), (8, .int a8), (9, .int a9)] [] σ) : ∀ (n : Nat) (a0 : Nat) (a1 : Int32) (a2 : Int64) (a4 : Int32) (a5 : Nat) (a6 : Nat) (a7 : Int32) (a8 : Int32) (a9 : Int32) (a10 : Int32) (ha0 : atCanonCote (kZ K) a0) (ha5 : aJ (kZ K) a5 8) (ha6 : aI (kZ K) a6 8) (σ : zST), m_L_isRefined_184 F w k27 n a0 a1 a2 a4 a5 a6 a7 a8 a9 a10 σ = some (r0, τ0) → Z K cs ss 184 [(0, .ref (eA (kZ K) a0)), (1, .int a1), (2, .long a2), (4, .int a4), (5, .ref (eA (kZ K) a5)), (6, .ref (eA (kZ K) a6)), (7, .int a7), (8, .int a8), (9, .int a9), (10, .int a10)] [] σ := by
  intro n
  induction n with
  | zero => intro a0 a1 a2 a4 a5 a6 a7 a8 a9 a10 ha0 ha5 ha6 σ h; cases h
  | succ n ih =>
    intro a0 a1 a2 a4 a5 a6 a7 a8 a9 a10 ha0 ha5 ha6 σ h
    rw [m_L_isRefined_184] at h
    refine Z_iload hk 9 dL_isRefined_184 rfl ?_
    refine Z_iload hk 3 dL_isRefined_186 rfl ?_
    refine Z_icmp_ge hk (tgt := 319) dL_isRefined_188 (by decide) (fun c37 => ?_) (fun c37 => ?_)
    · have h := if_yes h c37
      obtain ⟨x38, e39, h⟩ := nm_get h
      refine Z_iinc hk 8 (v := x38) (lv' := [(9, .int x38), (0, .ref (eA (kZ K) a0)), (1, .int a1), (2, .long a2), (4, .int a4), (5, .ref (eA (kZ K) a5)), (6, .ref (eA (kZ K) a6)), (7, .int a7), (8, .int a8), (10, .int a10)]) dL_isRefined_319 rfl (by rw [zc_iinc_1]; exact e39) (by decide) rfl ?_
      refine Z_goto hk (tgt := 27) dL_isRefined_322 (by decide) ?_
      refine Z_sub [1, 2, 3, 4, 5, 6, 7, 8, 0] rfl ?_
      exact hk27 a0 a1 a2 a4 a5 a6 a7 a8 x38 ha0 ha5 ha6 σ h
    · have h := if_no h c37
      refine Z_iconst hk dL_isRefined_191 zc_iconst_0 ?_
      refine Z_istore hk (lv' := [(11, .int 0), (0, .ref (eA (kZ K) a0)), (1, .int a1), (2, .long a2), (4, .int a4), (5, .ref (eA (kZ K) a5)), (6, .ref (eA (kZ K) a6)), (7, .int a7), (8, .int a8), (9, .int a9), (10, .int a10)]) dL_isRefined_192 (by decide) rfl ?_
      refine Z_iconst hk dL_isRefined_194 zc_iconst_0 ?_
      refine Z_istore hk (lv' := [(12, .int 0), (11, .int 0), (0, .ref (eA (kZ K) a0)), (1, .int a1), (2, .long a2), (4, .int a4), (5, .ref (eA (kZ K) a5)), (6, .ref (eA (kZ K) a6)), (7, .int a7), (8, .int a8), (9, .int a9), (10, .int a10)]) dL_isRefined_195 (by decide) rfl ?_
      refine Z_sub [2, 3, 4, 5, 6, 7, 8, 9, 10, 11, 1, 0] rfl ?_
      exact w_L_isRefined_197 hk hfl hnx hq hw cs ss (by omega) (by omega) F k27 hk27 (m_L_isRefined_184 F w k27 n) ih F a0 a1 a2 a4 a5 a6 a7 a8 a9 a10 0 0 ha0 ha5 ha6 σ h
set_option maxRecDepth 100000 in
set_option maxHeartbeats 4000000 in
theorem w_L_isRefined_53 {K : zK} {w : Nat} (hk : zIs K RL cL_isRefined 15 wsL_isRefined (some .boolean) r_L_isRefined) (hfl : (kL K).stackTraces = false) (hnx : zNX K) {r0 : Int32} {τ0 : zST} (hq : zQG K (.inr (some (.int r0))) τ0) (hw : eN (kZ K) = (w + 2)) (cs ss : Nat) (hb1 : cs + 0 ≤ 20) (hb2 : ss + 0 ≤ 124) (F : Nat) (k27 : Nat → Int32 → Int64 → Int32 → Nat → Nat → Int32 → Int32 → Int32 → zST → Option (Int32 × zST)) (hk27 : ∀ (a0 : Nat) (a1 : Int32) (a2 : Int64) (a4 : Int32) (a5 : Nat) (a6 : Nat) (a7 : Int32) (a8 : Int32) (a9 : Int32) (ha0 : atCanonCote (kZ K) a0) (ha5 : aJ (kZ K) a5 8) (ha6 : aI (kZ K) a6 8) (σ : zST), k27 a0 a1 a2 a4 a5 a6 a7 a8 a9 σ = some (r0, τ0) → Z K cs ss 27 [(0, .ref (eA (kZ K) a0)), (1, .int a1), (2, .long a2), (4, .int a4), (5, .ref (eA (kZ K) a5)), (6, .ref (eA (kZ K) a6)), (7, .int a7), (8, .int a8), (9, .int a9)] [] σ) : ∀ (n : Nat) (a0 : Nat) (a1 : Int32) (a2 : Int64) (a4 : Int32) (a5 : Nat) (a6 : Nat) (a7 : Int32) (a8 : Int32) (a9 : Int32) (a10 : Int32) (ha0 : atCanonCote (kZ K) a0) (ha5 : aJ (kZ K) a5 8) (ha6 : aI (kZ K) a6 8) (σ : zST), m_L_isRefined_53 F w k27 n a0 a1 a2 a4 a5 a6 a7 a8 a9 a10 σ = some (r0, τ0) → Z K cs ss 53 [(0, .ref (eA (kZ K) a0)), (1, .int a1), (2, .long a2), (4, .int a4), (5, .ref (eA (kZ K) a5)), (6, .ref (eA (kZ K) a6)), (7, .int a7), (8, .int a8), (9, .int a9), (10, .int a10)] [] σ := by
  intro n
  induction n with
  | zero => intro a0 a1 a2 a4 a5 a6 a7 a8 a9 a10 ha0 ha5 ha6 σ h; cases h
  | succ n ih =>
    intro a0 a1 a2 a4 a5 a6 a7 a8 a9 a10 ha0 ha5 ha6 σ h
    rw [m_L_isRefined_53] at h
    refine Z_iload hk 9 dL_isRefined_53 rfl ?_
    refine Z_iload hk 3 dL_isRefined_55 rfl ?_
    refine Z_icmp_ge hk (tgt := 181) dL_isRefined_57 (by decide) (fun c27 => ?_) (fun c27 => ?_)
    · have h := if_yes h c27
      refine Z_iconst hk dL_isRefined_181 zc_iconst_0 ?_
      refine Z_istore hk (lv' := [(10, .int 0), (0, .ref (eA (kZ K) a0)), (1, .int a1), (2, .long a2), (4, .int a4), (5, .ref (eA (kZ K) a5)), (6, .ref (eA (kZ K) a6)), (7, .int a7), (8, .int a8), (9, .int a9)]) dL_isRefined_182 (by decide) rfl ?_
      refine Z_sub [1, 2, 3, 4, 5, 6, 7, 8, 9, 0] rfl ?_
      exact w_L_isRefined_184 hk hfl hnx hq hw cs ss (by omega) (by omega) F k27 hk27 F a0 a1 a2 a4 a5 a6 a7 a8 a9 0 ha0 ha5 ha6 σ h
    · have h := if_no h c27
      refine Z_aload hk 4 dL_isRefined_60 rfl ?_
      refine Z_iload hk 9 dL_isRefined_62 rfl ?_
      refine Z_iload hk 8 dL_isRefined_64 rfl ?_
      refine Z_if_ge hk (tgt := 79) dL_isRefined_66 (by decide) (fun c28 => ?_) (fun c28 => ?_)
      · have h := if_yes h c28
        refine Z_aload hk 5 dL_isRefined_79 rfl ?_
        refine Z_iload hk 9 dL_isRefined_81 rfl ?_
        obtain ⟨i31, x29, e30, h⟩ := ldI_get h
        refine Z_iald hk ha6 i31 dL_isRefined_83 ?_
        refine Z_eqI e30 ?_
        refine Z_i2l hk dL_isRefined_84 ?_
        refine Z_sub [0, 1, 2, 3, 4, 5, 6, 7, 8, 9] rfl ?_
        exact w_L_isRefined_85 hk hfl hnx hq hw cs ss (by omega) (by omega) F k27 hk27 (m_L_isRefined_53 F w k27 n) ih a0 a1 a2 a4 a5 a6 a7 a8 a9 a10 (x29.toInt64) a10 a5 ha0 ha5 ha6 ha5 σ h
      · have h := if_no h c28
        refine Z_lload_n hk 2 dL_isRefined_69 rfl rfl ?_
        refine Z_iload hk 9 dL_isRefined_70 rfl ?_
        obtain ⟨x32, s33, h34, h⟩ := bd_ok h
        refine Z_callT 2 hk [.long a2, .int a10] (c_L_colour hk.loc hk.inj F a2 a10 σ h34) gL_isRefined_L_colour rfl ⟨rfl, rfl⟩ (by decide +kernel) ⟨Nat.le_of_ble_eq_true rfl, Nat.le_of_ble_eq_true rfl⟩ rfl rfl (Nat.le_of_ble_eq_true rfl) ⟨by show cs + 0 ≤ 20; omega, by show ss + 0 ≤ 124; omega⟩ dL_isRefined_72 ?_
        show Z K cs ss 75 [(0, .ref (eA (kZ K) a0)), (1, .int a1), (2, .long a2), (4, .int a4), (5, .ref (eA (kZ K) a5)), (6, .ref (eA (kZ K) a6)), (7, .int a7), (8, .int a8), (9, .int a9), (10, .int a10)] [.int x32, .int a10, .ref (eA (kZ K) a5)] s33
        refine Z_i2l hk dL_isRefined_75 ?_
        refine Z_goto hk (tgt := 85) dL_isRefined_76 (by decide) ?_
        refine Z_sub [0, 1, 2, 3, 4, 5, 6, 7, 8, 9] rfl ?_
        exact w_L_isRefined_85 hk hfl hnx hq hw cs ss (by omega) (by omega) F k27 hk27 (m_L_isRefined_53 F w k27 n) ih a0 a1 a2 a4 a5 a6 a7 a8 a9 a10 (x32.toInt64) a10 a5 ha0 ha5 ha6 ha5 s33 h
set_option maxRecDepth 100000 in
set_option maxHeartbeats 4000000 in
theorem w_L_isRefined_45 {K : zK} {w : Nat} (hk : zIs K RL cL_isRefined 15 wsL_isRefined (some .boolean) r_L_isRefined) (hfl : (kL K).stackTraces = false) (hnx : zNX K) {r0 : Int32} {τ0 : zST} (hq : zQG K (.inr (some (.int r0))) τ0) (hw : eN (kZ K) = (w + 2)) (cs ss : Nat) (hb1 : cs + 0 ≤ 20) (hb2 : ss + 0 ≤ 124) (F : Nat) (k27 : Nat → Int32 → Int64 → Int32 → Nat → Nat → Int32 → Int32 → Int32 → zST → Option (Int32 × zST)) (hk27 : ∀ (a0 : Nat) (a1 : Int32) (a2 : Int64) (a4 : Int32) (a5 : Nat) (a6 : Nat) (a7 : Int32) (a8 : Int32) (a9 : Int32) (ha0 : atCanonCote (kZ K) a0) (ha5 : aJ (kZ K) a5 8) (ha6 : aI (kZ K) a6 8) (σ : zST), k27 a0 a1 a2 a4 a5 a6 a7 a8 a9 σ = some (r0, τ0) → Z K cs ss 27 [(0, .ref (eA (kZ K) a0)), (1, .int a1), (2, .long a2), (4, .int a4), (5, .ref (eA (kZ K) a5)), (6, .ref (eA (kZ K) a6)), (7, .int a7), (8, .int a8), (9, .int a9)] [] σ) (a0 : Nat) (a1 : Int32) (a2 : Int64) (a4 : Int32) (a5 : Nat) (a6 : Nat) (a9 : Int32) (t0 : Int32) (ha0 : atCanonCote (kZ K) a0) (ha5 : aJ (kZ K) a5 8) (ha6 : aI (kZ K) a6 8) (σ : zST) (h : m_L_isRefined_45 F w k27 a0 a1 a2 a4 a5 a6 a9 t0 σ = some (r0, τ0)) : Z K cs ss 45 [(0, .ref (eA (kZ K) a0)), (1, .int a1), (2, .long a2), (4, .int a4), (5, .ref (eA (kZ K) a5)), (6, .ref (eA (kZ K) a6)), (9, .int a9)] [.int t0] σ := by
  unfold m_L_isRefined_45 at h
  refine Z_istore hk (lv' := [(7, .int t0), (0, .ref (eA (kZ K) a0)), (1, .int a1), (2, .long a2), (4, .int a4), (5, .ref (eA (kZ K) a5)), (6, .ref (eA (kZ K) a6)), (9, .int a9)]) dL_isRefined_45 (by decide) rfl ?_
  refine Z_iconst hk dL_isRefined_47 zc_iconst_0 ?_
  refine Z_istore hk (lv' := [(8, .int 0), (7, .int t0), (0, .ref (eA (kZ K) a0)), (1, .int a1), (2, .long a2), (4, .int a4), (5, .ref (eA (kZ K) a5)), (6, .ref (eA (kZ K) a6)), (9, .int a9)]) dL_isRefined_48 (by decide) rfl ?_
  refine Z_iconst hk dL_isRefined_50 zc_iconst_0 ?_
  refine Z_istore hk (lv' := [(10, .int 0), (8, .int 0), (7, .int t0), (0, .ref (eA (kZ K) a0)), (1, .int a1), (2, .long a2), (4, .int a4), (5, .ref (eA (kZ K) a5)), (6, .ref (eA (kZ K) a6)), (9, .int a9)]) dL_isRefined_51 (by decide) rfl ?_
  refine Z_sub [3, 4, 5, 6, 7, 8, 2, 1, 9, 0] rfl ?_
  exact w_L_isRefined_53 hk hfl hnx hq hw cs ss (by omega) (by omega) F k27 hk27 F a0 a1 a2 a4 a5 a6 t0 0 a9 0 ha0 ha5 ha6 σ h
set_option maxRecDepth 100000 in
set_option maxHeartbeats 4000000 in
theorem w_L_isRefined_387 {K : zK} {w : Nat} (hk : zIs K RL cL_isRefined 15 wsL_isRefined (some .boolean) r_L_isRefined) (hfl : (kL K).stackTraces = false) (hnx : zNX K) {r0 : Int32} {τ0 : zST} (hq : zQG K (.inr (some (.int r0))) τ0) (hw : eN (kZ K) = (w + 2)) (cs ss : Nat) (C S : Nat) (hr1 : cs + 0 ≤ C) (hr2 : ss + 0 ≤ S) (hb1 : cs + 0 ≤ 20) (hb2 : ss + 0 ≤ 124) (F : Nat) (k355 : Nat → Int32 → Int32 → Nat → Int32 → Int32 → zST → Option (Int32 × zST)) (hk355 : ∀ (a0 : Nat) (a1 : Int32) (a4 : Int32) (a6 : Nat) (a10 : Int32) (a11 : Int32) (ha0 : atCanonCote (kZ K) a0) (ha6 : aI (kZ K) a6 8) (σ : zST), k355 a0 a1 a4 a6 a10 a11 σ = some (r0, τ0) → Z K C S 355 [(0, .ref (eA (kZ K) a0)), (1, .int a1), (4, .int a4), (6, .ref (eA (kZ K) a6)), (10, .int a10), (11, .int a11)] [] σ) (a0 : Nat) (a1 : Int32) (a4 : Int32) (a6 : Nat) (a11 : Int32) (t0 : Int32) (ha0 : atCanonCote (kZ K) a0) (ha6 : aI (kZ K) a6 8) (σ : zST) (h : m_L_isRefined_387 F w k355 a0 a1 a4 a6 a11 t0 σ = some (r0, τ0)) : Z K cs ss 387 [(0, .ref (eA (kZ K) a0)), (1, .int a1), (4, .int a4), (6, .ref (eA (kZ K) a6)), (11, .int a11)] [.int t0] σ := by
  unfold m_L_isRefined_387 at h
  refine Z_istore hk (lv' := [(10, .int t0), (0, .ref (eA (kZ K) a0)), (1, .int a1), (4, .int a4), (6, .ref (eA (kZ K) a6)), (11, .int a11)]) dL_isRefined_387 (by decide) rfl ?_
  obtain ⟨x35, e36, h⟩ := nm_get h
  refine Z_iinc hk 5 (v := x35) (lv' := [(11, .int x35), (10, .int t0), (0, .ref (eA (kZ K) a0)), (1, .int a1), (4, .int a4), (6, .ref (eA (kZ K) a6))]) dL_isRefined_389 rfl (by rw [zc_iinc_1]; exact e36) (by decide) rfl ?_
  refine Z_goto hk (tgt := 355) dL_isRefined_392 (by decide) ?_
  refine Z_sub [2, 3, 4, 5, 1, 0] rfl ?_
  refine Z_widen (cs' := C) (ss' := S) (by omega) (by omega) ?_
  exact hk355 a0 a1 a4 a6 t0 x35 ha0 ha6 σ h
set_option maxRecDepth 100000 in
set_option maxHeartbeats 4000000 in
theorem w_L_isRefined_395 {K : zK} {w : Nat} (hk : zIs K RL cL_isRefined 15 wsL_isRefined (some .boolean) r_L_isRefined) (hfl : (kL K).stackTraces = false) (hnx : zNX K) {r0 : Int32} {τ0 : zST} (hq : zQG K (.inr (some (.int r0))) τ0) (hw : eN (kZ K) = (w + 2)) (cs ss : Nat) (hb1 : cs + 0 ≤ 20) (hb2 : ss + 0 ≤ 124) (F : Nat) (a10 : Int32) (σ : zST) (h : m_L_isRefined_395 F w a10 σ = some (r0, τ0)) : Z K cs ss 395 [(10, .int a10)] [] σ := by
  unfold m_L_isRefined_395 at h
  refine Z_iload hk 0 dL_isRefined_395 rfl ?_
  obtain ⟨hz, h⟩ := gd_some h
  cases h
  exact ZG_zret hk hz hq ⟨by show cs + 0 ≤ 20; omega, by show ss + 0 ≤ 124; omega⟩ dL_isRefined_397
set_option maxRecDepth 100000 in
set_option maxHeartbeats 4000000 in
theorem w_L_isRefined_355 {K : zK} {w : Nat} (hk : zIs K RL cL_isRefined 15 wsL_isRefined (some .boolean) r_L_isRefined) (hfl : (kL K).stackTraces = false) (hnx : zNX K) {r0 : Int32} {τ0 : zST} (hq : zQG K (.inr (some (.int r0))) τ0) (hw : eN (kZ K) = (w + 2)) (F : Nat) : ∀ (n : Nat) (cs ss : Nat) (hb1 : cs + 2 * n + 2 ≤ 20) (hb2 : ss + 12 * n + 12 ≤ 124) (a0 : Nat) (a1 : Int32) (a4 : Int32) (a6 : Nat) (a10 : Int32) (a11 : Int32) (ha0 : atCanonCote (kZ K) a0) (ha6 : aI (kZ K) a6 8) (σ : zST), m_L_isRefined_355 F w n a0 a1 a4 a6 a10 a11 σ = some (r0, τ0) → Z K cs ss 355 [(0, .ref (eA (kZ K) a0)), (1, .int a1), (4, .int a4), (6, .ref (eA (kZ K) a6)), (10, .int a10), (11, .int a11)] [] σ := by
  intro n
  induction n with
  | zero => intro cs ss hb1 hb2 a0 a1 a4 a6 a10 a11 ha0 ha6 σ h; cases h
  | succ n ih0 =>
    intro cs ss hb1 hb2 a0 a1 a4 a6 a10 a11 ha0 ha6 σ h
    have ih := ih0 (cs + 2) (ss + 12) (by omega) (by omega)
    rw [m_L_isRefined_355] at h
    refine Z_iload hk 5 dL_isRefined_355 rfl ?_
    refine Z_iload hk 2 dL_isRefined_357 rfl ?_
    refine Z_icmp_ge hk (tgt := 395) dL_isRefined_359 (by decide) (fun c18 => ?_) (fun c18 => ?_)
    · have h := if_yes h c18
      refine Z_sub [4] rfl ?_
      exact w_L_isRefined_395 hk hfl hnx hq hw cs ss (by omega) (by omega) F a10 σ h
    · have h := if_no h c18
      refine Z_iload hk 4 dL_isRefined_362 rfl ?_
      refine Z_if_eq hk (tgt := 395) dL_isRefined_364 (by decide) (fun c19 => ?_) (fun c19 => ?_)
      · have h := if_yes h c19
        refine Z_sub [4] rfl ?_
        exact w_L_isRefined_395 hk hfl hnx hq hw cs ss (by omega) (by omega) F a10 σ h
      · have h := if_no h c19
        refine Z_aload_n hk 0 dL_isRefined_367 rfl rfl ?_
        refine Z_iload_n hk 1 dL_isRefined_368 rfl rfl ?_
        refine Z_iload hk 5 dL_isRefined_369 rfl ?_
        obtain ⟨x20, s21, h22, h⟩ := br_ok h
        refine ZX_callV 2 hk [.int a1, .int a11] (c_X7_classOf hk.loc hk.inj hfl F a0 a1 a11 ha0 σ h22) gL_isRefined_X7_classOf rfl ⟨rfl, by decide +kernel, by decide +kernel, by decide +kernel⟩ ⟨Nat.le_of_ble_eq_true rfl, Nat.le_of_ble_eq_true rfl⟩ ha0.cell.1 (ha0.cell.2 _) rfl rfl rfl (Nat.le_of_ble_eq_true rfl) ⟨by show cs + 2 ≤ 20; omega, by show ss + 12 ≤ 124; omega⟩ dL_isRefined_371 (fun X hX => by cases hX) (fun v hv => ?_)
        cases hv
        show Z K (cs + 2) (ss + 12) 374 [(0, .ref (eA (kZ K) a0)), (1, .int a1), (4, .int a4), (6, .ref (eA (kZ K) a6)), (10, .int a10), (11, .int a11)] [.int x20] s21
        refine Z_aload hk 3 dL_isRefined_374 rfl ?_
        refine Z_iload hk 5 dL_isRefined_376 rfl ?_
        obtain ⟨i25, x23, e24, h⟩ := ldI_get h
        refine Z_iald hk ha6 i25 dL_isRefined_378 ?_
        refine Z_eqI e24 ?_
        refine Z_icmp_ne hk (tgt := 386) dL_isRefined_379 (by decide) (fun c26 => ?_) (fun c26 => ?_)
        · have h := if_yes h c26
          refine Z_iconst hk dL_isRefined_382 zc_iconst_1 ?_
          refine Z_goto hk (tgt := 387) dL_isRefined_383 (by decide) ?_
          refine Z_sub [0, 1, 2, 3, 5] rfl ?_
          exact w_L_isRefined_387 hk hfl hnx hq hw (cs + 2) (ss + 12) (cs + 2) (ss + 12) (by omega) (by omega) (by omega) (by omega) F (m_L_isRefined_355 F w n) ih a0 a1 a4 a6 a11 1 ha0 ha6 s21 h
        · have h := if_no h c26
          refine Z_iconst hk dL_isRefined_386 zc_iconst_0 ?_
          refine Z_sub [0, 1, 2, 3, 5] rfl ?_
          exact w_L_isRefined_387 hk hfl hnx hq hw (cs + 2) (ss + 12) (cs + 2) (ss + 12) (by omega) (by omega) (by omega) (by omega) F (m_L_isRefined_355 F w n) ih a0 a1 a4 a6 a11 0 ha0 ha6 s21 h
set_option maxRecDepth 100000 in
set_option maxHeartbeats 4000000 in
theorem w_L_isRefined_350 {K : zK} {w : Nat} (hk : zIs K RL cL_isRefined 15 wsL_isRefined (some .boolean) r_L_isRefined) (hfl : (kL K).stackTraces = false) (hnx : zNX K) {r0 : Int32} {τ0 : zST} (hq : zQG K (.inr (some (.int r0))) τ0) (hw : eN (kZ K) = (w + 2)) (cs ss : Nat) (hb1 : cs + 16 ≤ 20) (hb2 : ss + 96 ≤ 124) (F : Nat) (a0 : Nat) (a1 : Int32) (a4 : Int32) (a6 : Nat) (t0 : Int32) (ha0 : atCanonCote (kZ K) a0) (ha6 : aI (kZ K) a6 8) (σ : zST) (h : m_L_isRefined_350 F w a0 a1 a4 a6 t0 σ = some (r0, τ0)) : Z K cs ss 350 [(0, .ref (eA (kZ K) a0)), (1, .int a1), (4, .int a4), (6, .ref (eA (kZ K) a6))] [.int t0] σ := by
  unfold m_L_isRefined_350 at h
  refine Z_istore hk (lv' := [(10, .int t0), (0, .ref (eA (kZ K) a0)), (1, .int a1), (4, .int a4), (6, .ref (eA (kZ K) a6))]) dL_isRefined_350 (by decide) rfl ?_
  refine Z_iconst hk dL_isRefined_352 zc_iconst_0 ?_
  refine Z_istore hk (lv' := [(11, .int 0), (10, .int t0), (0, .ref (eA (kZ K) a0)), (1, .int a1), (4, .int a4), (6, .ref (eA (kZ K) a6))]) dL_isRefined_353 (by decide) rfl ?_
  refine Z_sub [2, 3, 4, 5, 1, 0] rfl ?_
  exact w_L_isRefined_355 hk hfl hnx hq hw F 7 cs ss (by omega) (by omega) a0 a1 a4 a6 t0 0 ha0 ha6 σ h
set_option maxRecDepth 100000 in
set_option maxHeartbeats 4000000 in
theorem w_L_isRefined_349 {K : zK} {w : Nat} (hk : zIs K RL cL_isRefined 15 wsL_isRefined (some .boolean) r_L_isRefined) (hfl : (kL K).stackTraces = false) (hnx : zNX K) {r0 : Int32} {τ0 : zST} (hq : zQG K (.inr (some (.int r0))) τ0) (hw : eN (kZ K) = (w + 2)) (cs ss : Nat) (hb1 : cs + 16 ≤ 20) (hb2 : ss + 96 ≤ 124) (F : Nat) (a0 : Nat) (a1 : Int32) (a4 : Int32) (a6 : Nat) (ha0 : atCanonCote (kZ K) a0) (ha6 : aI (kZ K) a6 8) (σ : zST) (h : m_L_isRefined_349 F w a0 a1 a4 a6 σ = some (r0, τ0)) : Z K cs ss 349 [(0, .ref (eA (kZ K) a0)), (1, .int a1), (4, .int a4), (6, .ref (eA (kZ K) a6))] [] σ := by
  unfold m_L_isRefined_349 at h
  refine Z_iconst hk dL_isRefined_349 zc_iconst_0 ?_
  refine Z_sub [0, 1, 2, 3] rfl ?_
  exact w_L_isRefined_350 hk hfl hnx hq hw cs ss (by omega) (by omega) F a0 a1 a4 a6 0 ha0 ha6 σ h
set_option maxRecDepth 100000 in
set_option maxHeartbeats 4000000 in
theorem w_L_isRefined_27 {K : zK} {w : Nat} (hk : zIs K RL cL_isRefined 15 wsL_isRefined (some .boolean) r_L_isRefined) (hfl : (kL K).stackTraces = false) (hnx : zNX K) {r0 : Int32} {τ0 : zST} (hq : zQG K (.inr (some (.int r0))) τ0) (hw : eN (kZ K) = (w + 2)) (cs ss : Nat) (hb1 : cs + 18 ≤ 20) (hb2 : ss + 108 ≤ 124) (F : Nat) : ∀ (n : Nat) (a0 : Nat) (a1 : Int32) (a2 : Int64) (a4 : Int32) (a5 : Nat) (a6 : Nat) (a7 : Int32) (a8 : Int32) (a9 : Int32) (ha0 : atCanonCote (kZ K) a0) (ha5 : aJ (kZ K) a5 8) (ha6 : aI (kZ K) a6 8) (σ : zST), m_L_isRefined_27 F w n a0 a1 a2 a4 a5 a6 a7 a8 a9 σ = some (r0, τ0) → Z K cs ss 27 [(0, .ref (eA (kZ K) a0)), (1, .int a1), (2, .long a2), (4, .int a4), (5, .ref (eA (kZ K) a5)), (6, .ref (eA (kZ K) a6)), (7, .int a7), (8, .int a8), (9, .int a9)] [] σ := by
  intro n
  induction n with
  | zero => intro a0 a1 a2 a4 a5 a6 a7 a8 a9 ha0 ha5 ha6 σ h; cases h
  | succ n ih =>
    intro a0 a1 a2 a4 a5 a6 a7 a8 a9 ha0 ha5 ha6 σ h
    rw [m_L_isRefined_27] at h
    refine Z_iload hk 7 dL_isRefined_27 rfl ?_
    refine Z_iload hk 6 dL_isRefined_29 rfl ?_
    refine Z_icmp_le hk (tgt := 325) dL_isRefined_31 (by decide) (fun c8 => ?_) (fun c8 => ?_)
    · have h := if_yes h c8
      refine Z_aload_n hk 0 dL_isRefined_325 rfl rfl ?_
      refine Z_iload_n hk 1 dL_isRefined_326 rfl rfl ?_
      obtain ⟨x9, s10, h11, h⟩ := br_ok h
      refine ZX_callV 1 hk [.int a1] (c_X7_classes hk.loc hk.inj hfl F a0 a1 ha0 σ h11) gL_isRefined_X7_classes rfl ⟨rfl, by decide +kernel, by decide +kernel, by decide +kernel⟩ ⟨Nat.le_of_ble_eq_true rfl, Nat.le_of_ble_eq_true rfl⟩ ha0.cell.1 (ha0.cell.2 _) rfl rfl rfl (Nat.le_of_ble_eq_true rfl) ⟨by show cs + 1 ≤ 20; omega, by show ss + 6 ≤ 124; omega⟩ dL_isRefined_327 (fun X hX => by cases hX) (fun v hv => ?_)
      cases hv
      show Z K (cs + 1) (ss + 6) 330 [(0, .ref (eA (kZ K) a0)), (1, .int a1), (2, .long a2), (4, .int a4), (5, .ref (eA (kZ K) a5)), (6, .ref (eA (kZ K) a6)), (7, .int a7), (8, .int a8), (9, .int a9)] [.int x9] s10
      refine Z_iload hk 7 dL_isRefined_330 rfl ?_
      refine Z_icmp_ne hk (tgt := 349) dL_isRefined_332 (by decide) (fun c12 => ?_) (fun c12 => ?_)
      · have h := if_yes h c12
        refine Z_aload_n hk 0 dL_isRefined_335 rfl rfl ?_
        refine Z_iload_n hk 1 dL_isRefined_336 rfl rfl ?_
        obtain ⟨x13, s14, h15, h⟩ := br_ok h
        refine ZX_callV 1 hk [.int a1] (c_X7_rounds hk.loc hk.inj hfl F a0 a1 ha0 s10 h15) gL_isRefined_X7_rounds rfl ⟨rfl, by decide +kernel, by decide +kernel, by decide +kernel⟩ ⟨Nat.le_of_ble_eq_true rfl, Nat.le_of_ble_eq_true rfl⟩ ha0.cell.1 (ha0.cell.2 _) rfl rfl rfl (Nat.le_of_ble_eq_true rfl) ⟨by show (cs + 1) + 1 ≤ 20; omega, by show (ss + 6) + 6 ≤ 124; omega⟩ dL_isRefined_337 (fun X hX => by cases hX) (fun v hv => ?_)
        cases hv
        show Z K (cs + 2) (ss + 12) 340 [(0, .ref (eA (kZ K) a0)), (1, .int a1), (2, .long a2), (4, .int a4), (5, .ref (eA (kZ K) a5)), (6, .ref (eA (kZ K) a6)), (7, .int a7), (8, .int a8), (9, .int a9)] [.int x13] s14
        refine Z_iload hk 8 dL_isRefined_340 rfl ?_
        refine Z_icmp_ne hk (tgt := 349) dL_isRefined_342 (by decide) (fun c16 => ?_) (fun c16 => ?_)
        · have h := if_yes h c16
          refine Z_iconst hk dL_isRefined_345 zc_iconst_1 ?_
          refine Z_goto hk (tgt := 350) dL_isRefined_346 (by decide) ?_
          refine Z_sub [0, 1, 3, 5] rfl ?_
          exact w_L_isRefined_350 hk hfl hnx hq hw (cs + 2) (ss + 12) (by omega) (by omega) F a0 a1 a4 a6 1 ha0 ha6 s14 h
        · have h := if_no h c16
          refine Z_sub [0, 1, 3, 5] rfl ?_
          exact w_L_isRefined_349 hk hfl hnx hq hw (cs + 2) (ss + 12) (by omega) (by omega) F a0 a1 a4 a6 ha0 ha6 s14 h
      · have h := if_no h c12
        refine Z_sub [0, 1, 3, 5] rfl ?_
        exact w_L_isRefined_349 hk hfl hnx hq hw (cs + 1) (ss + 6) (by omega) (by omega) F a0 a1 a4 a6 ha0 ha6 s10 h
    · have h := if_no h c8
      refine Z_iload hk 8 dL_isRefined_34 rfl ?_
      refine Z_if_ge hk (tgt := 43) dL_isRefined_36 (by decide) (fun c17 => ?_) (fun c17 => ?_)
      · have h := if_yes h c17
        refine Z_iload hk 7 dL_isRefined_43 rfl ?_
        refine Z_sub [0, 1, 2, 3, 4, 5, 8] rfl ?_
        exact w_L_isRefined_45 hk hfl hnx hq hw cs ss (by omega) (by omega) F (m_L_isRefined_27 F w n) ih a0 a1 a2 a4 a5 a6 a9 a8 ha0 ha5 ha6 σ h
      · have h := if_no h c17
        refine Z_iconst hk dL_isRefined_39 zc_iconst_0 ?_
        refine Z_goto hk (tgt := 45) dL_isRefined_40 (by decide) ?_
        refine Z_sub [0, 1, 2, 3, 4, 5, 8] rfl ?_
        exact w_L_isRefined_45 hk hfl hnx hq hw cs ss (by omega) (by omega) F (m_L_isRefined_27 F w n) ih a0 a1 a2 a4 a5 a6 a9 0 ha0 ha5 ha6 σ h
set_option maxRecDepth 100000 in
set_option maxHeartbeats 4000000 in
theorem w_L_isRefined_16 {K : zK} {w : Nat} (hk : zIs K RL cL_isRefined 15 wsL_isRefined (some .boolean) r_L_isRefined) (hfl : (kL K).stackTraces = false) (hnx : zNX K) {r0 : Int32} {τ0 : zST} (hq : zQG K (.inr (some (.int r0))) τ0) (hw : eN (kZ K) = (w + 2)) (cs ss : Nat) (hb1 : cs + 18 ≤ 20) (hb2 : ss + 108 ≤ 124) (F : Nat) (a0 : Nat) (a1 : Int32) (a2 : Int64) (a4 : Int32) (a5 : Nat) (t0 : Nat) (ha0 : atCanonCote (kZ K) a0) (ha5 : aJ (kZ K) a5 8) (ht0 : aI (kZ K) t0 8) (σ : zST) (h : m_L_isRefined_16 F w a0 a1 a2 a4 a5 t0 σ = some (r0, τ0)) : Z K cs ss 16 [(0, .ref (eA (kZ K) a0)), (1, .int a1), (2, .long a2), (4, .int a4), (5, .ref (eA (kZ K) a5))] [.ref (eA (kZ K) t0)] σ := by
  unfold m_L_isRefined_16 at h
  refine Z_astore hk (lv' := [(6, .ref (eA (kZ K) t0)), (0, .ref (eA (kZ K) a0)), (1, .int a1), (2, .long a2), (4, .int a4), (5, .ref (eA (kZ K) a5))]) dL_isRefined_16 (by decide) rfl ?_
  refine Z_iconst hk dL_isRefined_18 zc_iconst_0 ?_
  refine Z_istore hk (lv' := [(7, .int 0), (6, .ref (eA (kZ K) t0)), (0, .ref (eA (kZ K) a0)), (1, .int a1), (2, .long a2), (4, .int a4), (5, .ref (eA (kZ K) a5))]) dL_isRefined_19 (by decide) rfl ?_
  refine Z_iconst hk dL_isRefined_21 zc_iconst_1 ?_
  refine Z_istore hk (lv' := [(8, .int 1), (7, .int 0), (6, .ref (eA (kZ K) t0)), (0, .ref (eA (kZ K) a0)), (1, .int a1), (2, .long a2), (4, .int a4), (5, .ref (eA (kZ K) a5))]) dL_isRefined_22 (by decide) rfl ?_
  refine Z_iconst hk dL_isRefined_24 zc_iconst_m1 ?_
  refine Z_istore hk (lv' := [(9, .int (-1)), (8, .int 1), (7, .int 0), (6, .ref (eA (kZ K) t0)), (0, .ref (eA (kZ K) a0)), (1, .int a1), (2, .long a2), (4, .int a4), (5, .ref (eA (kZ K) a5))]) dL_isRefined_25 (by decide) rfl ?_
  refine Z_sub [4, 5, 6, 7, 8, 3, 2, 1, 0] rfl ?_
  exact w_L_isRefined_27 hk hfl hnx hq hw cs ss (by omega) (by omega) F F a0 a1 a2 a4 a5 t0 0 1 (-1) ha0 ha5 ht0 σ h
set_option maxRecDepth 100000 in
set_option maxHeartbeats 4000000 in
theorem w_L_isRefined_10 {K : zK} {w : Nat} (hk : zIs K RL cL_isRefined 15 wsL_isRefined (some .boolean) r_L_isRefined) (hfl : (kL K).stackTraces = false) (hnx : zNX K) {r0 : Int32} {τ0 : zST} (hq : zQG K (.inr (some (.int r0))) τ0) (hw : eN (kZ K) = (w + 1)) (cs ss : Nat) (hb1 : cs + 19 ≤ 20) (hb2 : ss + 116 ≤ 124) (F : Nat) (a0 : Nat) (a1 : Int32) (a2 : Int64) (a4 : Int32) (t0 : Nat) (ha0 : atCanonCote (kZ K) a0) (ht0 : aJ (kZ K) t0 8) (σ : zST) (h : m_L_isRefined_10 F w a0 a1 a2 a4 t0 σ = some (r0, τ0)) : Z K cs ss 10 [(0, .ref (eA (kZ K) a0)), (1, .int a1), (2, .long a2), (4, .int a4)] [.ref (eA (kZ K) t0)] σ := by
  unfold m_L_isRefined_10 at h
  refine Z_astore hk (lv' := [(5, .ref (eA (kZ K) t0)), (0, .ref (eA (kZ K) a0)), (1, .int a1), (2, .long a2), (4, .int a4)]) dL_isRefined_10 (by decide) rfl ?_
  refine Z_bipush hk dL_isRefined_12 zc_bipush_8 ?_
  obtain ⟨s6, e7, h⟩ := nm_get h
  refine Z_newI hk hw (N := 8) wd_L_isRefined_1 (by decide) (by decide +kernel) (Nat.le_of_ble_eq_true rfl) ⟨by show cs + 1 ≤ 20; omega, by show ss + 8 ≤ 124; omega⟩ dL_isRefined_14 (fun K1 hk1 hX1 hw1 haN hl1 hnx1 hq1 => ?_)
  rw [← hX1.ad ha0.cell.1]
  rw [← hX1.ad ht0.1]
  replace ha0 := hX1.atCanonCote ha0
  replace ht0 := hX1.j ht0
  refine Z_eqS e7 ?_
  rw [← hl1] at hfl
  have hnx := hnx1 hnx
  have hq := hq1 _ _ hq
  have hk := hk1
  have hw : eN (kZ K1) = (w + 2) := hw1
  refine Z_sub [1, 2, 3, 4, 0] rfl ?_
  exact w_L_isRefined_16 hk hfl hnx hq hw (cs + 1) (ss + 8) (by omega) (by omega) F a0 a1 a2 a4 t0 (w + 1) ha0 ht0 haN s6 h
set_option maxRecDepth 100000 in
set_option maxHeartbeats 4000000 in
theorem w_L_isRefined {K : zK} {w : Nat} (hk : zIs K RL cL_isRefined 15 wsL_isRefined (some .boolean) r_L_isRefined) (hfl : (kL K).stackTraces = false) (hnx : zNX K) {r0 : Int32} {τ0 : zST} (hq : zQG K (.inr (some (.int r0))) τ0) (hw : eN (kZ K) = w) (F : Nat) (a0 : Nat) (a1 : Int32) (a2 : Int64) (ha0 : atCanonCote (kZ K) a0) (σ : zST) (h : m_L_isRefined F w a0 a1 a2 σ = some (r0, τ0)) : Z K 0 0 0 [(0, .ref (eA (kZ K) a0)), (1, .int a1), (2, .long a2)] [] σ := by
  unfold m_L_isRefined at h
  refine Z_lload_n hk 2 dL_isRefined_0 rfl rfl ?_
  obtain ⟨x1, s2, h3, h⟩ := bd_ok h
  refine Z_callT 1 hk [.long a2] (c_L_size hk.loc hk.inj F a2 σ h3) gL_isRefined_L_size rfl ⟨rfl, rfl⟩ (by decide +kernel) ⟨Nat.le_of_ble_eq_true rfl, Nat.le_of_ble_eq_true rfl⟩ rfl rfl (Nat.le_of_ble_eq_true rfl) ⟨by show 0 + 0 ≤ 20; omega, by show 0 + 0 ≤ 124; omega⟩ dL_isRefined_1 ?_
  show Z K 0 0 4 [(0, .ref (eA (kZ K) a0)), (1, .int a1), (2, .long a2)] [.int x1] s2
  refine Z_istore hk (lv' := [(4, .int x1), (0, .ref (eA (kZ K) a0)), (1, .int a1), (2, .long a2)]) dL_isRefined_4 (by decide) rfl ?_
  refine Z_bipush hk dL_isRefined_6 zc_bipush_8 ?_
  obtain ⟨s4, e5, h⟩ := nm_get h
  refine Z_newJ hk hw (N := 8) wd_L_isRefined_0 (by decide) (by decide +kernel) (Nat.le_of_ble_eq_true rfl) ⟨by show 0 + 1 ≤ 20; omega, by show 0 + 8 ≤ 124; omega⟩ dL_isRefined_8 (fun K1 hk1 hX1 hw1 haN hl1 hnx1 hq1 => ?_)
  rw [← hX1.ad ha0.cell.1]
  replace ha0 := hX1.atCanonCote ha0
  refine Z_eqS e5 ?_
  rw [← hl1] at hfl
  have hnx := hnx1 hnx
  have hq := hq1 _ _ hq
  have hk := hk1
  have hw : eN (kZ K1) = (w + 1) := hw1
  refine Z_sub [1, 2, 3, 0] rfl ?_
  exact w_L_isRefined_10 hk hfl hnx hq hw 1 8 (by omega) (by omega) F a0 a1 a2 x1 w ha0 haN s4 h
theorem c_L_isRefined {l : Launch} {E : zE} (hL : eL E) (hJ : eJ E) (hfl : l.stackTraces = false) (F w : Nat) (hw : eN E = w) (a0 : Nat) (a1 : Int32) (a2 : Int64) (ha0 : atCanonCote E a0) (σ : zST) {r0 : Int32} {τ0 : zST} (h : m_L_isRefined F w a0 a1 a2 σ = some (r0, τ0)) : CtX l yL_isRefined wsL_isRefined r_L_isRefined E [.ref (eA E a0), .int a1, .long a2] σ (.inr (some (.int r0))) τ0 := by
  refine CtX_of (by decide) rfl hL hJ (Nat.le_of_ble_eq_true rfl) (fun K hE hl hk hnx hq => ?_)
  subst hE
  subst hl
  exact w_L_isRefined hk hfl hnx (zQG.of hq) hw F a0 a1 a2 ha0 σ h
end
