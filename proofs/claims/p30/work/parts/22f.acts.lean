-- CanonCoteLaw.acts (LCanonCote;[JIII)Z
section
theorem dL_acts_0 : decode cL_acts 0 = .ok (.aload_n 1, 1) := by decide +kernel
theorem dL_acts_1 : decode cL_acts 1 = .ok (.iload_n 3, 1) := by decide +kernel
theorem dL_acts_2 : decode cL_acts 2 = .ok (.laload, 1) := by decide +kernel
theorem dL_acts_3 : decode cL_acts 3 = .ok (.lstore 5, 2) := by decide +kernel
theorem dL_acts_5 : decode cL_acts 5 = .ok (.lload 5, 2) := by decide +kernel
theorem dL_acts_7 : decode cL_acts 7 = .ok (.invokestatic 23, 3) := by decide +kernel
theorem dL_acts_10 : decode cL_acts 10 = .ok (.istore 7, 2) := by decide +kernel
theorem dL_acts_12 : decode cL_acts 12 = .ok (.iload 4, 2) := by decide +kernel
theorem dL_acts_14 : decode cL_acts 14 = .ok (.iload 7, 2) := by decide +kernel
theorem dL_acts_16 : decode cL_acts 16 = .ok (.irem, 1) := by decide +kernel
theorem dL_acts_17 : decode cL_acts 17 = .ok (.istore 8, 2) := by decide +kernel
theorem dL_acts_19 : decode cL_acts 19 = .ok (.iload 4, 2) := by decide +kernel
theorem dL_acts_21 : decode cL_acts 21 = .ok (.bipush 8, 2) := by decide +kernel
theorem dL_acts_23 : decode cL_acts 23 = .ok (.idiv, 1) := by decide +kernel
theorem dL_acts_24 : decode cL_acts 24 = .ok (.iload 7, 2) := by decide +kernel
theorem dL_acts_26 : decode cL_acts 26 = .ok (.irem, 1) := by decide +kernel
theorem dL_acts_27 : decode cL_acts 27 = .ok (.istore 9, 2) := by decide +kernel
theorem dL_acts_29 : decode cL_acts 29 = .ok (.iload_n 2, 1) := by decide +kernel
theorem dL_acts_30 : decode cL_acts 30 = .ok (.ifCond .ne 38, 3) := by decide +kernel
theorem dL_acts_33 : decode cL_acts 33 = .ok (.aload_n 1, 1) := by decide +kernel
theorem dL_acts_34 : decode cL_acts 34 = .ok (.iload_n 3, 1) := by decide +kernel
theorem dL_acts_35 : decode cL_acts 35 = .ok (.iconst 1, 1) := by decide +kernel
theorem dL_acts_36 : decode cL_acts 36 = .ok (.iload 4, 2) := by decide +kernel
theorem dL_acts_38 : decode cL_acts 38 = .ok (.iconst 5, 1) := by decide +kernel
theorem dL_acts_39 : decode cL_acts 39 = .ok (.irem, 1) := by decide +kernel
theorem dL_acts_40 : decode cL_acts 40 = .ok (.iadd, 1) := by decide +kernel
theorem dL_acts_41 : decode cL_acts 41 = .ok (.i2l, 1) := by decide +kernel
theorem dL_acts_42 : decode cL_acts 42 = .ok (.bipush 52, 2) := by decide +kernel
theorem dL_acts_44 : decode cL_acts 44 = .ok (.lshl, 1) := by decide +kernel
theorem dL_acts_45 : decode cL_acts 45 = .ok (.lastore, 1) := by decide +kernel
theorem dL_acts_46 : decode cL_acts 46 = .ok (.aload_n 0, 1) := by decide +kernel
theorem dL_acts_47 : decode cL_acts 47 = .ok (.iload_n 3, 1) := by decide +kernel
theorem dL_acts_48 : decode cL_acts 48 = .ok (.iconst 1, 1) := by decide +kernel
theorem dL_acts_49 : decode cL_acts 49 = .ok (.iload 4, 2) := by decide +kernel
theorem dL_acts_51 : decode cL_acts 51 = .ok (.iconst 5, 1) := by decide +kernel
theorem dL_acts_52 : decode cL_acts 52 = .ok (.irem, 1) := by decide +kernel
theorem dL_acts_53 : decode cL_acts 53 = .ok (.iadd, 1) := by decide +kernel
theorem dL_acts_54 : decode cL_acts 54 = .ok (.invokevirtual 109, 3) := by decide +kernel
theorem dL_acts_57 : decode cL_acts 57 = .ok (.iload 7, 2) := by decide +kernel
theorem dL_acts_59 : decode cL_acts 59 = .ok (.if_icmp .ne 7, 3) := by decide +kernel
theorem dL_acts_62 : decode cL_acts 62 = .ok (.iconst 1, 1) := by decide +kernel
theorem dL_acts_63 : decode cL_acts 63 = .ok (.goto 4, 3) := by decide +kernel
theorem dL_acts_66 : decode cL_acts 66 = .ok (.iconst 0, 1) := by decide +kernel
theorem dL_acts_67 : decode cL_acts 67 = .ok (.ireturn, 1) := by decide +kernel
theorem dL_acts_68 : decode cL_acts 68 = .ok (.iload_n 2, 1) := by decide +kernel
theorem dL_acts_69 : decode cL_acts 69 = .ok (.iconst 1, 1) := by decide +kernel
theorem dL_acts_70 : decode cL_acts 70 = .ok (.if_icmp .ne 50, 3) := by decide +kernel
theorem dL_acts_73 : decode cL_acts 73 = .ok (.aload_n 1, 1) := by decide +kernel
theorem dL_acts_74 : decode cL_acts 74 = .ok (.iload_n 3, 1) := by decide +kernel
theorem dL_acts_75 : decode cL_acts 75 = .ok (.lload 5, 2) := by decide +kernel
theorem dL_acts_77 : decode cL_acts 77 = .ok (.iload 8, 2) := by decide +kernel
theorem dL_acts_79 : decode cL_acts 79 = .ok (.iload 4, 2) := by decide +kernel
theorem dL_acts_81 : decode cL_acts 81 = .ok (.bipush 64, 2) := by decide +kernel
theorem dL_acts_83 : decode cL_acts 83 = .ok (.idiv, 1) := by decide +kernel
theorem dL_acts_84 : decode cL_acts 84 = .ok (.iconst 3, 1) := by decide +kernel
theorem dL_acts_85 : decode cL_acts 85 = .ok (.irem, 1) := by decide +kernel
theorem dL_acts_86 : decode cL_acts 86 = .ok (.invokestatic 35, 3) := by decide +kernel
theorem dL_acts_89 : decode cL_acts 89 = .ok (.lastore, 1) := by decide +kernel
theorem dL_acts_90 : decode cL_acts 90 = .ok (.aload_n 0, 1) := by decide +kernel
theorem dL_acts_91 : decode cL_acts 91 = .ok (.iload_n 3, 1) := by decide +kernel
theorem dL_acts_92 : decode cL_acts 92 = .ok (.iload 8, 2) := by decide +kernel
theorem dL_acts_94 : decode cL_acts 94 = .ok (.iload 4, 2) := by decide +kernel
theorem dL_acts_96 : decode cL_acts 96 = .ok (.bipush 64, 2) := by decide +kernel
theorem dL_acts_98 : decode cL_acts 98 = .ok (.idiv, 1) := by decide +kernel
theorem dL_acts_99 : decode cL_acts 99 = .ok (.iconst 3, 1) := by decide +kernel
theorem dL_acts_100 : decode cL_acts 100 = .ok (.irem, 1) := by decide +kernel
theorem dL_acts_101 : decode cL_acts 101 = .ok (.invokevirtual 112, 3) := by decide +kernel
theorem dL_acts_104 : decode cL_acts 104 = .ok (.lload 5, 2) := by decide +kernel
theorem dL_acts_106 : decode cL_acts 106 = .ok (.iload 8, 2) := by decide +kernel
theorem dL_acts_108 : decode cL_acts 108 = .ok (.invokestatic 31, 3) := by decide +kernel
theorem dL_acts_111 : decode cL_acts 111 = .ok (.if_icmp .ne 7, 3) := by decide +kernel
theorem dL_acts_114 : decode cL_acts 114 = .ok (.iconst 1, 1) := by decide +kernel
theorem dL_acts_115 : decode cL_acts 115 = .ok (.goto 4, 3) := by decide +kernel
theorem dL_acts_118 : decode cL_acts 118 = .ok (.iconst 0, 1) := by decide +kernel
theorem dL_acts_119 : decode cL_acts 119 = .ok (.ireturn, 1) := by decide +kernel
theorem dL_acts_120 : decode cL_acts 120 = .ok (.iload_n 2, 1) := by decide +kernel
theorem dL_acts_121 : decode cL_acts 121 = .ok (.iconst 2, 1) := by decide +kernel
theorem dL_acts_122 : decode cL_acts 122 = .ok (.if_icmp .ne 203, 3) := by decide +kernel
theorem dL_acts_125 : decode cL_acts 125 = .ok (.iconst 0, 1) := by decide +kernel
theorem dL_acts_126 : decode cL_acts 126 = .ok (.istore 10, 2) := by decide +kernel
theorem dL_acts_128 : decode cL_acts 128 = .ok (.iload 10, 2) := by decide +kernel
theorem dL_acts_130 : decode cL_acts 130 = .ok (.iload 7, 2) := by decide +kernel
theorem dL_acts_132 : decode cL_acts 132 = .ok (.if_icmp .ge 182, 3) := by decide +kernel
theorem dL_acts_135 : decode cL_acts 135 = .ok (.iconst 0, 1) := by decide +kernel
theorem dL_acts_136 : decode cL_acts 136 = .ok (.istore 11, 2) := by decide +kernel
theorem dL_acts_138 : decode cL_acts 138 = .ok (.iload 11, 2) := by decide +kernel
theorem dL_acts_140 : decode cL_acts 140 = .ok (.iload 7, 2) := by decide +kernel
theorem dL_acts_142 : decode cL_acts 142 = .ok (.if_icmp .ge 124, 3) := by decide +kernel
theorem dL_acts_145 : decode cL_acts 145 = .ok (.iload 10, 2) := by decide +kernel
theorem dL_acts_147 : decode cL_acts 147 = .ok (.iload 8, 2) := by decide +kernel
theorem dL_acts_149 : decode cL_acts 149 = .ok (.if_icmp .ne 8, 3) := by decide +kernel
theorem dL_acts_152 : decode cL_acts 152 = .ok (.iload 9, 2) := by decide +kernel
theorem dL_acts_154 : decode cL_acts 154 = .ok (.goto 17, 3) := by decide +kernel
theorem dL_acts_157 : decode cL_acts 157 = .ok (.iload 10, 2) := by decide +kernel
theorem dL_acts_159 : decode cL_acts 159 = .ok (.iload 9, 2) := by decide +kernel
theorem dL_acts_161 : decode cL_acts 161 = .ok (.if_icmp .ne 8, 3) := by decide +kernel
theorem dL_acts_164 : decode cL_acts 164 = .ok (.iload 8, 2) := by decide +kernel
theorem dL_acts_166 : decode cL_acts 166 = .ok (.goto 5, 3) := by decide +kernel
theorem dL_acts_169 : decode cL_acts 169 = .ok (.iload 10, 2) := by decide +kernel
theorem dL_acts_171 : decode cL_acts 171 = .ok (.istore 12, 2) := by decide +kernel
theorem dL_acts_173 : decode cL_acts 173 = .ok (.iload 11, 2) := by decide +kernel
theorem dL_acts_175 : decode cL_acts 175 = .ok (.iload 8, 2) := by decide +kernel
theorem dL_acts_177 : decode cL_acts 177 = .ok (.if_icmp .ne 8, 3) := by decide +kernel
theorem dL_acts_180 : decode cL_acts 180 = .ok (.iload 9, 2) := by decide +kernel
theorem dL_acts_182 : decode cL_acts 182 = .ok (.goto 17, 3) := by decide +kernel
theorem dL_acts_185 : decode cL_acts 185 = .ok (.iload 11, 2) := by decide +kernel
theorem dL_acts_187 : decode cL_acts 187 = .ok (.iload 9, 2) := by decide +kernel
theorem dL_acts_189 : decode cL_acts 189 = .ok (.if_icmp .ne 8, 3) := by decide +kernel
theorem dL_acts_192 : decode cL_acts 192 = .ok (.iload 8, 2) := by decide +kernel
theorem dL_acts_194 : decode cL_acts 194 = .ok (.goto 5, 3) := by decide +kernel
theorem dL_acts_197 : decode cL_acts 197 = .ok (.iload 11, 2) := by decide +kernel
theorem dL_acts_199 : decode cL_acts 199 = .ok (.istore 13, 2) := by decide +kernel
theorem dL_acts_201 : decode cL_acts 201 = .ok (.aload_n 1, 1) := by decide +kernel
theorem dL_acts_202 : decode cL_acts 202 = .ok (.iload_n 3, 1) := by decide +kernel
theorem dL_acts_203 : decode cL_acts 203 = .ok (.iload 11, 2) := by decide +kernel
theorem dL_acts_205 : decode cL_acts 205 = .ok (.iload 10, 2) := by decide +kernel
theorem dL_acts_207 : decode cL_acts 207 = .ok (.if_icmp .ge 49, 3) := by decide +kernel
theorem dL_acts_210 : decode cL_acts 210 = .ok (.aload_n 1, 1) := by decide +kernel
theorem dL_acts_211 : decode cL_acts 211 = .ok (.iload_n 3, 1) := by decide +kernel
theorem dL_acts_212 : decode cL_acts 212 = .ok (.laload, 1) := by decide +kernel
theorem dL_acts_213 : decode cL_acts 213 = .ok (.lconst 1, 1) := by decide +kernel
theorem dL_acts_214 : decode cL_acts 214 = .ok (.iload 10, 2) := by decide +kernel
theorem dL_acts_216 : decode cL_acts 216 = .ok (.iload 11, 2) := by decide +kernel
theorem dL_acts_218 : decode cL_acts 218 = .ok (.invokestatic 9, 3) := by decide +kernel
theorem dL_acts_221 : decode cL_acts 221 = .ok (.lshl, 1) := by decide +kernel
theorem dL_acts_222 : decode cL_acts 222 = .ok (.ldc2_w 17, 3) := by decide +kernel
theorem dL_acts_225 : decode cL_acts 225 = .ok (.lxor, 1) := by decide +kernel
theorem dL_acts_226 : decode cL_acts 226 = .ok (.land, 1) := by decide +kernel
theorem dL_acts_227 : decode cL_acts 227 = .ok (.lload 5, 2) := by decide +kernel
theorem dL_acts_229 : decode cL_acts 229 = .ok (.iload 12, 2) := by decide +kernel
theorem dL_acts_231 : decode cL_acts 231 = .ok (.iload 13, 2) := by decide +kernel
theorem dL_acts_233 : decode cL_acts 233 = .ok (.invokestatic 39, 3) := by decide +kernel
theorem dL_acts_236 : decode cL_acts 236 = .ok (.ifCond .eq 15, 3) := by decide +kernel
theorem dL_acts_239 : decode cL_acts 239 = .ok (.lconst 1, 1) := by decide +kernel
theorem dL_acts_240 : decode cL_acts 240 = .ok (.iload 10, 2) := by decide +kernel
theorem dL_acts_242 : decode cL_acts 242 = .ok (.iload 11, 2) := by decide +kernel
theorem dL_acts_244 : decode cL_acts 244 = .ok (.invokestatic 9, 3) := by decide +kernel
theorem dL_acts_247 : decode cL_acts 247 = .ok (.lshl, 1) := by decide +kernel
theorem dL_acts_248 : decode cL_acts 248 = .ok (.goto 4, 3) := by decide +kernel
theorem dL_acts_251 : decode cL_acts 251 = .ok (.lconst 0, 1) := by decide +kernel
theorem dL_acts_252 : decode cL_acts 252 = .ok (.lor, 1) := by decide +kernel
theorem dL_acts_253 : decode cL_acts 253 = .ok (.goto 6, 3) := by decide +kernel
theorem dL_acts_256 : decode cL_acts 256 = .ok (.aload_n 1, 1) := by decide +kernel
theorem dL_acts_257 : decode cL_acts 257 = .ok (.iload_n 3, 1) := by decide +kernel
theorem dL_acts_258 : decode cL_acts 258 = .ok (.laload, 1) := by decide +kernel
theorem dL_acts_259 : decode cL_acts 259 = .ok (.lastore, 1) := by decide +kernel
theorem dL_acts_260 : decode cL_acts 260 = .ok (.iinc 11 1, 3) := by decide +kernel
theorem dL_acts_263 : decode cL_acts 263 = .ok (.goto (-125), 3) := by decide +kernel
theorem dL_acts_266 : decode cL_acts 266 = .ok (.aload_n 1, 1) := by decide +kernel
theorem dL_acts_267 : decode cL_acts 267 = .ok (.iload_n 3, 1) := by decide +kernel
theorem dL_acts_268 : decode cL_acts 268 = .ok (.aload_n 1, 1) := by decide +kernel
theorem dL_acts_269 : decode cL_acts 269 = .ok (.iload_n 3, 1) := by decide +kernel
theorem dL_acts_270 : decode cL_acts 270 = .ok (.laload, 1) := by decide +kernel
theorem dL_acts_271 : decode cL_acts 271 = .ok (.iload 10, 2) := by decide +kernel
theorem dL_acts_273 : decode cL_acts 273 = .ok (.lload 5, 2) := by decide +kernel
theorem dL_acts_275 : decode cL_acts 275 = .ok (.iload 10, 2) := by decide +kernel
theorem dL_acts_277 : decode cL_acts 277 = .ok (.iload 8, 2) := by decide +kernel
theorem dL_acts_279 : decode cL_acts 279 = .ok (.if_icmp .ne 8, 3) := by decide +kernel
theorem dL_acts_282 : decode cL_acts 282 = .ok (.iload 9, 2) := by decide +kernel
theorem dL_acts_284 : decode cL_acts 284 = .ok (.goto 17, 3) := by decide +kernel
theorem dL_acts_287 : decode cL_acts 287 = .ok (.iload 10, 2) := by decide +kernel
theorem dL_acts_289 : decode cL_acts 289 = .ok (.iload 9, 2) := by decide +kernel
theorem dL_acts_291 : decode cL_acts 291 = .ok (.if_icmp .ne 8, 3) := by decide +kernel
theorem dL_acts_294 : decode cL_acts 294 = .ok (.iload 8, 2) := by decide +kernel
theorem dL_acts_296 : decode cL_acts 296 = .ok (.goto 5, 3) := by decide +kernel
theorem dL_acts_299 : decode cL_acts 299 = .ok (.iload 10, 2) := by decide +kernel
theorem dL_acts_301 : decode cL_acts 301 = .ok (.invokestatic 31, 3) := by decide +kernel
theorem dL_acts_304 : decode cL_acts 304 = .ok (.invokestatic 35, 3) := by decide +kernel
theorem dL_acts_307 : decode cL_acts 307 = .ok (.lastore, 1) := by decide +kernel
theorem dL_acts_308 : decode cL_acts 308 = .ok (.iinc 10 1, 3) := by decide +kernel
theorem dL_acts_311 : decode cL_acts 311 = .ok (.goto (-183), 3) := by decide +kernel
theorem dL_acts_314 : decode cL_acts 314 = .ok (.aload_n 0, 1) := by decide +kernel
theorem dL_acts_315 : decode cL_acts 315 = .ok (.iload_n 3, 1) := by decide +kernel
theorem dL_acts_316 : decode cL_acts 316 = .ok (.iload 8, 2) := by decide +kernel
theorem dL_acts_318 : decode cL_acts 318 = .ok (.iload 9, 2) := by decide +kernel
theorem dL_acts_320 : decode cL_acts 320 = .ok (.invokevirtual 115, 3) := by decide +kernel
theorem dL_acts_323 : decode cL_acts 323 = .ok (.iconst 1, 1) := by decide +kernel
theorem dL_acts_324 : decode cL_acts 324 = .ok (.ireturn, 1) := by decide +kernel
theorem dL_acts_325 : decode cL_acts 325 = .ok (.iload_n 2, 1) := by decide +kernel
theorem dL_acts_326 : decode cL_acts 326 = .ok (.iconst 3, 1) := by decide +kernel
theorem dL_acts_327 : decode cL_acts 327 = .ok (.if_icmp .ne 28, 3) := by decide +kernel
theorem dL_acts_330 : decode cL_acts 330 = .ok (.aload_n 1, 1) := by decide +kernel
theorem dL_acts_331 : decode cL_acts 331 = .ok (.iload 4, 2) := by decide +kernel
theorem dL_acts_333 : decode cL_acts 333 = .ok (.bipush 64, 2) := by decide +kernel
theorem dL_acts_335 : decode cL_acts 335 = .ok (.idiv, 1) := by decide +kernel
theorem dL_acts_336 : decode cL_acts 336 = .ok (.iconst 4, 1) := by decide +kernel
theorem dL_acts_337 : decode cL_acts 337 = .ok (.irem, 1) := by decide +kernel
theorem dL_acts_338 : decode cL_acts 338 = .ok (.lload 5, 2) := by decide +kernel
theorem dL_acts_340 : decode cL_acts 340 = .ok (.lastore, 1) := by decide +kernel
theorem dL_acts_341 : decode cL_acts 341 = .ok (.aload_n 0, 1) := by decide +kernel
theorem dL_acts_342 : decode cL_acts 342 = .ok (.iload_n 3, 1) := by decide +kernel
theorem dL_acts_343 : decode cL_acts 343 = .ok (.iload 4, 2) := by decide +kernel
theorem dL_acts_345 : decode cL_acts 345 = .ok (.bipush 64, 2) := by decide +kernel
theorem dL_acts_347 : decode cL_acts 347 = .ok (.idiv, 1) := by decide +kernel
theorem dL_acts_348 : decode cL_acts 348 = .ok (.iconst 4, 1) := by decide +kernel
theorem dL_acts_349 : decode cL_acts 349 = .ok (.irem, 1) := by decide +kernel
theorem dL_acts_350 : decode cL_acts 350 = .ok (.invokevirtual 119, 3) := by decide +kernel
theorem dL_acts_353 : decode cL_acts 353 = .ok (.iconst 1, 1) := by decide +kernel
theorem dL_acts_354 : decode cL_acts 354 = .ok (.ireturn, 1) := by decide +kernel
theorem dL_acts_355 : decode cL_acts 355 = .ok (.iload_n 2, 1) := by decide +kernel
theorem dL_acts_356 : decode cL_acts 356 = .ok (.iconst 4, 1) := by decide +kernel
theorem dL_acts_357 : decode cL_acts 357 = .ok (.if_icmp .ne 124, 3) := by decide +kernel
theorem dL_acts_360 : decode cL_acts 360 = .ok (.iconst 0, 1) := by decide +kernel
theorem dL_acts_361 : decode cL_acts 361 = .ok (.istore 10, 2) := by decide +kernel
theorem dL_acts_363 : decode cL_acts 363 = .ok (.iconst 0, 1) := by decide +kernel
theorem dL_acts_364 : decode cL_acts 364 = .ok (.istore 11, 2) := by decide +kernel
theorem dL_acts_366 : decode cL_acts 366 = .ok (.iload 11, 2) := by decide +kernel
theorem dL_acts_368 : decode cL_acts 368 = .ok (.iload 7, 2) := by decide +kernel
theorem dL_acts_370 : decode cL_acts 370 = .ok (.iload 7, 2) := by decide +kernel
theorem dL_acts_372 : decode cL_acts 372 = .ok (.imul, 1) := by decide +kernel
theorem dL_acts_373 : decode cL_acts 373 = .ok (.if_icmp .ge 92, 3) := by decide +kernel
theorem dL_acts_376 : decode cL_acts 376 = .ok (.iload 11, 2) := by decide +kernel
theorem dL_acts_378 : decode cL_acts 378 = .ok (.iload 7, 2) := by decide +kernel
theorem dL_acts_380 : decode cL_acts 380 = .ok (.idiv, 1) := by decide +kernel
theorem dL_acts_381 : decode cL_acts 381 = .ok (.iload 11, 2) := by decide +kernel
theorem dL_acts_383 : decode cL_acts 383 = .ok (.iload 7, 2) := by decide +kernel
theorem dL_acts_385 : decode cL_acts 385 = .ok (.irem, 1) := by decide +kernel
theorem dL_acts_386 : decode cL_acts 386 = .ok (.if_icmp .ge 7, 3) := by decide +kernel
theorem dL_acts_389 : decode cL_acts 389 = .ok (.iconst 1, 1) := by decide +kernel
theorem dL_acts_390 : decode cL_acts 390 = .ok (.goto 4, 3) := by decide +kernel
theorem dL_acts_393 : decode cL_acts 393 = .ok (.iconst 0, 1) := by decide +kernel
theorem dL_acts_394 : decode cL_acts 394 = .ok (.istore 12, 2) := by decide +kernel
theorem dL_acts_396 : decode cL_acts 396 = .ok (.aload_n 1, 1) := by decide +kernel
theorem dL_acts_397 : decode cL_acts 397 = .ok (.iload_n 3, 1) := by decide +kernel
theorem dL_acts_398 : decode cL_acts 398 = .ok (.dup2, 1) := by decide +kernel
theorem dL_acts_399 : decode cL_acts 399 = .ok (.laload, 1) := by decide +kernel
theorem dL_acts_400 : decode cL_acts 400 = .ok (.iload 12, 2) := by decide +kernel
theorem dL_acts_402 : decode cL_acts 402 = .ok (.ifCond .eq 21, 3) := by decide +kernel
theorem dL_acts_405 : decode cL_acts 405 = .ok (.lconst 1, 1) := by decide +kernel
theorem dL_acts_406 : decode cL_acts 406 = .ok (.iload 11, 2) := by decide +kernel
theorem dL_acts_408 : decode cL_acts 408 = .ok (.iload 7, 2) := by decide +kernel
theorem dL_acts_410 : decode cL_acts 410 = .ok (.idiv, 1) := by decide +kernel
theorem dL_acts_411 : decode cL_acts 411 = .ok (.iload 11, 2) := by decide +kernel
theorem dL_acts_413 : decode cL_acts 413 = .ok (.iload 7, 2) := by decide +kernel
theorem dL_acts_415 : decode cL_acts 415 = .ok (.irem, 1) := by decide +kernel
theorem dL_acts_416 : decode cL_acts 416 = .ok (.invokestatic 9, 3) := by decide +kernel
theorem dL_acts_419 : decode cL_acts 419 = .ok (.lshl, 1) := by decide +kernel
theorem dL_acts_420 : decode cL_acts 420 = .ok (.goto 4, 3) := by decide +kernel
theorem dL_acts_423 : decode cL_acts 423 = .ok (.lconst 0, 1) := by decide +kernel
theorem dL_acts_424 : decode cL_acts 424 = .ok (.lxor, 1) := by decide +kernel
theorem dL_acts_425 : decode cL_acts 425 = .ok (.lastore, 1) := by decide +kernel
theorem dL_acts_426 : decode cL_acts 426 = .ok (.iload 10, 2) := by decide +kernel
theorem dL_acts_428 : decode cL_acts 428 = .ok (.iload 12, 2) := by decide +kernel
theorem dL_acts_430 : decode cL_acts 430 = .ok (.ifCond .eq 25, 3) := by decide +kernel
theorem dL_acts_433 : decode cL_acts 433 = .ok (.lload 5, 2) := by decide +kernel
theorem dL_acts_435 : decode cL_acts 435 = .ok (.iload 11, 2) := by decide +kernel
theorem dL_acts_437 : decode cL_acts 437 = .ok (.iload 7, 2) := by decide +kernel
theorem dL_acts_439 : decode cL_acts 439 = .ok (.idiv, 1) := by decide +kernel
theorem dL_acts_440 : decode cL_acts 440 = .ok (.iload 11, 2) := by decide +kernel
theorem dL_acts_442 : decode cL_acts 442 = .ok (.iload 7, 2) := by decide +kernel
theorem dL_acts_444 : decode cL_acts 444 = .ok (.irem, 1) := by decide +kernel
theorem dL_acts_445 : decode cL_acts 445 = .ok (.invokestatic 39, 3) := by decide +kernel
theorem dL_acts_448 : decode cL_acts 448 = .ok (.ifCond .ne 7, 3) := by decide +kernel
theorem dL_acts_451 : decode cL_acts 451 = .ok (.iconst 1, 1) := by decide +kernel
theorem dL_acts_452 : decode cL_acts 452 = .ok (.goto 4, 3) := by decide +kernel
theorem dL_acts_455 : decode cL_acts 455 = .ok (.iconst 0, 1) := by decide +kernel
theorem dL_acts_456 : decode cL_acts 456 = .ok (.iadd, 1) := by decide +kernel
theorem dL_acts_457 : decode cL_acts 457 = .ok (.istore 10, 2) := by decide +kernel
theorem dL_acts_459 : decode cL_acts 459 = .ok (.iinc 11 1, 3) := by decide +kernel
theorem dL_acts_462 : decode cL_acts 462 = .ok (.goto (-96), 3) := by decide +kernel
theorem dL_acts_465 : decode cL_acts 465 = .ok (.aload_n 0, 1) := by decide +kernel
theorem dL_acts_466 : decode cL_acts 466 = .ok (.iload_n 3, 1) := by decide +kernel
theorem dL_acts_467 : decode cL_acts 467 = .ok (.invokevirtual 123, 3) := by decide +kernel
theorem dL_acts_470 : decode cL_acts 470 = .ok (.iload 10, 2) := by decide +kernel
theorem dL_acts_472 : decode cL_acts 472 = .ok (.if_icmp .ne 7, 3) := by decide +kernel
theorem dL_acts_475 : decode cL_acts 475 = .ok (.iconst 1, 1) := by decide +kernel
theorem dL_acts_476 : decode cL_acts 476 = .ok (.goto 4, 3) := by decide +kernel
theorem dL_acts_479 : decode cL_acts 479 = .ok (.iconst 0, 1) := by decide +kernel
theorem dL_acts_480 : decode cL_acts 480 = .ok (.ireturn, 1) := by decide +kernel
theorem dL_acts_481 : decode cL_acts 481 = .ok (.iload 8, 2) := by decide +kernel
theorem dL_acts_483 : decode cL_acts 483 = .ok (.iload 9, 2) := by decide +kernel
theorem dL_acts_485 : decode cL_acts 485 = .ok (.if_icmp .ne 13, 3) := by decide +kernel
theorem dL_acts_488 : decode cL_acts 488 = .ok (.iload 8, 2) := by decide +kernel
theorem dL_acts_490 : decode cL_acts 490 = .ok (.iconst 1, 1) := by decide +kernel
theorem dL_acts_491 : decode cL_acts 491 = .ok (.iadd, 1) := by decide +kernel
theorem dL_acts_492 : decode cL_acts 492 = .ok (.iload 7, 2) := by decide +kernel
theorem dL_acts_494 : decode cL_acts 494 = .ok (.irem, 1) := by decide +kernel
theorem dL_acts_495 : decode cL_acts 495 = .ok (.goto 5, 3) := by decide +kernel
theorem dL_acts_498 : decode cL_acts 498 = .ok (.iload 9, 2) := by decide +kernel
theorem dL_acts_500 : decode cL_acts 500 = .ok (.istore 9, 2) := by decide +kernel
theorem dL_acts_502 : decode cL_acts 502 = .ok (.iload 8, 2) := by decide +kernel
theorem dL_acts_504 : decode cL_acts 504 = .ok (.iload 9, 2) := by decide +kernel
theorem dL_acts_506 : decode cL_acts 506 = .ok (.if_icmp .ne 5, 3) := by decide +kernel
theorem dL_acts_509 : decode cL_acts 509 = .ok (.iconst 1, 1) := by decide +kernel
theorem dL_acts_510 : decode cL_acts 510 = .ok (.ireturn, 1) := by decide +kernel
theorem dL_acts_511 : decode cL_acts 511 = .ok (.aload_n 1, 1) := by decide +kernel
theorem dL_acts_512 : decode cL_acts 512 = .ok (.iload_n 3, 1) := by decide +kernel
theorem dL_acts_513 : decode cL_acts 513 = .ok (.dup2, 1) := by decide +kernel
theorem dL_acts_514 : decode cL_acts 514 = .ok (.laload, 1) := by decide +kernel
theorem dL_acts_515 : decode cL_acts 515 = .ok (.lconst 1, 1) := by decide +kernel
theorem dL_acts_516 : decode cL_acts 516 = .ok (.iload 8, 2) := by decide +kernel
theorem dL_acts_518 : decode cL_acts 518 = .ok (.iload 9, 2) := by decide +kernel
theorem dL_acts_520 : decode cL_acts 520 = .ok (.invokestatic 9, 3) := by decide +kernel
theorem dL_acts_523 : decode cL_acts 523 = .ok (.lshl, 1) := by decide +kernel
theorem dL_acts_524 : decode cL_acts 524 = .ok (.lxor, 1) := by decide +kernel
theorem dL_acts_525 : decode cL_acts 525 = .ok (.lastore, 1) := by decide +kernel
theorem dL_acts_526 : decode cL_acts 526 = .ok (.aload_n 0, 1) := by decide +kernel
theorem dL_acts_527 : decode cL_acts 527 = .ok (.iload_n 3, 1) := by decide +kernel
theorem dL_acts_528 : decode cL_acts 528 = .ok (.iload 8, 2) := by decide +kernel
theorem dL_acts_530 : decode cL_acts 530 = .ok (.iload 9, 2) := by decide +kernel
theorem dL_acts_532 : decode cL_acts 532 = .ok (.invokevirtual 126, 3) := by decide +kernel
theorem dL_acts_535 : decode cL_acts 535 = .ok (.aload_n 1, 1) := by decide +kernel
theorem dL_acts_536 : decode cL_acts 536 = .ok (.iload_n 3, 1) := by decide +kernel
theorem dL_acts_537 : decode cL_acts 537 = .ok (.laload, 1) := by decide +kernel
theorem dL_acts_538 : decode cL_acts 538 = .ok (.iload 8, 2) := by decide +kernel
theorem dL_acts_540 : decode cL_acts 540 = .ok (.iload 9, 2) := by decide +kernel
theorem dL_acts_542 : decode cL_acts 542 = .ok (.invokestatic 39, 3) := by decide +kernel
theorem dL_acts_545 : decode cL_acts 545 = .ok (.if_icmp .ne 7, 3) := by decide +kernel
theorem dL_acts_548 : decode cL_acts 548 = .ok (.iconst 1, 1) := by decide +kernel
theorem dL_acts_549 : decode cL_acts 549 = .ok (.goto 4, 3) := by decide +kernel
theorem dL_acts_552 : decode cL_acts 552 = .ok (.iconst 0, 1) := by decide +kernel
theorem dL_acts_553 : decode cL_acts 553 = .ok (.ireturn, 1) := by decide +kernel
set_option maxRecDepth 20000 in
theorem ggL_acts_L_size : GoodIn wsL_acts wsL_size := goodIn_r _ [5] (by decide +kernel) (by decide +kernel)
set_option maxRecDepth 20000 in
theorem gL_acts_L_size : GoodIn wsL_acts (va_wsS RL 23 yL_size wsL_size) := goodIn_app (goodIn_of _ (by decide +kernel)) ggL_acts_L_size
set_option maxRecDepth 20000 in
theorem ggL_acts_X7_begin : GoodIn wsL_acts wsX7_begin := goodIn_ca (goodIn_ca (goodIn_r _ [10, 11, 12, 13, 14, 15, 9, 16, 17, 18, 19, 20, 21, 22, 23, 24, 25, 26, 27, 28, 29, 30, 96, 97, 98, 99, 100, 101, 102, 103, 104] (by decide +kernel) (by decide +kernel)) (goodIn_sub (fun _ h => List.mem_cons_of_mem _ (List.mem_append_left _ (List.mem_append_right _ h))) (by decide +kernel))) (goodIn_sub (fun _ h => List.mem_cons_of_mem _ (List.mem_append_right _ h)) (by decide +kernel))
set_option maxRecDepth 20000 in
theorem gL_acts_X7_begin : GoodIn wsL_acts (wsV RL 109 RX7 yX7_begin wsX7_begin) := goodIn_app (goodIn_of _ (by decide +kernel)) ggL_acts_X7_begin
set_option maxRecDepth 20000 in
theorem ggL_acts_L_coloured : GoodIn wsL_acts wsL_coloured := goodIn_r _ [33, 34, 1] (by decide +kernel) (by decide +kernel)
set_option maxRecDepth 20000 in
theorem gL_acts_L_coloured : GoodIn wsL_acts (va_wsS RL 35 yL_coloured wsL_coloured) := goodIn_app (goodIn_of _ (by decide +kernel)) ggL_acts_L_coloured
set_option maxRecDepth 20000 in
theorem ggL_acts_X7_setColour : GoodIn wsL_acts wsX7_setColour := goodIn_ca (goodIn_ca (goodIn_r _ [38, 11, 12, 13, 14, 15, 9, 16, 17, 18, 19, 39, 40, 41, 96, 97, 98, 99, 100, 101, 102, 103, 104] (by decide +kernel) (by decide +kernel)) (goodIn_sub (fun _ h => List.mem_cons_of_mem _ (List.mem_append_left _ (List.mem_append_right _ h))) (by decide +kernel))) (goodIn_sub (fun _ h => List.mem_cons_of_mem _ (List.mem_append_right _ h)) (by decide +kernel))
set_option maxRecDepth 20000 in
theorem gL_acts_X7_setColour : GoodIn wsL_acts (wsV RL 112 RX7 yX7_setColour wsX7_setColour) := goodIn_app (goodIn_of _ (by decide +kernel)) ggL_acts_X7_setColour
set_option maxRecDepth 20000 in
theorem ggL_acts_L_colour : GoodIn wsL_acts wsL_colour := goodIn_r _ [44, 34] (by decide +kernel) (by decide +kernel)
set_option maxRecDepth 20000 in
theorem gL_acts_L_colour : GoodIn wsL_acts (va_wsS RL 31 yL_colour wsL_colour) := goodIn_app (goodIn_of _ (by decide +kernel)) ggL_acts_L_colour
set_option maxRecDepth 20000 in
theorem ggL_acts_L_bit : GoodIn wsL_acts wsL_bit := goodIn_r _ [47] (by decide +kernel) (by decide +kernel)
set_option maxRecDepth 20000 in
theorem gL_acts_L_bit : GoodIn wsL_acts (va_wsS RL 9 yL_bit wsL_bit) := goodIn_app (goodIn_of _ (by decide +kernel)) ggL_acts_L_bit
set_option maxRecDepth 20000 in
theorem ggL_acts_L_edge : GoodIn wsL_acts wsL_edge := goodIn_r _ [50, 45, 46, 4, 47] (by decide +kernel) (by decide +kernel)
set_option maxRecDepth 20000 in
theorem gL_acts_L_edge : GoodIn wsL_acts (va_wsS RL 39 yL_edge wsL_edge) := goodIn_app (goodIn_of _ (by decide +kernel)) ggL_acts_L_edge
set_option maxRecDepth 20000 in
theorem ggL_acts_X7_swap : GoodIn wsL_acts wsX7_swap := goodIn_ca (goodIn_r _ [54, 13, 14, 15, 9, 16, 17, 18, 19, 39, 40, 41, 55, 21, 56, 57, 26, 25, 24, 58, 59, 99, 100, 101, 102, 103, 104, 96, 97, 98] (by decide +kernel) (by decide +kernel)) (goodIn_sub (fun _ h => List.mem_cons_of_mem _ (List.mem_append_right _ h)) (by decide +kernel))
set_option maxRecDepth 20000 in
theorem gL_acts_X7_swap : GoodIn wsL_acts (wsV RL 115 RX7 yX7_swap wsX7_swap) := goodIn_app (goodIn_of _ (by decide +kernel)) ggL_acts_X7_swap
set_option maxRecDepth 20000 in
theorem ggL_acts_X7_copy : GoodIn wsL_acts wsX7_copy := goodIn_ca (goodIn_r _ [63, 13, 14, 15, 9, 16, 17, 18, 19, 64, 21, 65, 66, 24, 25, 26, 99, 100, 101, 102, 103, 104, 96, 97, 98] (by decide +kernel) (by decide +kernel)) (goodIn_sub (fun _ h => List.mem_cons_of_mem _ (List.mem_append_right _ h)) (by decide +kernel))
set_option maxRecDepth 20000 in
theorem gL_acts_X7_copy : GoodIn wsL_acts (wsV RL 119 RX7 yX7_copy wsX7_copy) := goodIn_app (goodIn_of _ (by decide +kernel)) ggL_acts_X7_copy
set_option maxRecDepth 20000 in
theorem ggL_acts_X7_complement : GoodIn wsL_acts wsX7_complement := goodIn_ca (goodIn_r _ [70, 13, 14, 15, 9, 16, 17, 18, 19, 71, 21, 72, 73, 24, 25, 74, 75, 76, 77, 78, 79, 80, 81, 82, 83, 84, 85, 99, 100, 101, 102, 103, 104, 96, 97, 98] (by decide +kernel) (by decide +kernel)) (goodIn_sub (fun _ h => List.mem_cons_of_mem _ (List.mem_append_right _ h)) (by decide +kernel))
set_option maxRecDepth 20000 in
theorem gL_acts_X7_complement : GoodIn wsL_acts (wsV RL 123 RX7 yX7_complement wsX7_complement) := goodIn_app (goodIn_of _ (by decide +kernel)) ggL_acts_X7_complement
set_option maxRecDepth 20000 in
theorem ggL_acts_X7_toggle : GoodIn wsL_acts wsX7_toggle := goodIn_ca (goodIn_ca (goodIn_r _ [89, 11, 12, 13, 14, 15, 9, 16, 17, 18, 19, 39, 40, 41, 90, 21, 91, 92, 25, 93, 94, 95, 58, 59, 99, 100, 101, 102, 103, 104, 96, 97, 98] (by decide +kernel) (by decide +kernel)) (goodIn_sub (fun _ h => List.mem_cons_of_mem _ (List.mem_append_left _ (List.mem_append_right _ h))) (by decide +kernel))) (goodIn_sub (fun _ h => List.mem_cons_of_mem _ (List.mem_append_right _ h)) (by decide +kernel))
set_option maxRecDepth 20000 in
theorem gL_acts_X7_toggle : GoodIn wsL_acts (wsV RL 126 RX7 yX7_toggle wsX7_toggle) := goodIn_app (goodIn_of _ (by decide +kernel)) ggL_acts_X7_toggle
theorem wd_L_acts_0 : Cond.constantLong RL 17 (-1) ∈ wsL_acts := by decide +kernel
def r_L_acts : Room := { frames := 8, cells := 4, slots := 24, locals := 136 }
set_option maxRecDepth 100000 in
set_option maxHeartbeats 4000000 in
theorem w_L_acts_259 {K : zK} {w : Nat} (hk : zIs K RL cL_acts 14 wsL_acts (some .boolean) r_L_acts) (hfl : (kL K).stackTraces = false) (hnx : zNX K) {r0 : Int32} {τ0 : zST} (hq : zQG K (.inr (some (.int r0))) τ0) (hw : eN (kZ K) = w) (cs ss : Nat) (hb1 : cs + 0 ≤ 4) (hb2 : ss + 0 ≤ 24) (F : Nat) (k128 : Nat → Nat → Int32 → Int64 → Int32 → Int32 → Int32 → Int32 → zST → Option (Int32 × zST)) (hk128 : ∀ (a0 : Nat) (a1 : Nat) (a3 : Int32) (a5 : Int64) (a7 : Int32) (a8 : Int32) (a9 : Int32) (a10 : Int32) (ha0 : atCanonCote (kZ K) a0) (ha1 : aJ (kZ K) a1 4) (σ : zST), k128 a0 a1 a3 a5 a7 a8 a9 a10 σ = some (r0, τ0) → Z K cs ss 128 [(0, .ref (eA (kZ K) a0)), (1, .ref (eA (kZ K) a1)), (3, .int a3), (5, .long a5), (7, .int a7), (8, .int a8), (9, .int a9), (10, .int a10)] [] σ) (k138 : Nat → Nat → Int32 → Int64 → Int32 → Int32 → Int32 → Int32 → Int32 → zST → Option (Int32 × zST)) (hk138 : ∀ (a0 : Nat) (a1 : Nat) (a3 : Int32) (a5 : Int64) (a7 : Int32) (a8 : Int32) (a9 : Int32) (a10 : Int32) (a11 : Int32) (ha0 : atCanonCote (kZ K) a0) (ha1 : aJ (kZ K) a1 4) (σ : zST), k138 a0 a1 a3 a5 a7 a8 a9 a10 a11 σ = some (r0, τ0) → Z K cs ss 138 [(0, .ref (eA (kZ K) a0)), (1, .ref (eA (kZ K) a1)), (3, .int a3), (5, .long a5), (7, .int a7), (8, .int a8), (9, .int a9), (10, .int a10), (11, .int a11)] [] σ) (a0 : Nat) (a1 : Nat) (a3 : Int32) (a5 : Int64) (a7 : Int32) (a8 : Int32) (a9 : Int32) (a10 : Int32) (a11 : Int32) (t0 : Int64) (t1 : Int32) (t2 : Nat) (ha0 : atCanonCote (kZ K) a0) (ha1 : aJ (kZ K) a1 4) (ht2 : aJ (kZ K) t2 4) (σ : zST) (h : m_L_acts_259 F w k128 k138 a0 a1 a3 a5 a7 a8 a9 a10 a11 t0 t1 t2 σ = some (r0, τ0)) : Z K cs ss 259 [(0, .ref (eA (kZ K) a0)), (1, .ref (eA (kZ K) a1)), (3, .int a3), (5, .long a5), (7, .int a7), (8, .int a8), (9, .int a9), (10, .int a10), (11, .int a11)] [.long t0, .int t1, .ref (eA (kZ K) t2)] σ := by
  unfold m_L_acts_259 at h
  obtain ⟨i141, s139, e140, h⟩ := stL_get h
  refine Z_last hk ht2 i141 dL_acts_259 ?_
  refine Z_eqS e140 ?_
  obtain ⟨x142, e143, h⟩ := nm_get h
  refine Z_iinc hk 8 (v := x142) (lv' := [(11, .int x142), (0, .ref (eA (kZ K) a0)), (1, .ref (eA (kZ K) a1)), (3, .int a3), (5, .long a5), (7, .int a7), (8, .int a8), (9, .int a9), (10, .int a10)]) dL_acts_260 rfl (by rw [zc_iinc_1]; exact e143) (by decide) rfl ?_
  refine Z_goto hk (tgt := 138) dL_acts_263 (by decide) ?_
  refine Z_sub [1, 2, 3, 4, 5, 6, 7, 8, 0] rfl ?_
  exact hk138 a0 a1 a3 a5 a7 a8 a9 a10 x142 ha0 ha1 s139 h
set_option maxRecDepth 100000 in
set_option maxHeartbeats 4000000 in
theorem w_L_acts_252 {K : zK} {w : Nat} (hk : zIs K RL cL_acts 14 wsL_acts (some .boolean) r_L_acts) (hfl : (kL K).stackTraces = false) (hnx : zNX K) {r0 : Int32} {τ0 : zST} (hq : zQG K (.inr (some (.int r0))) τ0) (hw : eN (kZ K) = w) (cs ss : Nat) (hb1 : cs + 0 ≤ 4) (hb2 : ss + 0 ≤ 24) (F : Nat) (k128 : Nat → Nat → Int32 → Int64 → Int32 → Int32 → Int32 → Int32 → zST → Option (Int32 × zST)) (hk128 : ∀ (a0 : Nat) (a1 : Nat) (a3 : Int32) (a5 : Int64) (a7 : Int32) (a8 : Int32) (a9 : Int32) (a10 : Int32) (ha0 : atCanonCote (kZ K) a0) (ha1 : aJ (kZ K) a1 4) (σ : zST), k128 a0 a1 a3 a5 a7 a8 a9 a10 σ = some (r0, τ0) → Z K cs ss 128 [(0, .ref (eA (kZ K) a0)), (1, .ref (eA (kZ K) a1)), (3, .int a3), (5, .long a5), (7, .int a7), (8, .int a8), (9, .int a9), (10, .int a10)] [] σ) (k138 : Nat → Nat → Int32 → Int64 → Int32 → Int32 → Int32 → Int32 → Int32 → zST → Option (Int32 × zST)) (hk138 : ∀ (a0 : Nat) (a1 : Nat) (a3 : Int32) (a5 : Int64) (a7 : Int32) (a8 : Int32) (a9 : Int32) (a10 : Int32) (a11 : Int32) (ha0 : atCanonCote (kZ K) a0) (ha1 : aJ (kZ K) a1 4) (σ : zST), k138 a0 a1 a3 a5 a7 a8 a9 a10 a11 σ = some (r0, τ0) → Z K cs ss 138 [(0, .ref (eA (kZ K) a0)), (1, .ref (eA (kZ K) a1)), (3, .int a3), (5, .long a5), (7, .int a7), (8, .int a8), (9, .int a9), (10, .int a10), (11, .int a11)] [] σ) (a0 : Nat) (a1 : Nat) (a3 : Int32) (a5 : Int64) (a7 : Int32) (a8 : Int32) (a9 : Int32) (a10 : Int32) (a11 : Int32) (t0 : Int64) (t1 : Int64) (t2 : Int32) (t3 : Nat) (ha0 : atCanonCote (kZ K) a0) (ha1 : aJ (kZ K) a1 4) (ht3 : aJ (kZ K) t3 4) (σ : zST) (h : m_L_acts_252 F w k128 k138 a0 a1 a3 a5 a7 a8 a9 a10 a11 t0 t1 t2 t3 σ = some (r0, τ0)) : Z K cs ss 252 [(0, .ref (eA (kZ K) a0)), (1, .ref (eA (kZ K) a1)), (3, .int a3), (5, .long a5), (7, .int a7), (8, .int a8), (9, .int a9), (10, .int a10), (11, .int a11)] [.long t0, .long t1, .int t2, .ref (eA (kZ K) t3)] σ := by
  unfold m_L_acts_252 at h
  refine Z_lor hk dL_acts_252 ?_
  refine Z_goto hk (tgt := 259) dL_acts_253 (by decide) ?_
  refine Z_sub [0, 1, 2, 3, 4, 5, 6, 7, 8] rfl ?_
  exact w_L_acts_259 hk hfl hnx hq hw cs ss (by omega) (by omega) F k128 hk128 k138 hk138 a0 a1 a3 a5 a7 a8 a9 a10 a11 (t1 ||| t0) t2 t3 ha0 ha1 ht3 σ h
set_option maxRecDepth 100000 in
set_option maxHeartbeats 4000000 in
theorem w_L_acts_199 {K : zK} {w : Nat} (hk : zIs K RL cL_acts 14 wsL_acts (some .boolean) r_L_acts) (hfl : (kL K).stackTraces = false) (hnx : zNX K) {r0 : Int32} {τ0 : zST} (hq : zQG K (.inr (some (.int r0))) τ0) (hw : eN (kZ K) = w) (cs ss : Nat) (hb1 : cs + 0 ≤ 4) (hb2 : ss + 0 ≤ 24) (F : Nat) (k128 : Nat → Nat → Int32 → Int64 → Int32 → Int32 → Int32 → Int32 → zST → Option (Int32 × zST)) (hk128 : ∀ (a0 : Nat) (a1 : Nat) (a3 : Int32) (a5 : Int64) (a7 : Int32) (a8 : Int32) (a9 : Int32) (a10 : Int32) (ha0 : atCanonCote (kZ K) a0) (ha1 : aJ (kZ K) a1 4) (σ : zST), k128 a0 a1 a3 a5 a7 a8 a9 a10 σ = some (r0, τ0) → Z K cs ss 128 [(0, .ref (eA (kZ K) a0)), (1, .ref (eA (kZ K) a1)), (3, .int a3), (5, .long a5), (7, .int a7), (8, .int a8), (9, .int a9), (10, .int a10)] [] σ) (k138 : Nat → Nat → Int32 → Int64 → Int32 → Int32 → Int32 → Int32 → Int32 → zST → Option (Int32 × zST)) (hk138 : ∀ (a0 : Nat) (a1 : Nat) (a3 : Int32) (a5 : Int64) (a7 : Int32) (a8 : Int32) (a9 : Int32) (a10 : Int32) (a11 : Int32) (ha0 : atCanonCote (kZ K) a0) (ha1 : aJ (kZ K) a1 4) (σ : zST), k138 a0 a1 a3 a5 a7 a8 a9 a10 a11 σ = some (r0, τ0) → Z K cs ss 138 [(0, .ref (eA (kZ K) a0)), (1, .ref (eA (kZ K) a1)), (3, .int a3), (5, .long a5), (7, .int a7), (8, .int a8), (9, .int a9), (10, .int a10), (11, .int a11)] [] σ) (a0 : Nat) (a1 : Nat) (a3 : Int32) (a5 : Int64) (a7 : Int32) (a8 : Int32) (a9 : Int32) (a10 : Int32) (a11 : Int32) (a12 : Int32) (t0 : Int32) (ha0 : atCanonCote (kZ K) a0) (ha1 : aJ (kZ K) a1 4) (σ : zST) (h : m_L_acts_199 F w k128 k138 a0 a1 a3 a5 a7 a8 a9 a10 a11 a12 t0 σ = some (r0, τ0)) : Z K cs ss 199 [(0, .ref (eA (kZ K) a0)), (1, .ref (eA (kZ K) a1)), (3, .int a3), (5, .long a5), (7, .int a7), (8, .int a8), (9, .int a9), (10, .int a10), (11, .int a11), (12, .int a12)] [.int t0] σ := by
  unfold m_L_acts_199 at h
  refine Z_istore hk (lv' := [(13, .int t0), (0, .ref (eA (kZ K) a0)), (1, .ref (eA (kZ K) a1)), (3, .int a3), (5, .long a5), (7, .int a7), (8, .int a8), (9, .int a9), (10, .int a10), (11, .int a11), (12, .int a12)]) dL_acts_199 (by decide) rfl ?_
  refine Z_aload_n hk 2 dL_acts_201 rfl rfl ?_
  refine Z_iload_n hk 3 dL_acts_202 rfl rfl ?_
  refine Z_iload hk 9 dL_acts_203 rfl ?_
  refine Z_iload hk 8 dL_acts_205 rfl ?_
  refine Z_icmp_ge hk (tgt := 256) dL_acts_207 (by decide) (fun c118 => ?_) (fun c118 => ?_)
  · have h := if_yes h c118
    refine Z_aload_n hk 2 dL_acts_256 rfl rfl ?_
    refine Z_iload_n hk 3 dL_acts_257 rfl rfl ?_
    obtain ⟨i121, x119, e120, h⟩ := ldL_get h
    refine Z_lald hk ha1 i121 dL_acts_258 ?_
    refine Z_eqL e120 ?_
    refine Z_sub [1, 2, 3, 4, 5, 6, 7, 8, 9] rfl ?_
    exact w_L_acts_259 hk hfl hnx hq hw cs ss (by omega) (by omega) F k128 hk128 k138 hk138 a0 a1 a3 a5 a7 a8 a9 a10 a11 x119 a3 a1 ha0 ha1 ha1 σ h
  · have h := if_no h c118
    refine Z_aload_n hk 2 dL_acts_210 rfl rfl ?_
    refine Z_iload_n hk 3 dL_acts_211 rfl rfl ?_
    obtain ⟨i124, x122, e123, h⟩ := ldL_get h
    refine Z_lald hk ha1 i124 dL_acts_212 ?_
    refine Z_eqL e123 ?_
    refine Z_lconst hk dL_acts_213 (v := 1) rfl ?_
    refine Z_iload hk 8 dL_acts_214 rfl ?_
    refine Z_iload hk 9 dL_acts_216 rfl ?_
    obtain ⟨x125, s126, h127, h⟩ := bd_ok h
    refine Z_callT 2 hk [.int a10, .int a11] (c_L_bit hk.loc hk.inj F a10 a11 σ h127) gL_acts_L_bit rfl ⟨rfl, rfl⟩ (by decide +kernel) ⟨Nat.le_of_ble_eq_true rfl, Nat.le_of_ble_eq_true rfl⟩ rfl rfl (Nat.le_of_ble_eq_true rfl) ⟨by show cs + 0 ≤ 4; omega, by show ss + 0 ≤ 24; omega⟩ dL_acts_218 ?_
    show Z K cs ss 221 [(13, .int t0), (0, .ref (eA (kZ K) a0)), (1, .ref (eA (kZ K) a1)), (3, .int a3), (5, .long a5), (7, .int a7), (8, .int a8), (9, .int a9), (10, .int a10), (11, .int a11), (12, .int a12)] [.int x125, .long 1, .long x122, .int a3, .ref (eA (kZ K) a1)] s126
    refine Z_lshl hk dL_acts_221 ?_
    refine Z_ldc2 hk (v := -1) dL_acts_222 wd_L_acts_0 ?_
    refine Z_lxor hk dL_acts_225 ?_
    refine Z_land hk dL_acts_226 ?_
    refine Z_lload hk 4 dL_acts_227 rfl ?_
    refine Z_iload hk 10 dL_acts_229 rfl ?_
    refine Z_iload hk 0 dL_acts_231 rfl ?_
    obtain ⟨x128, s129, h130, h⟩ := bd_ok h
    refine Z_callT 3 hk [.long a5, .int a12, .int t0] (c_L_edge hk.loc hk.inj F a5 a12 t0 s126 h130) gL_acts_L_edge rfl ⟨rfl, rfl⟩ (by decide +kernel) ⟨Nat.le_of_ble_eq_true rfl, Nat.le_of_ble_eq_true rfl⟩ rfl rfl (Nat.le_of_ble_eq_true rfl) ⟨by show cs + 0 ≤ 4; omega, by show ss + 0 ≤ 24; omega⟩ dL_acts_233 ?_
    show Z K cs ss 236 [(13, .int t0), (0, .ref (eA (kZ K) a0)), (1, .ref (eA (kZ K) a1)), (3, .int a3), (5, .long a5), (7, .int a7), (8, .int a8), (9, .int a9), (10, .int a10), (11, .int a11), (12, .int a12)] [.int x128, .long (x122 &&& ((jlshl 1 x125) ^^^ (-1))), .int a3, .ref (eA (kZ K) a1)] s129
    refine Z_if_eq hk (tgt := 251) dL_acts_236 (by decide) (fun c131 => ?_) (fun c131 => ?_)
    · have h := if_yes h c131
      refine Z_lconst hk dL_acts_251 (v := 0) rfl ?_
      refine Z_sub [1, 2, 3, 4, 5, 6, 7, 8, 9] rfl ?_
      exact w_L_acts_252 hk hfl hnx hq hw cs ss (by omega) (by omega) F k128 hk128 k138 hk138 a0 a1 a3 a5 a7 a8 a9 a10 a11 0 (x122 &&& ((jlshl 1 x125) ^^^ (-1))) a3 a1 ha0 ha1 ha1 s129 h
    · have h := if_no h c131
      refine Z_lconst hk dL_acts_239 (v := 1) rfl ?_
      refine Z_iload hk 8 dL_acts_240 rfl ?_
      refine Z_iload hk 9 dL_acts_242 rfl ?_
      obtain ⟨x132, s133, h134, h⟩ := bd_ok h
      refine Z_callT 2 hk [.int a10, .int a11] (c_L_bit hk.loc hk.inj F a10 a11 s129 h134) gL_acts_L_bit rfl ⟨rfl, rfl⟩ (by decide +kernel) ⟨Nat.le_of_ble_eq_true rfl, Nat.le_of_ble_eq_true rfl⟩ rfl rfl (Nat.le_of_ble_eq_true rfl) ⟨by show cs + 0 ≤ 4; omega, by show ss + 0 ≤ 24; omega⟩ dL_acts_244 ?_
      show Z K cs ss 247 [(13, .int t0), (0, .ref (eA (kZ K) a0)), (1, .ref (eA (kZ K) a1)), (3, .int a3), (5, .long a5), (7, .int a7), (8, .int a8), (9, .int a9), (10, .int a10), (11, .int a11), (12, .int a12)] [.int x132, .long 1, .long (x122 &&& ((jlshl 1 x125) ^^^ (-1))), .int a3, .ref (eA (kZ K) a1)] s133
      refine Z_lshl hk dL_acts_247 ?_
      refine Z_goto hk (tgt := 252) dL_acts_248 (by decide) ?_
      refine Z_sub [1, 2, 3, 4, 5, 6, 7, 8, 9] rfl ?_
      exact w_L_acts_252 hk hfl hnx hq hw cs ss (by omega) (by omega) F k128 hk128 k138 hk138 a0 a1 a3 a5 a7 a8 a9 a10 a11 (jlshl 1 x132) (x122 &&& ((jlshl 1 x125) ^^^ (-1))) a3 a1 ha0 ha1 ha1 s133 h
set_option maxRecDepth 100000 in
set_option maxHeartbeats 4000000 in
theorem w_L_acts_171 {K : zK} {w : Nat} (hk : zIs K RL cL_acts 14 wsL_acts (some .boolean) r_L_acts) (hfl : (kL K).stackTraces = false) (hnx : zNX K) {r0 : Int32} {τ0 : zST} (hq : zQG K (.inr (some (.int r0))) τ0) (hw : eN (kZ K) = w) (cs ss : Nat) (hb1 : cs + 0 ≤ 4) (hb2 : ss + 0 ≤ 24) (F : Nat) (k128 : Nat → Nat → Int32 → Int64 → Int32 → Int32 → Int32 → Int32 → zST → Option (Int32 × zST)) (hk128 : ∀ (a0 : Nat) (a1 : Nat) (a3 : Int32) (a5 : Int64) (a7 : Int32) (a8 : Int32) (a9 : Int32) (a10 : Int32) (ha0 : atCanonCote (kZ K) a0) (ha1 : aJ (kZ K) a1 4) (σ : zST), k128 a0 a1 a3 a5 a7 a8 a9 a10 σ = some (r0, τ0) → Z K cs ss 128 [(0, .ref (eA (kZ K) a0)), (1, .ref (eA (kZ K) a1)), (3, .int a3), (5, .long a5), (7, .int a7), (8, .int a8), (9, .int a9), (10, .int a10)] [] σ) (k138 : Nat → Nat → Int32 → Int64 → Int32 → Int32 → Int32 → Int32 → Int32 → zST → Option (Int32 × zST)) (hk138 : ∀ (a0 : Nat) (a1 : Nat) (a3 : Int32) (a5 : Int64) (a7 : Int32) (a8 : Int32) (a9 : Int32) (a10 : Int32) (a11 : Int32) (ha0 : atCanonCote (kZ K) a0) (ha1 : aJ (kZ K) a1 4) (σ : zST), k138 a0 a1 a3 a5 a7 a8 a9 a10 a11 σ = some (r0, τ0) → Z K cs ss 138 [(0, .ref (eA (kZ K) a0)), (1, .ref (eA (kZ K) a1)), (3, .int a3), (5, .long a5), (7, .int a7), (8, .int a8), (9, .int a9), (10, .int a10), (11, .int a11)] [] σ) (a0 : Nat) (a1 : Nat) (a3 : Int32) (a5 : Int64) (a7 : Int32) (a8 : Int32) (a9 : Int32) (a10 : Int32) (a11 : Int32) (t0 : Int32) (ha0 : atCanonCote (kZ K) a0) (ha1 : aJ (kZ K) a1 4) (σ : zST) (h : m_L_acts_171 F w k128 k138 a0 a1 a3 a5 a7 a8 a9 a10 a11 t0 σ = some (r0, τ0)) : Z K cs ss 171 [(0, .ref (eA (kZ K) a0)), (1, .ref (eA (kZ K) a1)), (3, .int a3), (5, .long a5), (7, .int a7), (8, .int a8), (9, .int a9), (10, .int a10), (11, .int a11)] [.int t0] σ := by
  unfold m_L_acts_171 at h
  refine Z_istore hk (lv' := [(12, .int t0), (0, .ref (eA (kZ K) a0)), (1, .ref (eA (kZ K) a1)), (3, .int a3), (5, .long a5), (7, .int a7), (8, .int a8), (9, .int a9), (10, .int a10), (11, .int a11)]) dL_acts_171 (by decide) rfl ?_
  refine Z_iload hk 9 dL_acts_173 rfl ?_
  refine Z_iload hk 6 dL_acts_175 rfl ?_
  refine Z_icmp_ne hk (tgt := 185) dL_acts_177 (by decide) (fun c106 => ?_) (fun c106 => ?_)
  · have h := if_yes h c106
    refine Z_iload hk 7 dL_acts_180 rfl ?_
    refine Z_goto hk (tgt := 199) dL_acts_182 (by decide) ?_
    refine Z_sub [1, 2, 3, 4, 5, 6, 7, 8, 9, 0] rfl ?_
    exact w_L_acts_199 hk hfl hnx hq hw cs ss (by omega) (by omega) F k128 hk128 k138 hk138 a0 a1 a3 a5 a7 a8 a9 a10 a11 t0 a9 ha0 ha1 σ h
  · have h := if_no h c106
    refine Z_iload hk 9 dL_acts_185 rfl ?_
    refine Z_iload hk 7 dL_acts_187 rfl ?_
    refine Z_icmp_ne hk (tgt := 197) dL_acts_189 (by decide) (fun c107 => ?_) (fun c107 => ?_)
    · have h := if_yes h c107
      refine Z_iload hk 6 dL_acts_192 rfl ?_
      refine Z_goto hk (tgt := 199) dL_acts_194 (by decide) ?_
      refine Z_sub [1, 2, 3, 4, 5, 6, 7, 8, 9, 0] rfl ?_
      exact w_L_acts_199 hk hfl hnx hq hw cs ss (by omega) (by omega) F k128 hk128 k138 hk138 a0 a1 a3 a5 a7 a8 a9 a10 a11 t0 a8 ha0 ha1 σ h
    · have h := if_no h c107
      refine Z_iload hk 9 dL_acts_197 rfl ?_
      refine Z_sub [1, 2, 3, 4, 5, 6, 7, 8, 9, 0] rfl ?_
      exact w_L_acts_199 hk hfl hnx hq hw cs ss (by omega) (by omega) F k128 hk128 k138 hk138 a0 a1 a3 a5 a7 a8 a9 a10 a11 t0 a11 ha0 ha1 σ h
set_option maxRecDepth 100000 in
set_option maxHeartbeats 4000000 in
theorem w_L_acts_301 {K : zK} {w : Nat} (hk : zIs K RL cL_acts 14 wsL_acts (some .boolean) r_L_acts) (hfl : (kL K).stackTraces = false) (hnx : zNX K) {r0 : Int32} {τ0 : zST} (hq : zQG K (.inr (some (.int r0))) τ0) (hw : eN (kZ K) = w) (cs ss : Nat) (hb1 : cs + 0 ≤ 4) (hb2 : ss + 0 ≤ 24) (F : Nat) (k128 : Nat → Nat → Int32 → Int64 → Int32 → Int32 → Int32 → Int32 → zST → Option (Int32 × zST)) (hk128 : ∀ (a0 : Nat) (a1 : Nat) (a3 : Int32) (a5 : Int64) (a7 : Int32) (a8 : Int32) (a9 : Int32) (a10 : Int32) (ha0 : atCanonCote (kZ K) a0) (ha1 : aJ (kZ K) a1 4) (σ : zST), k128 a0 a1 a3 a5 a7 a8 a9 a10 σ = some (r0, τ0) → Z K cs ss 128 [(0, .ref (eA (kZ K) a0)), (1, .ref (eA (kZ K) a1)), (3, .int a3), (5, .long a5), (7, .int a7), (8, .int a8), (9, .int a9), (10, .int a10)] [] σ) (a0 : Nat) (a1 : Nat) (a3 : Int32) (a5 : Int64) (a7 : Int32) (a8 : Int32) (a9 : Int32) (a10 : Int32) (t0 : Int32) (t1 : Int64) (t2 : Int32) (t3 : Int64) (t4 : Int32) (t5 : Nat) (ha0 : atCanonCote (kZ K) a0) (ha1 : aJ (kZ K) a1 4) (ht5 : aJ (kZ K) t5 4) (σ : zST) (h : m_L_acts_301 F w k128 a0 a1 a3 a5 a7 a8 a9 a10 t0 t1 t2 t3 t4 t5 σ = some (r0, τ0)) : Z K cs ss 301 [(0, .ref (eA (kZ K) a0)), (1, .ref (eA (kZ K) a1)), (3, .int a3), (5, .long a5), (7, .int a7), (8, .int a8), (9, .int a9), (10, .int a10)] [.int t0, .long t1, .int t2, .long t3, .int t4, .ref (eA (kZ K) t5)] σ := by
  unfold m_L_acts_301 at h
  obtain ⟨x95, s96, h97, h⟩ := bd_ok h
  refine Z_callT 2 hk [.long t1, .int t0] (c_L_colour hk.loc hk.inj F t1 t0 σ h97) gL_acts_L_colour rfl ⟨rfl, rfl⟩ (by decide +kernel) ⟨Nat.le_of_ble_eq_true rfl, Nat.le_of_ble_eq_true rfl⟩ rfl rfl (Nat.le_of_ble_eq_true rfl) ⟨by show cs + 0 ≤ 4; omega, by show ss + 0 ≤ 24; omega⟩ dL_acts_301 ?_
  show Z K cs ss 304 [(0, .ref (eA (kZ K) a0)), (1, .ref (eA (kZ K) a1)), (3, .int a3), (5, .long a5), (7, .int a7), (8, .int a8), (9, .int a9), (10, .int a10)] [.int x95, .int t2, .long t3, .int t4, .ref (eA (kZ K) t5)] s96
  obtain ⟨x98, s99, h100, h⟩ := bd_ok h
  refine Z_callT 3 hk [.long t3, .int t2, .int x95] (c_L_coloured hk.loc hk.inj F t3 t2 x95 s96 h100) gL_acts_L_coloured rfl ⟨rfl, rfl⟩ (by decide +kernel) ⟨Nat.le_of_ble_eq_true rfl, Nat.le_of_ble_eq_true rfl⟩ rfl rfl (Nat.le_of_ble_eq_true rfl) ⟨by show cs + 0 ≤ 4; omega, by show ss + 0 ≤ 24; omega⟩ dL_acts_304 ?_
  show Z K cs ss 307 [(0, .ref (eA (kZ K) a0)), (1, .ref (eA (kZ K) a1)), (3, .int a3), (5, .long a5), (7, .int a7), (8, .int a8), (9, .int a9), (10, .int a10)] [.long x98, .int t4, .ref (eA (kZ K) t5)] s99
  obtain ⟨i103, s101, e102, h⟩ := stL_get h
  refine Z_last hk ht5 i103 dL_acts_307 ?_
  refine Z_eqS e102 ?_
  obtain ⟨x104, e105, h⟩ := nm_get h
  refine Z_iinc hk 7 (v := x104) (lv' := [(10, .int x104), (0, .ref (eA (kZ K) a0)), (1, .ref (eA (kZ K) a1)), (3, .int a3), (5, .long a5), (7, .int a7), (8, .int a8), (9, .int a9)]) dL_acts_308 rfl (by rw [zc_iinc_1]; exact e105) (by decide) rfl ?_
  refine Z_goto hk (tgt := 128) dL_acts_311 (by decide) ?_
  refine Z_sub [1, 2, 3, 4, 5, 6, 7, 0] rfl ?_
  exact hk128 a0 a1 a3 a5 a7 a8 a9 x104 ha0 ha1 s101 h
set_option maxRecDepth 100000 in
set_option maxHeartbeats 4000000 in
theorem w_L_acts_138 {K : zK} {w : Nat} (hk : zIs K RL cL_acts 14 wsL_acts (some .boolean) r_L_acts) (hfl : (kL K).stackTraces = false) (hnx : zNX K) {r0 : Int32} {τ0 : zST} (hq : zQG K (.inr (some (.int r0))) τ0) (hw : eN (kZ K) = w) (cs ss : Nat) (hb1 : cs + 0 ≤ 4) (hb2 : ss + 0 ≤ 24) (F : Nat) (k128 : Nat → Nat → Int32 → Int64 → Int32 → Int32 → Int32 → Int32 → zST → Option (Int32 × zST)) (hk128 : ∀ (a0 : Nat) (a1 : Nat) (a3 : Int32) (a5 : Int64) (a7 : Int32) (a8 : Int32) (a9 : Int32) (a10 : Int32) (ha0 : atCanonCote (kZ K) a0) (ha1 : aJ (kZ K) a1 4) (σ : zST), k128 a0 a1 a3 a5 a7 a8 a9 a10 σ = some (r0, τ0) → Z K cs ss 128 [(0, .ref (eA (kZ K) a0)), (1, .ref (eA (kZ K) a1)), (3, .int a3), (5, .long a5), (7, .int a7), (8, .int a8), (9, .int a9), (10, .int a10)] [] σ) : ∀ (n : Nat) (a0 : Nat) (a1 : Nat) (a3 : Int32) (a5 : Int64) (a7 : Int32) (a8 : Int32) (a9 : Int32) (a10 : Int32) (a11 : Int32) (ha0 : atCanonCote (kZ K) a0) (ha1 : aJ (kZ K) a1 4) (σ : zST), m_L_acts_138 F w k128 n a0 a1 a3 a5 a7 a8 a9 a10 a11 σ = some (r0, τ0) → Z K cs ss 138 [(0, .ref (eA (kZ K) a0)), (1, .ref (eA (kZ K) a1)), (3, .int a3), (5, .long a5), (7, .int a7), (8, .int a8), (9, .int a9), (10, .int a10), (11, .int a11)] [] σ := by
  intro n
  induction n with
  | zero => intro a0 a1 a3 a5 a7 a8 a9 a10 a11 ha0 ha1 σ h; cases h
  | succ n ih =>
    intro a0 a1 a3 a5 a7 a8 a9 a10 a11 ha0 ha1 σ h
    rw [m_L_acts_138] at h
    refine Z_iload hk 8 dL_acts_138 rfl ?_
    refine Z_iload hk 4 dL_acts_140 rfl ?_
    refine Z_icmp_ge hk (tgt := 266) dL_acts_142 (by decide) (fun c78 => ?_) (fun c78 => ?_)
    · have h := if_yes h c78
      refine Z_aload_n hk 1 dL_acts_266 rfl rfl ?_
      refine Z_iload_n hk 2 dL_acts_267 rfl rfl ?_
      refine Z_aload_n hk 1 dL_acts_268 rfl rfl ?_
      refine Z_iload_n hk 2 dL_acts_269 rfl rfl ?_
      obtain ⟨i81, x79, e80, h⟩ := ldL_get h
      refine Z_lald hk ha1 i81 dL_acts_270 ?_
      refine Z_eqL e80 ?_
      refine Z_iload hk 7 dL_acts_271 rfl ?_
      refine Z_lload hk 3 dL_acts_273 rfl ?_
      refine Z_iload hk 7 dL_acts_275 rfl ?_
      refine Z_iload hk 5 dL_acts_277 rfl ?_
      refine Z_icmp_ne hk (tgt := 287) dL_acts_279 (by decide) (fun c82 => ?_) (fun c82 => ?_)
      · have h := if_yes h c82
        refine Z_iload hk 6 dL_acts_282 rfl ?_
        refine Z_goto hk (tgt := 301) dL_acts_284 (by decide) ?_
        refine Z_sub [0, 1, 2, 3, 4, 5, 6, 7] rfl ?_
        exact w_L_acts_301 hk hfl hnx hq hw cs ss (by omega) (by omega) F k128 hk128 a0 a1 a3 a5 a7 a8 a9 a10 a9 a5 a10 x79 a3 a1 ha0 ha1 ha1 σ h
      · have h := if_no h c82
        refine Z_iload hk 7 dL_acts_287 rfl ?_
        refine Z_iload hk 6 dL_acts_289 rfl ?_
        refine Z_icmp_ne hk (tgt := 299) dL_acts_291 (by decide) (fun c83 => ?_) (fun c83 => ?_)
        · have h := if_yes h c83
          refine Z_iload hk 5 dL_acts_294 rfl ?_
          refine Z_goto hk (tgt := 301) dL_acts_296 (by decide) ?_
          refine Z_sub [0, 1, 2, 3, 4, 5, 6, 7] rfl ?_
          exact w_L_acts_301 hk hfl hnx hq hw cs ss (by omega) (by omega) F k128 hk128 a0 a1 a3 a5 a7 a8 a9 a10 a8 a5 a10 x79 a3 a1 ha0 ha1 ha1 σ h
        · have h := if_no h c83
          refine Z_iload hk 7 dL_acts_299 rfl ?_
          refine Z_sub [0, 1, 2, 3, 4, 5, 6, 7] rfl ?_
          exact w_L_acts_301 hk hfl hnx hq hw cs ss (by omega) (by omega) F k128 hk128 a0 a1 a3 a5 a7 a8 a9 a10 a10 a5 a10 x79 a3 a1 ha0 ha1 ha1 σ h
    · have h := if_no h c78
      refine Z_iload hk 7 dL_acts_145 rfl ?_
      refine Z_iload hk 5 dL_acts_147 rfl ?_
      refine Z_icmp_ne hk (tgt := 157) dL_acts_149 (by decide) (fun c84 => ?_) (fun c84 => ?_)
      · have h := if_yes h c84
        refine Z_iload hk 6 dL_acts_152 rfl ?_
        refine Z_goto hk (tgt := 171) dL_acts_154 (by decide) ?_
        refine Z_sub [0, 1, 2, 3, 4, 5, 6, 7, 8] rfl ?_
        exact w_L_acts_171 hk hfl hnx hq hw cs ss (by omega) (by omega) F k128 hk128 (m_L_acts_138 F w k128 n) ih a0 a1 a3 a5 a7 a8 a9 a10 a11 a9 ha0 ha1 σ h
      · have h := if_no h c84
        refine Z_iload hk 7 dL_acts_157 rfl ?_
        refine Z_iload hk 6 dL_acts_159 rfl ?_
        refine Z_icmp_ne hk (tgt := 169) dL_acts_161 (by decide) (fun c85 => ?_) (fun c85 => ?_)
        · have h := if_yes h c85
          refine Z_iload hk 5 dL_acts_164 rfl ?_
          refine Z_goto hk (tgt := 171) dL_acts_166 (by decide) ?_
          refine Z_sub [0, 1, 2, 3, 4, 5, 6, 7, 8] rfl ?_
          exact w_L_acts_171 hk hfl hnx hq hw cs ss (by omega) (by omega) F k128 hk128 (m_L_acts_138 F w k128 n) ih a0 a1 a3 a5 a7 a8 a9 a10 a11 a8 ha0 ha1 σ h
        · have h := if_no h c85
          refine Z_iload hk 7 dL_acts_169 rfl ?_
          refine Z_sub [0, 1, 2, 3, 4, 5, 6, 7, 8] rfl ?_
          exact w_L_acts_171 hk hfl hnx hq hw cs ss (by omega) (by omega) F k128 hk128 (m_L_acts_138 F w k128 n) ih a0 a1 a3 a5 a7 a8 a9 a10 a11 a10 ha0 ha1 σ h
set_option maxRecDepth 100000 in
set_option maxHeartbeats 4000000 in
theorem w_L_acts_128 {K : zK} {w : Nat} (hk : zIs K RL cL_acts 14 wsL_acts (some .boolean) r_L_acts) (hfl : (kL K).stackTraces = false) (hnx : zNX K) {r0 : Int32} {τ0 : zST} (hq : zQG K (.inr (some (.int r0))) τ0) (hw : eN (kZ K) = w) (cs ss : Nat) (hb1 : cs + 3 ≤ 4) (hb2 : ss + 18 ≤ 24) (F : Nat) : ∀ (n : Nat) (a0 : Nat) (a1 : Nat) (a3 : Int32) (a5 : Int64) (a7 : Int32) (a8 : Int32) (a9 : Int32) (a10 : Int32) (ha0 : atCanonCote (kZ K) a0) (ha1 : aJ (kZ K) a1 4) (σ : zST), m_L_acts_128 F w n a0 a1 a3 a5 a7 a8 a9 a10 σ = some (r0, τ0) → Z K cs ss 128 [(0, .ref (eA (kZ K) a0)), (1, .ref (eA (kZ K) a1)), (3, .int a3), (5, .long a5), (7, .int a7), (8, .int a8), (9, .int a9), (10, .int a10)] [] σ := by
  intro n
  induction n with
  | zero => intro a0 a1 a3 a5 a7 a8 a9 a10 ha0 ha1 σ h; cases h
  | succ n ih =>
    intro a0 a1 a3 a5 a7 a8 a9 a10 ha0 ha1 σ h
    rw [m_L_acts_128] at h
    refine Z_iload hk 7 dL_acts_128 rfl ?_
    refine Z_iload hk 4 dL_acts_130 rfl ?_
    refine Z_icmp_ge hk (tgt := 314) dL_acts_132 (by decide) (fun c46 => ?_) (fun c46 => ?_)
    · have h := if_yes h c46
      refine Z_aload_n hk 0 dL_acts_314 rfl rfl ?_
      refine Z_iload_n hk 2 dL_acts_315 rfl rfl ?_
      refine Z_iload hk 5 dL_acts_316 rfl ?_
      refine Z_iload hk 6 dL_acts_318 rfl ?_
      obtain ⟨x47, s48, h49, h⟩ := br_ok h
      refine ZX_callV 3 hk [.int a3, .int a8, .int a9] (c_X7_swap hk.loc hk.inj hfl F a0 a3 a8 a9 ha0 σ h49) gL_acts_X7_swap rfl ⟨rfl, by decide +kernel, by decide +kernel, by decide +kernel⟩ ⟨Nat.le_of_ble_eq_true rfl, Nat.le_of_ble_eq_true rfl⟩ ha0.cell.1 (ha0.cell.2 _) rfl rfl rfl (Nat.le_of_ble_eq_true rfl) ⟨by show cs + 3 ≤ 4; omega, by show ss + 18 ≤ 24; omega⟩ dL_acts_320 (fun X hX => by cases hX) (fun v hv => ?_)
      cases hv
      show Z K (cs + 3) (ss + 18) 323 [(0, .ref (eA (kZ K) a0)), (1, .ref (eA (kZ K) a1)), (3, .int a3), (5, .long a5), (7, .int a7), (8, .int a8), (9, .int a9), (10, .int a10)] [] s48
      refine Z_iconst hk dL_acts_323 zc_iconst_1 ?_
      cases h
      exact ZG_zret hk (by decide) hq ⟨by show (cs + 3) + 0 ≤ 4; omega, by show (ss + 18) + 0 ≤ 24; omega⟩ dL_acts_324
    · have h := if_no h c46
      refine Z_iconst hk dL_acts_135 zc_iconst_0 ?_
      refine Z_istore hk (lv' := [(11, .int 0), (0, .ref (eA (kZ K) a0)), (1, .ref (eA (kZ K) a1)), (3, .int a3), (5, .long a5), (7, .int a7), (8, .int a8), (9, .int a9), (10, .int a10)]) dL_acts_136 (by decide) rfl ?_
      refine Z_sub [1, 2, 3, 4, 5, 6, 7, 8, 0] rfl ?_
      exact w_L_acts_138 hk hfl hnx hq hw cs ss (by omega) (by omega) F (m_L_acts_128 F w n) ih F a0 a1 a3 a5 a7 a8 a9 a10 0 ha0 ha1 σ h
set_option maxRecDepth 100000 in
set_option maxHeartbeats 4000000 in
theorem w_L_acts_456 {K : zK} {w : Nat} (hk : zIs K RL cL_acts 14 wsL_acts (some .boolean) r_L_acts) (hfl : (kL K).stackTraces = false) (hnx : zNX K) {r0 : Int32} {τ0 : zST} (hq : zQG K (.inr (some (.int r0))) τ0) (hw : eN (kZ K) = w) (cs ss : Nat) (hb1 : cs + 0 ≤ 4) (hb2 : ss + 0 ≤ 24) (F : Nat) (k366 : Nat → Nat → Int32 → Int64 → Int32 → Int32 → Int32 → zST → Option (Int32 × zST)) (hk366 : ∀ (a0 : Nat) (a1 : Nat) (a3 : Int32) (a5 : Int64) (a7 : Int32) (a10 : Int32) (a11 : Int32) (ha0 : atCanonCote (kZ K) a0) (ha1 : aJ (kZ K) a1 4) (σ : zST), k366 a0 a1 a3 a5 a7 a10 a11 σ = some (r0, τ0) → Z K cs ss 366 [(0, .ref (eA (kZ K) a0)), (1, .ref (eA (kZ K) a1)), (3, .int a3), (5, .long a5), (7, .int a7), (10, .int a10), (11, .int a11)] [] σ) (a0 : Nat) (a1 : Nat) (a3 : Int32) (a5 : Int64) (a7 : Int32) (a11 : Int32) (t0 : Int32) (t1 : Int32) (ha0 : atCanonCote (kZ K) a0) (ha1 : aJ (kZ K) a1 4) (σ : zST) (h : m_L_acts_456 F w k366 a0 a1 a3 a5 a7 a11 t0 t1 σ = some (r0, τ0)) : Z K cs ss 456 [(0, .ref (eA (kZ K) a0)), (1, .ref (eA (kZ K) a1)), (3, .int a3), (5, .long a5), (7, .int a7), (11, .int a11)] [.int t0, .int t1] σ := by
  unfold m_L_acts_456 at h
  refine Z_iadd hk dL_acts_456 ?_
  obtain ⟨x135, e136, h⟩ := nm_get h
  refine Z_eqI e136 ?_
  refine Z_istore hk (lv' := [(10, .int x135), (0, .ref (eA (kZ K) a0)), (1, .ref (eA (kZ K) a1)), (3, .int a3), (5, .long a5), (7, .int a7), (11, .int a11)]) dL_acts_457 (by decide) rfl ?_
  obtain ⟨x137, e138, h⟩ := nm_get h
  refine Z_iinc hk 6 (v := x137) (lv' := [(11, .int x137), (10, .int x135), (0, .ref (eA (kZ K) a0)), (1, .ref (eA (kZ K) a1)), (3, .int a3), (5, .long a5), (7, .int a7)]) dL_acts_459 rfl (by rw [zc_iinc_1]; exact e138) (by decide) rfl ?_
  refine Z_goto hk (tgt := 366) dL_acts_462 (by decide) ?_
  refine Z_sub [2, 3, 4, 5, 6, 1, 0] rfl ?_
  exact hk366 a0 a1 a3 a5 a7 x135 x137 ha0 ha1 σ h
set_option maxRecDepth 100000 in
set_option maxHeartbeats 4000000 in
theorem w_L_acts_455 {K : zK} {w : Nat} (hk : zIs K RL cL_acts 14 wsL_acts (some .boolean) r_L_acts) (hfl : (kL K).stackTraces = false) (hnx : zNX K) {r0 : Int32} {τ0 : zST} (hq : zQG K (.inr (some (.int r0))) τ0) (hw : eN (kZ K) = w) (cs ss : Nat) (hb1 : cs + 0 ≤ 4) (hb2 : ss + 0 ≤ 24) (F : Nat) (k366 : Nat → Nat → Int32 → Int64 → Int32 → Int32 → Int32 → zST → Option (Int32 × zST)) (hk366 : ∀ (a0 : Nat) (a1 : Nat) (a3 : Int32) (a5 : Int64) (a7 : Int32) (a10 : Int32) (a11 : Int32) (ha0 : atCanonCote (kZ K) a0) (ha1 : aJ (kZ K) a1 4) (σ : zST), k366 a0 a1 a3 a5 a7 a10 a11 σ = some (r0, τ0) → Z K cs ss 366 [(0, .ref (eA (kZ K) a0)), (1, .ref (eA (kZ K) a1)), (3, .int a3), (5, .long a5), (7, .int a7), (10, .int a10), (11, .int a11)] [] σ) (a0 : Nat) (a1 : Nat) (a3 : Int32) (a5 : Int64) (a7 : Int32) (a11 : Int32) (t0 : Int32) (ha0 : atCanonCote (kZ K) a0) (ha1 : aJ (kZ K) a1 4) (σ : zST) (h : m_L_acts_455 F w k366 a0 a1 a3 a5 a7 a11 t0 σ = some (r0, τ0)) : Z K cs ss 455 [(0, .ref (eA (kZ K) a0)), (1, .ref (eA (kZ K) a1)), (3, .int a3), (5, .long a5), (7, .int a7), (11, .int a11)] [.int t0] σ := by
  unfold m_L_acts_455 at h
  refine Z_iconst hk dL_acts_455 zc_iconst_0 ?_
  refine Z_sub [0, 1, 2, 3, 4, 5] rfl ?_
  exact w_L_acts_456 hk hfl hnx hq hw cs ss (by omega) (by omega) F k366 hk366 a0 a1 a3 a5 a7 a11 0 t0 ha0 ha1 σ h
set_option maxRecDepth 100000 in
set_option maxHeartbeats 4000000 in
theorem w_L_acts_424 {K : zK} {w : Nat} (hk : zIs K RL cL_acts 14 wsL_acts (some .boolean) r_L_acts) (hfl : (kL K).stackTraces = false) (hnx : zNX K) {r0 : Int32} {τ0 : zST} (hq : zQG K (.inr (some (.int r0))) τ0) (hw : eN (kZ K) = w) (cs ss : Nat) (hb1 : cs + 0 ≤ 4) (hb2 : ss + 0 ≤ 24) (F : Nat) (k366 : Nat → Nat → Int32 → Int64 → Int32 → Int32 → Int32 → zST → Option (Int32 × zST)) (hk366 : ∀ (a0 : Nat) (a1 : Nat) (a3 : Int32) (a5 : Int64) (a7 : Int32) (a10 : Int32) (a11 : Int32) (ha0 : atCanonCote (kZ K) a0) (ha1 : aJ (kZ K) a1 4) (σ : zST), k366 a0 a1 a3 a5 a7 a10 a11 σ = some (r0, τ0) → Z K cs ss 366 [(0, .ref (eA (kZ K) a0)), (1, .ref (eA (kZ K) a1)), (3, .int a3), (5, .long a5), (7, .int a7), (10, .int a10), (11, .int a11)] [] σ) (a0 : Nat) (a1 : Nat) (a3 : Int32) (a5 : Int64) (a7 : Int32) (a10 : Int32) (a11 : Int32) (a12 : Int32) (t0 : Int64) (t1 : Int64) (t2 : Int32) (t3 : Nat) (ha0 : atCanonCote (kZ K) a0) (ha1 : aJ (kZ K) a1 4) (ht3 : aJ (kZ K) t3 4) (σ : zST) (h : m_L_acts_424 F w k366 a0 a1 a3 a5 a7 a10 a11 a12 t0 t1 t2 t3 σ = some (r0, τ0)) : Z K cs ss 424 [(0, .ref (eA (kZ K) a0)), (1, .ref (eA (kZ K) a1)), (3, .int a3), (5, .long a5), (7, .int a7), (10, .int a10), (11, .int a11), (12, .int a12)] [.long t0, .long t1, .int t2, .ref (eA (kZ K) t3)] σ := by
  unfold m_L_acts_424 at h
  refine Z_lxor hk dL_acts_424 ?_
  obtain ⟨i110, s108, e109, h⟩ := stL_get h
  refine Z_last hk ht3 i110 dL_acts_425 ?_
  refine Z_eqS e109 ?_
  refine Z_iload hk 5 dL_acts_426 rfl ?_
  refine Z_iload hk 7 dL_acts_428 rfl ?_
  refine Z_if_eq hk (tgt := 455) dL_acts_430 (by decide) (fun c111 => ?_) (fun c111 => ?_)
  · have h := if_yes h c111
    refine Z_sub [0, 1, 2, 3, 4, 6] rfl ?_
    exact w_L_acts_455 hk hfl hnx hq hw cs ss (by omega) (by omega) F k366 hk366 a0 a1 a3 a5 a7 a11 a10 ha0 ha1 s108 h
  · have h := if_no h c111
    refine Z_lload hk 3 dL_acts_433 rfl ?_
    refine Z_iload hk 6 dL_acts_435 rfl ?_
    refine Z_iload hk 4 dL_acts_437 rfl ?_
    obtain ⟨z112, h⟩ := gd_some h
    refine Z_idiv hk dL_acts_439 z112 ?_
    refine Z_iload hk 6 dL_acts_440 rfl ?_
    refine Z_iload hk 4 dL_acts_442 rfl ?_
    obtain ⟨z113, h⟩ := gd_some h
    refine Z_irem hk dL_acts_444 z113 ?_
    obtain ⟨x114, s115, h116, h⟩ := bd_ok h
    refine Z_callT 3 hk [.long a5, .int (a11 / a7), .int (a11 - a11 / a7 * a7)] (c_L_edge hk.loc hk.inj F a5 (a11 / a7) (a11 - a11 / a7 * a7) s108 h116) gL_acts_L_edge rfl ⟨rfl, rfl⟩ (by decide +kernel) ⟨Nat.le_of_ble_eq_true rfl, Nat.le_of_ble_eq_true rfl⟩ rfl rfl (Nat.le_of_ble_eq_true rfl) ⟨by show cs + 0 ≤ 4; omega, by show ss + 0 ≤ 24; omega⟩ dL_acts_445 ?_
    show Z K cs ss 448 [(0, .ref (eA (kZ K) a0)), (1, .ref (eA (kZ K) a1)), (3, .int a3), (5, .long a5), (7, .int a7), (10, .int a10), (11, .int a11), (12, .int a12)] [.int x114, .int a10] s115
    refine Z_if_ne hk (tgt := 455) dL_acts_448 (by decide) (fun c117 => ?_) (fun c117 => ?_)
    · have h := if_yes h c117
      refine Z_iconst hk dL_acts_451 zc_iconst_1 ?_
      refine Z_goto hk (tgt := 456) dL_acts_452 (by decide) ?_
      refine Z_sub [0, 1, 2, 3, 4, 6] rfl ?_
      exact w_L_acts_456 hk hfl hnx hq hw cs ss (by omega) (by omega) F k366 hk366 a0 a1 a3 a5 a7 a11 1 a10 ha0 ha1 s115 h
    · have h := if_no h c117
      refine Z_sub [0, 1, 2, 3, 4, 6] rfl ?_
      exact w_L_acts_455 hk hfl hnx hq hw cs ss (by omega) (by omega) F k366 hk366 a0 a1 a3 a5 a7 a11 a10 ha0 ha1 s115 h
set_option maxRecDepth 100000 in
set_option maxHeartbeats 4000000 in
theorem w_L_acts_394 {K : zK} {w : Nat} (hk : zIs K RL cL_acts 14 wsL_acts (some .boolean) r_L_acts) (hfl : (kL K).stackTraces = false) (hnx : zNX K) {r0 : Int32} {τ0 : zST} (hq : zQG K (.inr (some (.int r0))) τ0) (hw : eN (kZ K) = w) (cs ss : Nat) (hb1 : cs + 0 ≤ 4) (hb2 : ss + 0 ≤ 24) (F : Nat) (k366 : Nat → Nat → Int32 → Int64 → Int32 → Int32 → Int32 → zST → Option (Int32 × zST)) (hk366 : ∀ (a0 : Nat) (a1 : Nat) (a3 : Int32) (a5 : Int64) (a7 : Int32) (a10 : Int32) (a11 : Int32) (ha0 : atCanonCote (kZ K) a0) (ha1 : aJ (kZ K) a1 4) (σ : zST), k366 a0 a1 a3 a5 a7 a10 a11 σ = some (r0, τ0) → Z K cs ss 366 [(0, .ref (eA (kZ K) a0)), (1, .ref (eA (kZ K) a1)), (3, .int a3), (5, .long a5), (7, .int a7), (10, .int a10), (11, .int a11)] [] σ) (a0 : Nat) (a1 : Nat) (a3 : Int32) (a5 : Int64) (a7 : Int32) (a10 : Int32) (a11 : Int32) (t0 : Int32) (ha0 : atCanonCote (kZ K) a0) (ha1 : aJ (kZ K) a1 4) (σ : zST) (h : m_L_acts_394 F w k366 a0 a1 a3 a5 a7 a10 a11 t0 σ = some (r0, τ0)) : Z K cs ss 394 [(0, .ref (eA (kZ K) a0)), (1, .ref (eA (kZ K) a1)), (3, .int a3), (5, .long a5), (7, .int a7), (10, .int a10), (11, .int a11)] [.int t0] σ := by
  unfold m_L_acts_394 at h
  refine Z_istore hk (lv' := [(12, .int t0), (0, .ref (eA (kZ K) a0)), (1, .ref (eA (kZ K) a1)), (3, .int a3), (5, .long a5), (7, .int a7), (10, .int a10), (11, .int a11)]) dL_acts_394 (by decide) rfl ?_
  refine Z_aload_n hk 2 dL_acts_396 rfl rfl ?_
  refine Z_iload_n hk 3 dL_acts_397 rfl rfl ?_
  refine Z_dup2 hk dL_acts_398 rfl rfl ?_
  obtain ⟨i88, x86, e87, h⟩ := ldL_get h
  refine Z_lald hk ha1 i88 dL_acts_399 ?_
  refine Z_eqL e87 ?_
  refine Z_iload hk 0 dL_acts_400 rfl ?_
  refine Z_if_eq hk (tgt := 423) dL_acts_402 (by decide) (fun c89 => ?_) (fun c89 => ?_)
  · have h := if_yes h c89
    refine Z_lconst hk dL_acts_423 (v := 0) rfl ?_
    refine Z_sub [1, 2, 3, 4, 5, 6, 7, 0] rfl ?_
    exact w_L_acts_424 hk hfl hnx hq hw cs ss (by omega) (by omega) F k366 hk366 a0 a1 a3 a5 a7 a10 a11 t0 0 x86 a3 a1 ha0 ha1 ha1 σ h
  · have h := if_no h c89
    refine Z_lconst hk dL_acts_405 (v := 1) rfl ?_
    refine Z_iload hk 7 dL_acts_406 rfl ?_
    refine Z_iload hk 5 dL_acts_408 rfl ?_
    obtain ⟨z90, h⟩ := gd_some h
    refine Z_idiv hk dL_acts_410 z90 ?_
    refine Z_iload hk 7 dL_acts_411 rfl ?_
    refine Z_iload hk 5 dL_acts_413 rfl ?_
    obtain ⟨z91, h⟩ := gd_some h
    refine Z_irem hk dL_acts_415 z91 ?_
    obtain ⟨x92, s93, h94, h⟩ := bd_ok h
    refine Z_callT 2 hk [.int (a11 / a7), .int (a11 - a11 / a7 * a7)] (c_L_bit hk.loc hk.inj F (a11 / a7) (a11 - a11 / a7 * a7) σ h94) gL_acts_L_bit rfl ⟨rfl, rfl⟩ (by decide +kernel) ⟨Nat.le_of_ble_eq_true rfl, Nat.le_of_ble_eq_true rfl⟩ rfl rfl (Nat.le_of_ble_eq_true rfl) ⟨by show cs + 0 ≤ 4; omega, by show ss + 0 ≤ 24; omega⟩ dL_acts_416 ?_
    show Z K cs ss 419 [(12, .int t0), (0, .ref (eA (kZ K) a0)), (1, .ref (eA (kZ K) a1)), (3, .int a3), (5, .long a5), (7, .int a7), (10, .int a10), (11, .int a11)] [.int x92, .long 1, .long x86, .int a3, .ref (eA (kZ K) a1)] s93
    refine Z_lshl hk dL_acts_419 ?_
    refine Z_goto hk (tgt := 424) dL_acts_420 (by decide) ?_
    refine Z_sub [1, 2, 3, 4, 5, 6, 7, 0] rfl ?_
    exact w_L_acts_424 hk hfl hnx hq hw cs ss (by omega) (by omega) F k366 hk366 a0 a1 a3 a5 a7 a10 a11 t0 (jlshl 1 x92) x86 a3 a1 ha0 ha1 ha1 s93 h
set_option maxRecDepth 100000 in
set_option maxHeartbeats 4000000 in
theorem w_L_acts_366 {K : zK} {w : Nat} (hk : zIs K RL cL_acts 14 wsL_acts (some .boolean) r_L_acts) (hfl : (kL K).stackTraces = false) (hnx : zNX K) {r0 : Int32} {τ0 : zST} (hq : zQG K (.inr (some (.int r0))) τ0) (hw : eN (kZ K) = w) (cs ss : Nat) (hb1 : cs + 1 ≤ 4) (hb2 : ss + 6 ≤ 24) (F : Nat) : ∀ (n : Nat) (a0 : Nat) (a1 : Nat) (a3 : Int32) (a5 : Int64) (a7 : Int32) (a10 : Int32) (a11 : Int32) (ha0 : atCanonCote (kZ K) a0) (ha1 : aJ (kZ K) a1 4) (σ : zST), m_L_acts_366 F w n a0 a1 a3 a5 a7 a10 a11 σ = some (r0, τ0) → Z K cs ss 366 [(0, .ref (eA (kZ K) a0)), (1, .ref (eA (kZ K) a1)), (3, .int a3), (5, .long a5), (7, .int a7), (10, .int a10), (11, .int a11)] [] σ := by
  intro n
  induction n with
  | zero => intro a0 a1 a3 a5 a7 a10 a11 ha0 ha1 σ h; cases h
  | succ n ih =>
    intro a0 a1 a3 a5 a7 a10 a11 ha0 ha1 σ h
    rw [m_L_acts_366] at h
    refine Z_iload hk 6 dL_acts_366 rfl ?_
    refine Z_iload hk 4 dL_acts_368 rfl ?_
    refine Z_iload hk 4 dL_acts_370 rfl ?_
    refine Z_imul hk dL_acts_372 ?_
    refine Z_icmp_ge hk (tgt := 465) dL_acts_373 (by decide) (fun c50 => ?_) (fun c50 => ?_)
    · have h := if_yes h c50
      refine Z_aload_n hk 0 dL_acts_465 rfl rfl ?_
      refine Z_iload_n hk 2 dL_acts_466 rfl rfl ?_
      obtain ⟨x51, s52, h53, h⟩ := br_ok h
      refine ZX_callV 1 hk [.int a3] (c_X7_complement hk.loc hk.inj hfl F a0 a3 ha0 σ h53) gL_acts_X7_complement rfl ⟨rfl, by decide +kernel, by decide +kernel, by decide +kernel⟩ ⟨Nat.le_of_ble_eq_true rfl, Nat.le_of_ble_eq_true rfl⟩ ha0.cell.1 (ha0.cell.2 _) rfl rfl rfl (Nat.le_of_ble_eq_true rfl) ⟨by show cs + 1 ≤ 4; omega, by show ss + 6 ≤ 24; omega⟩ dL_acts_467 (fun X hX => by cases hX) (fun v hv => ?_)
      cases hv
      show Z K (cs + 1) (ss + 6) 470 [(0, .ref (eA (kZ K) a0)), (1, .ref (eA (kZ K) a1)), (3, .int a3), (5, .long a5), (7, .int a7), (10, .int a10), (11, .int a11)] [.int x51] s52
      refine Z_iload hk 5 dL_acts_470 rfl ?_
      refine Z_icmp_ne hk (tgt := 479) dL_acts_472 (by decide) (fun c54 => ?_) (fun c54 => ?_)
      · have h := if_yes h c54
        refine Z_iconst hk dL_acts_475 zc_iconst_1 ?_
        refine Z_goto hk (tgt := 480) dL_acts_476 (by decide) ?_
        cases h
        exact ZG_zret hk (by decide) hq ⟨by show (cs + 1) + 0 ≤ 4; omega, by show (ss + 6) + 0 ≤ 24; omega⟩ dL_acts_480
      · have h := if_no h c54
        refine Z_iconst hk dL_acts_479 zc_iconst_0 ?_
        cases h
        exact ZG_zret hk (by decide) hq ⟨by show (cs + 1) + 0 ≤ 4; omega, by show (ss + 6) + 0 ≤ 24; omega⟩ dL_acts_480
    · have h := if_no h c50
      refine Z_iload hk 6 dL_acts_376 rfl ?_
      refine Z_iload hk 4 dL_acts_378 rfl ?_
      obtain ⟨z55, h⟩ := gd_some h
      refine Z_idiv hk dL_acts_380 z55 ?_
      refine Z_iload hk 6 dL_acts_381 rfl ?_
      refine Z_iload hk 4 dL_acts_383 rfl ?_
      obtain ⟨z56, h⟩ := gd_some h
      refine Z_irem hk dL_acts_385 z56 ?_
      refine Z_icmp_ge hk (tgt := 393) dL_acts_386 (by decide) (fun c57 => ?_) (fun c57 => ?_)
      · have h := if_yes h c57
        refine Z_iconst hk dL_acts_393 zc_iconst_0 ?_
        refine Z_sub [0, 1, 2, 3, 4, 5, 6] rfl ?_
        exact w_L_acts_394 hk hfl hnx hq hw cs ss (by omega) (by omega) F (m_L_acts_366 F w n) ih a0 a1 a3 a5 a7 a10 a11 0 ha0 ha1 σ h
      · have h := if_no h c57
        refine Z_iconst hk dL_acts_389 zc_iconst_1 ?_
        refine Z_goto hk (tgt := 394) dL_acts_390 (by decide) ?_
        refine Z_sub [0, 1, 2, 3, 4, 5, 6] rfl ?_
        exact w_L_acts_394 hk hfl hnx hq hw cs ss (by omega) (by omega) F (m_L_acts_366 F w n) ih a0 a1 a3 a5 a7 a10 a11 1 ha0 ha1 σ h
set_option maxRecDepth 100000 in
set_option maxHeartbeats 4000000 in
theorem w_L_acts_500 {K : zK} {w : Nat} (hk : zIs K RL cL_acts 14 wsL_acts (some .boolean) r_L_acts) (hfl : (kL K).stackTraces = false) (hnx : zNX K) {r0 : Int32} {τ0 : zST} (hq : zQG K (.inr (some (.int r0))) τ0) (hw : eN (kZ K) = w) (cs ss : Nat) (hb1 : cs + 4 ≤ 4) (hb2 : ss + 24 ≤ 24) (F : Nat) (a0 : Nat) (a1 : Nat) (a3 : Int32) (a8 : Int32) (t0 : Int32) (ha0 : atCanonCote (kZ K) a0) (ha1 : aJ (kZ K) a1 4) (σ : zST) (h : m_L_acts_500 F w a0 a1 a3 a8 t0 σ = some (r0, τ0)) : Z K cs ss 500 [(0, .ref (eA (kZ K) a0)), (1, .ref (eA (kZ K) a1)), (3, .int a3), (8, .int a8)] [.int t0] σ := by
  unfold m_L_acts_500 at h
  refine Z_istore hk (lv' := [(9, .int t0), (0, .ref (eA (kZ K) a0)), (1, .ref (eA (kZ K) a1)), (3, .int a3), (8, .int a8)]) dL_acts_500 (by decide) rfl ?_
  refine Z_iload hk 4 dL_acts_502 rfl ?_
  refine Z_iload hk 0 dL_acts_504 rfl ?_
  refine Z_icmp_ne hk (tgt := 511) dL_acts_506 (by decide) (fun c58 => ?_) (fun c58 => ?_)
  · have h := if_yes h c58
    refine Z_iconst hk dL_acts_509 zc_iconst_1 ?_
    cases h
    exact ZG_zret hk (by decide) hq ⟨by show cs + 0 ≤ 4; omega, by show ss + 0 ≤ 24; omega⟩ dL_acts_510
  · have h := if_no h c58
    refine Z_aload_n hk 2 dL_acts_511 rfl rfl ?_
    refine Z_iload_n hk 3 dL_acts_512 rfl rfl ?_
    refine Z_dup2 hk dL_acts_513 rfl rfl ?_
    obtain ⟨i61, x59, e60, h⟩ := ldL_get h
    refine Z_lald hk ha1 i61 dL_acts_514 ?_
    refine Z_eqL e60 ?_
    refine Z_lconst hk dL_acts_515 (v := 1) rfl ?_
    refine Z_iload hk 4 dL_acts_516 rfl ?_
    refine Z_iload hk 0 dL_acts_518 rfl ?_
    obtain ⟨x62, s63, h64, h⟩ := bd_ok h
    refine Z_callT 2 hk [.int a8, .int t0] (c_L_bit hk.loc hk.inj F a8 t0 σ h64) gL_acts_L_bit rfl ⟨rfl, rfl⟩ (by decide +kernel) ⟨Nat.le_of_ble_eq_true rfl, Nat.le_of_ble_eq_true rfl⟩ rfl rfl (Nat.le_of_ble_eq_true rfl) ⟨by show cs + 0 ≤ 4; omega, by show ss + 0 ≤ 24; omega⟩ dL_acts_520 ?_
    show Z K cs ss 523 [(9, .int t0), (0, .ref (eA (kZ K) a0)), (1, .ref (eA (kZ K) a1)), (3, .int a3), (8, .int a8)] [.int x62, .long 1, .long x59, .int a3, .ref (eA (kZ K) a1)] s63
    refine Z_lshl hk dL_acts_523 ?_
    refine Z_lxor hk dL_acts_524 ?_
    obtain ⟨i67, s65, e66, h⟩ := stL_get h
    refine Z_last hk ha1 i67 dL_acts_525 ?_
    refine Z_eqS e66 ?_
    refine Z_aload_n hk 1 dL_acts_526 rfl rfl ?_
    refine Z_iload_n hk 3 dL_acts_527 rfl rfl ?_
    refine Z_iload hk 4 dL_acts_528 rfl ?_
    refine Z_iload hk 0 dL_acts_530 rfl ?_
    obtain ⟨x68, s69, h70, h⟩ := br_ok h
    refine ZX_callV 3 hk [.int a3, .int a8, .int t0] (c_X7_toggle hk.loc hk.inj hfl F a0 a3 a8 t0 ha0 s65 h70) gL_acts_X7_toggle rfl ⟨rfl, by decide +kernel, by decide +kernel, by decide +kernel⟩ ⟨Nat.le_of_ble_eq_true rfl, Nat.le_of_ble_eq_true rfl⟩ ha0.cell.1 (ha0.cell.2 _) rfl rfl rfl (Nat.le_of_ble_eq_true rfl) ⟨by show cs + 4 ≤ 4; omega, by show ss + 24 ≤ 24; omega⟩ dL_acts_532 (fun X hX => by cases hX) (fun v hv => ?_)
    cases hv
    show Z K (cs + 4) (ss + 24) 535 [(9, .int t0), (0, .ref (eA (kZ K) a0)), (1, .ref (eA (kZ K) a1)), (3, .int a3), (8, .int a8)] [.int x68] s69
    refine Z_aload_n hk 2 dL_acts_535 rfl rfl ?_
    refine Z_iload_n hk 3 dL_acts_536 rfl rfl ?_
    obtain ⟨i73, x71, e72, h⟩ := ldL_get h
    refine Z_lald hk ha1 i73 dL_acts_537 ?_
    refine Z_eqL e72 ?_
    refine Z_iload hk 4 dL_acts_538 rfl ?_
    refine Z_iload hk 0 dL_acts_540 rfl ?_
    obtain ⟨x74, s75, h76, h⟩ := bd_ok h
    refine Z_callT 3 hk [.long x71, .int a8, .int t0] (c_L_edge hk.loc hk.inj F x71 a8 t0 s69 h76) gL_acts_L_edge rfl ⟨rfl, rfl⟩ (by decide +kernel) ⟨Nat.le_of_ble_eq_true rfl, Nat.le_of_ble_eq_true rfl⟩ rfl rfl (Nat.le_of_ble_eq_true rfl) ⟨by show (cs + 4) + 0 ≤ 4; omega, by show (ss + 24) + 0 ≤ 24; omega⟩ dL_acts_542 ?_
    show Z K (cs + 4) (ss + 24) 545 [(9, .int t0), (0, .ref (eA (kZ K) a0)), (1, .ref (eA (kZ K) a1)), (3, .int a3), (8, .int a8)] [.int x74, .int x68] s75
    refine Z_icmp_ne hk (tgt := 552) dL_acts_545 (by decide) (fun c77 => ?_) (fun c77 => ?_)
    · have h := if_yes h c77
      refine Z_iconst hk dL_acts_548 zc_iconst_1 ?_
      refine Z_goto hk (tgt := 553) dL_acts_549 (by decide) ?_
      cases h
      exact ZG_zret hk (by decide) hq ⟨by show (cs + 4) + 0 ≤ 4; omega, by show (ss + 24) + 0 ≤ 24; omega⟩ dL_acts_553
    · have h := if_no h c77
      refine Z_iconst hk dL_acts_552 zc_iconst_0 ?_
      cases h
      exact ZG_zret hk (by decide) hq ⟨by show (cs + 4) + 0 ≤ 4; omega, by show (ss + 24) + 0 ≤ 24; omega⟩ dL_acts_553
set_option maxRecDepth 100000 in
set_option maxHeartbeats 4000000 in
theorem w_L_acts {K : zK} {w : Nat} (hk : zIs K RL cL_acts 14 wsL_acts (some .boolean) r_L_acts) (hfl : (kL K).stackTraces = false) (hnx : zNX K) {r0 : Int32} {τ0 : zST} (hq : zQG K (.inr (some (.int r0))) τ0) (hw : eN (kZ K) = w) (F : Nat) (a0 : Nat) (a1 : Nat) (a2 : Int32) (a3 : Int32) (a4 : Int32) (ha0 : atCanonCote (kZ K) a0) (ha1 : aJ (kZ K) a1 4) (σ : zST) (h : m_L_acts F w a0 a1 a2 a3 a4 σ = some (r0, τ0)) : Z K 0 0 0 [(0, .ref (eA (kZ K) a0)), (1, .ref (eA (kZ K) a1)), (2, .int a2), (3, .int a3), (4, .int a4)] [] σ := by
  unfold m_L_acts at h
  refine Z_aload_n hk 1 dL_acts_0 rfl rfl ?_
  refine Z_iload_n hk 3 dL_acts_1 rfl rfl ?_
  obtain ⟨i3, x1, e2, h⟩ := ldL_get h
  refine Z_lald hk ha1 i3 dL_acts_2 ?_
  refine Z_eqL e2 ?_
  refine Z_lstore hk (lv' := [(5, .long x1), (0, .ref (eA (kZ K) a0)), (1, .ref (eA (kZ K) a1)), (2, .int a2), (3, .int a3), (4, .int a4)]) dL_acts_3 (by decide) rfl ?_
  refine Z_lload hk 0 dL_acts_5 rfl ?_
  obtain ⟨x4, s5, h6, h⟩ := bd_ok h
  refine Z_callT 1 hk [.long x1] (c_L_size hk.loc hk.inj F x1 σ h6) gL_acts_L_size rfl ⟨rfl, rfl⟩ (by decide +kernel) ⟨Nat.le_of_ble_eq_true rfl, Nat.le_of_ble_eq_true rfl⟩ rfl rfl (Nat.le_of_ble_eq_true rfl) ⟨by show 0 + 0 ≤ 4; omega, by show 0 + 0 ≤ 24; omega⟩ dL_acts_7 ?_
  show Z K 0 0 10 [(5, .long x1), (0, .ref (eA (kZ K) a0)), (1, .ref (eA (kZ K) a1)), (2, .int a2), (3, .int a3), (4, .int a4)] [.int x4] s5
  refine Z_istore hk (lv' := [(7, .int x4), (5, .long x1), (0, .ref (eA (kZ K) a0)), (1, .ref (eA (kZ K) a1)), (2, .int a2), (3, .int a3), (4, .int a4)]) dL_acts_10 (by decide) rfl ?_
  refine Z_iload hk 6 dL_acts_12 rfl ?_
  refine Z_iload hk 0 dL_acts_14 rfl ?_
  obtain ⟨z7, h⟩ := gd_some h
  refine Z_irem hk dL_acts_16 z7 ?_
  obtain ⟨x8, e9, h⟩ := nm_get h
  refine Z_eqI e9 ?_
  refine Z_istore hk (lv' := [(8, .int x8), (7, .int x4), (5, .long x1), (0, .ref (eA (kZ K) a0)), (1, .ref (eA (kZ K) a1)), (2, .int a2), (3, .int a3), (4, .int a4)]) dL_acts_17 (by decide) rfl ?_
  refine Z_iload hk 7 dL_acts_19 rfl ?_
  refine Z_bipush hk dL_acts_21 zc_bipush_8 ?_
  refine Z_idiv hk dL_acts_23 (by decide) ?_
  refine Z_iload hk 1 dL_acts_24 rfl ?_
  obtain ⟨z10, h⟩ := gd_some h
  refine Z_irem hk dL_acts_26 z10 ?_
  obtain ⟨x11, e12, h⟩ := nm_get h
  refine Z_eqI e12 ?_
  refine Z_istore hk (lv' := [(9, .int x11), (8, .int x8), (7, .int x4), (5, .long x1), (0, .ref (eA (kZ K) a0)), (1, .ref (eA (kZ K) a1)), (2, .int a2), (3, .int a3), (4, .int a4)]) dL_acts_27 (by decide) rfl ?_
  refine Z_iload_n hk 6 dL_acts_29 rfl rfl ?_
  refine Z_if_ne hk (tgt := 68) dL_acts_30 (by decide) (fun c13 => ?_) (fun c13 => ?_)
  · have h := if_yes h c13
    refine Z_aload_n hk 5 dL_acts_33 rfl rfl ?_
    refine Z_iload_n hk 7 dL_acts_34 rfl rfl ?_
    refine Z_iconst hk dL_acts_35 zc_iconst_1 ?_
    refine Z_iload hk 8 dL_acts_36 rfl ?_
    refine Z_iconst hk dL_acts_38 zc_iconst_5 ?_
    refine Z_irem hk dL_acts_39 (by decide) ?_
    refine Z_iadd hk dL_acts_40 ?_
    refine Z_i2l hk dL_acts_41 ?_
    refine Z_bipush hk dL_acts_42 zc_bipush_52 ?_
    refine Z_lshl hk dL_acts_44 ?_
    obtain ⟨i16, s14, e15, h⟩ := stL_get h
    refine Z_last hk ha1 i16 dL_acts_45 ?_
    refine Z_eqS e15 ?_
    refine Z_aload_n hk 4 dL_acts_46 rfl rfl ?_
    refine Z_iload_n hk 7 dL_acts_47 rfl rfl ?_
    refine Z_iconst hk dL_acts_48 zc_iconst_1 ?_
    refine Z_iload hk 8 dL_acts_49 rfl ?_
    refine Z_iconst hk dL_acts_51 zc_iconst_5 ?_
    refine Z_irem hk dL_acts_52 (by decide) ?_
    refine Z_iadd hk dL_acts_53 ?_
    obtain ⟨x17, s18, h19, h⟩ := br_ok h
    refine ZX_callV 2 hk [.int a3, .int (1 + (a4 - a4 / 5 * 5))] (c_X7_begin hk.loc hk.inj hfl F a0 a3 (1 + (a4 - a4 / 5 * 5)) ha0 s14 h19) gL_acts_X7_begin rfl ⟨rfl, by decide +kernel, by decide +kernel, by decide +kernel⟩ ⟨Nat.le_of_ble_eq_true rfl, Nat.le_of_ble_eq_true rfl⟩ ha0.cell.1 (ha0.cell.2 _) rfl rfl rfl (Nat.le_of_ble_eq_true rfl) ⟨by show 0 + 2 ≤ 4; omega, by show 0 + 12 ≤ 24; omega⟩ dL_acts_54 (fun X hX => by cases hX) (fun v hv => ?_)
    cases hv
    show Z K 2 12 57 [(9, .int x11), (8, .int x8), (7, .int x4), (5, .long x1), (0, .ref (eA (kZ K) a0)), (1, .ref (eA (kZ K) a1)), (2, .int a2), (3, .int a3), (4, .int a4)] [.int x17] s18
    refine Z_iload hk 2 dL_acts_57 rfl ?_
    refine Z_icmp_ne hk (tgt := 66) dL_acts_59 (by decide) (fun c20 => ?_) (fun c20 => ?_)
    · have h := if_yes h c20
      refine Z_iconst hk dL_acts_62 zc_iconst_1 ?_
      refine Z_goto hk (tgt := 67) dL_acts_63 (by decide) ?_
      cases h
      exact ZG_zret hk (by decide) hq ⟨by show 2 + 0 ≤ 4; omega, by show 12 + 0 ≤ 24; omega⟩ dL_acts_67
    · have h := if_no h c20
      refine Z_iconst hk dL_acts_66 zc_iconst_0 ?_
      cases h
      exact ZG_zret hk (by decide) hq ⟨by show 2 + 0 ≤ 4; omega, by show 12 + 0 ≤ 24; omega⟩ dL_acts_67
  · have h := if_no h c13
    refine Z_iload_n hk 6 dL_acts_68 rfl rfl ?_
    refine Z_iconst hk dL_acts_69 zc_iconst_1 ?_
    refine Z_icmp_ne hk (tgt := 120) dL_acts_70 (by decide) (fun c21 => ?_) (fun c21 => ?_)
    · have h := if_yes h c21
      refine Z_aload_n hk 5 dL_acts_73 rfl rfl ?_
      refine Z_iload_n hk 7 dL_acts_74 rfl rfl ?_
      refine Z_lload hk 3 dL_acts_75 rfl ?_
      refine Z_iload hk 1 dL_acts_77 rfl ?_
      refine Z_iload hk 8 dL_acts_79 rfl ?_
      refine Z_bipush hk dL_acts_81 zc_bipush_64 ?_
      refine Z_idiv hk dL_acts_83 (by decide) ?_
      refine Z_iconst hk dL_acts_84 zc_iconst_3 ?_
      refine Z_irem hk dL_acts_85 (by decide) ?_
      obtain ⟨x22, s23, h24, h⟩ := bd_ok h
      refine Z_callT 3 hk [.long x1, .int x8, .int ((a4 / 64) - (a4 / 64) / 3 * 3)] (c_L_coloured hk.loc hk.inj F x1 x8 ((a4 / 64) - (a4 / 64) / 3 * 3) s5 h24) gL_acts_L_coloured rfl ⟨rfl, rfl⟩ (by decide +kernel) ⟨Nat.le_of_ble_eq_true rfl, Nat.le_of_ble_eq_true rfl⟩ rfl rfl (Nat.le_of_ble_eq_true rfl) ⟨by show 0 + 0 ≤ 4; omega, by show 0 + 0 ≤ 24; omega⟩ dL_acts_86 ?_
      show Z K 0 0 89 [(9, .int x11), (8, .int x8), (7, .int x4), (5, .long x1), (0, .ref (eA (kZ K) a0)), (1, .ref (eA (kZ K) a1)), (2, .int a2), (3, .int a3), (4, .int a4)] [.long x22, .int a3, .ref (eA (kZ K) a1)] s23
      obtain ⟨i27, s25, e26, h⟩ := stL_get h
      refine Z_last hk ha1 i27 dL_acts_89 ?_
      refine Z_eqS e26 ?_
      refine Z_aload_n hk 4 dL_acts_90 rfl rfl ?_
      refine Z_iload_n hk 7 dL_acts_91 rfl rfl ?_
      refine Z_iload hk 1 dL_acts_92 rfl ?_
      refine Z_iload hk 8 dL_acts_94 rfl ?_
      refine Z_bipush hk dL_acts_96 zc_bipush_64 ?_
      refine Z_idiv hk dL_acts_98 (by decide) ?_
      refine Z_iconst hk dL_acts_99 zc_iconst_3 ?_
      refine Z_irem hk dL_acts_100 (by decide) ?_
      obtain ⟨x28, s29, h30, h⟩ := br_ok h
      refine ZX_callV 3 hk [.int a3, .int x8, .int ((a4 / 64) - (a4 / 64) / 3 * 3)] (c_X7_setColour hk.loc hk.inj hfl F a0 a3 x8 ((a4 / 64) - (a4 / 64) / 3 * 3) ha0 s25 h30) gL_acts_X7_setColour rfl ⟨rfl, by decide +kernel, by decide +kernel, by decide +kernel⟩ ⟨Nat.le_of_ble_eq_true rfl, Nat.le_of_ble_eq_true rfl⟩ ha0.cell.1 (ha0.cell.2 _) rfl rfl rfl (Nat.le_of_ble_eq_true rfl) ⟨by show 0 + 3 ≤ 4; omega, by show 0 + 18 ≤ 24; omega⟩ dL_acts_101 (fun X hX => by cases hX) (fun v hv => ?_)
      cases hv
      show Z K 3 18 104 [(9, .int x11), (8, .int x8), (7, .int x4), (5, .long x1), (0, .ref (eA (kZ K) a0)), (1, .ref (eA (kZ K) a1)), (2, .int a2), (3, .int a3), (4, .int a4)] [.int x28] s29
      refine Z_lload hk 3 dL_acts_104 rfl ?_
      refine Z_iload hk 1 dL_acts_106 rfl ?_
      obtain ⟨x31, s32, h33, h⟩ := bd_ok h
      refine Z_callT 2 hk [.long x1, .int x8] (c_L_colour hk.loc hk.inj F x1 x8 s29 h33) gL_acts_L_colour rfl ⟨rfl, rfl⟩ (by decide +kernel) ⟨Nat.le_of_ble_eq_true rfl, Nat.le_of_ble_eq_true rfl⟩ rfl rfl (Nat.le_of_ble_eq_true rfl) ⟨by show 3 + 0 ≤ 4; omega, by show 18 + 0 ≤ 24; omega⟩ dL_acts_108 ?_
      show Z K 3 18 111 [(9, .int x11), (8, .int x8), (7, .int x4), (5, .long x1), (0, .ref (eA (kZ K) a0)), (1, .ref (eA (kZ K) a1)), (2, .int a2), (3, .int a3), (4, .int a4)] [.int x31, .int x28] s32
      refine Z_icmp_ne hk (tgt := 118) dL_acts_111 (by decide) (fun c34 => ?_) (fun c34 => ?_)
      · have h := if_yes h c34
        refine Z_iconst hk dL_acts_114 zc_iconst_1 ?_
        refine Z_goto hk (tgt := 119) dL_acts_115 (by decide) ?_
        cases h
        exact ZG_zret hk (by decide) hq ⟨by show 3 + 0 ≤ 4; omega, by show 18 + 0 ≤ 24; omega⟩ dL_acts_119
      · have h := if_no h c34
        refine Z_iconst hk dL_acts_118 zc_iconst_0 ?_
        cases h
        exact ZG_zret hk (by decide) hq ⟨by show 3 + 0 ≤ 4; omega, by show 18 + 0 ≤ 24; omega⟩ dL_acts_119
    · have h := if_no h c21
      refine Z_iload_n hk 6 dL_acts_120 rfl rfl ?_
      refine Z_iconst hk dL_acts_121 zc_iconst_2 ?_
      refine Z_icmp_ne hk (tgt := 325) dL_acts_122 (by decide) (fun c35 => ?_) (fun c35 => ?_)
      · have h := if_yes h c35
        refine Z_iconst hk dL_acts_125 zc_iconst_0 ?_
        refine Z_istore hk (lv' := [(10, .int 0), (9, .int x11), (8, .int x8), (7, .int x4), (5, .long x1), (0, .ref (eA (kZ K) a0)), (1, .ref (eA (kZ K) a1)), (2, .int a2), (3, .int a3), (4, .int a4)]) dL_acts_126 (by decide) rfl ?_
        refine Z_sub [5, 6, 8, 4, 3, 2, 1, 0] rfl ?_
        exact w_L_acts_128 hk hfl hnx hq hw 0 0 (by omega) (by omega) F F a0 a1 a3 x1 x4 x8 x11 0 ha0 ha1 s5 h
      · have h := if_no h c35
        refine Z_iload_n hk 6 dL_acts_325 rfl rfl ?_
        refine Z_iconst hk dL_acts_326 zc_iconst_3 ?_
        refine Z_icmp_ne hk (tgt := 355) dL_acts_327 (by decide) (fun c36 => ?_) (fun c36 => ?_)
        · have h := if_yes h c36
          refine Z_aload_n hk 5 dL_acts_330 rfl rfl ?_
          refine Z_iload hk 8 dL_acts_331 rfl ?_
          refine Z_bipush hk dL_acts_333 zc_bipush_64 ?_
          refine Z_idiv hk dL_acts_335 (by decide) ?_
          refine Z_iconst hk dL_acts_336 zc_iconst_4 ?_
          refine Z_irem hk dL_acts_337 (by decide) ?_
          refine Z_lload hk 3 dL_acts_338 rfl ?_
          obtain ⟨i39, s37, e38, h⟩ := stL_get h
          refine Z_last hk ha1 i39 dL_acts_340 ?_
          refine Z_eqS e38 ?_
          refine Z_aload_n hk 4 dL_acts_341 rfl rfl ?_
          refine Z_iload_n hk 7 dL_acts_342 rfl rfl ?_
          refine Z_iload hk 8 dL_acts_343 rfl ?_
          refine Z_bipush hk dL_acts_345 zc_bipush_64 ?_
          refine Z_idiv hk dL_acts_347 (by decide) ?_
          refine Z_iconst hk dL_acts_348 zc_iconst_4 ?_
          refine Z_irem hk dL_acts_349 (by decide) ?_
          obtain ⟨x40, s41, h42, h⟩ := br_ok h
          refine ZX_callV 2 hk [.int a3, .int ((a4 / 64) - (a4 / 64) / 4 * 4)] (c_X7_copy hk.loc hk.inj hfl F a0 a3 ((a4 / 64) - (a4 / 64) / 4 * 4) ha0 s37 h42) gL_acts_X7_copy rfl ⟨rfl, by decide +kernel, by decide +kernel, by decide +kernel⟩ ⟨Nat.le_of_ble_eq_true rfl, Nat.le_of_ble_eq_true rfl⟩ ha0.cell.1 (ha0.cell.2 _) rfl rfl rfl (Nat.le_of_ble_eq_true rfl) ⟨by show 0 + 2 ≤ 4; omega, by show 0 + 12 ≤ 24; omega⟩ dL_acts_350 (fun X hX => by cases hX) (fun v hv => ?_)
          cases hv
          show Z K 2 12 353 [(9, .int x11), (8, .int x8), (7, .int x4), (5, .long x1), (0, .ref (eA (kZ K) a0)), (1, .ref (eA (kZ K) a1)), (2, .int a2), (3, .int a3), (4, .int a4)] [] s41
          refine Z_iconst hk dL_acts_353 zc_iconst_1 ?_
          cases h
          exact ZG_zret hk (by decide) hq ⟨by show 2 + 0 ≤ 4; omega, by show 12 + 0 ≤ 24; omega⟩ dL_acts_354
        · have h := if_no h c36
          refine Z_iload_n hk 6 dL_acts_355 rfl rfl ?_
          refine Z_iconst hk dL_acts_356 zc_iconst_4 ?_
          refine Z_icmp_ne hk (tgt := 481) dL_acts_357 (by decide) (fun c43 => ?_) (fun c43 => ?_)
          · have h := if_yes h c43
            refine Z_iconst hk dL_acts_360 zc_iconst_0 ?_
            refine Z_istore hk (lv' := [(10, .int 0), (9, .int x11), (8, .int x8), (7, .int x4), (5, .long x1), (0, .ref (eA (kZ K) a0)), (1, .ref (eA (kZ K) a1)), (2, .int a2), (3, .int a3), (4, .int a4)]) dL_acts_361 (by decide) rfl ?_
            refine Z_iconst hk dL_acts_363 zc_iconst_0 ?_
            refine Z_istore hk (lv' := [(11, .int 0), (10, .int 0), (9, .int x11), (8, .int x8), (7, .int x4), (5, .long x1), (0, .ref (eA (kZ K) a0)), (1, .ref (eA (kZ K) a1)), (2, .int a2), (3, .int a3), (4, .int a4)]) dL_acts_364 (by decide) rfl ?_
            refine Z_sub [6, 7, 9, 5, 4, 1, 0] rfl ?_
            exact w_L_acts_366 hk hfl hnx hq hw 0 0 (by omega) (by omega) F F a0 a1 a3 x1 x4 0 0 ha0 ha1 s5 h
          · have h := if_no h c43
            refine Z_iload hk 1 dL_acts_481 rfl ?_
            refine Z_iload hk 0 dL_acts_483 rfl ?_
            refine Z_icmp_ne hk (tgt := 498) dL_acts_485 (by decide) (fun c44 => ?_) (fun c44 => ?_)
            · have h := if_yes h c44
              refine Z_iload hk 1 dL_acts_488 rfl ?_
              refine Z_iconst hk dL_acts_490 zc_iconst_1 ?_
              refine Z_iadd hk dL_acts_491 ?_
              refine Z_iload hk 2 dL_acts_492 rfl ?_
              obtain ⟨z45, h⟩ := gd_some h
              refine Z_irem hk dL_acts_494 z45 ?_
              refine Z_goto hk (tgt := 500) dL_acts_495 (by decide) ?_
              refine Z_sub [4, 5, 7, 1] rfl ?_
              exact w_L_acts_500 hk hfl hnx hq hw 0 0 (by omega) (by omega) F a0 a1 a3 x8 ((x8 + 1) - (x8 + 1) / x4 * x4) ha0 ha1 s5 h
            · have h := if_no h c44
              refine Z_iload hk 0 dL_acts_498 rfl ?_
              refine Z_sub [4, 5, 7, 1] rfl ?_
              exact w_L_acts_500 hk hfl hnx hq hw 0 0 (by omega) (by omega) F a0 a1 a3 x8 x11 ha0 ha1 s5 h
theorem c_L_acts {l : Launch} {E : zE} (hL : eL E) (hJ : eJ E) (hfl : l.stackTraces = false) (F w : Nat) (hw : eN E = w) (a0 : Nat) (a1 : Nat) (a2 : Int32) (a3 : Int32) (a4 : Int32) (ha0 : atCanonCote E a0) (ha1 : aJ E a1 4) (σ : zST) {r0 : Int32} {τ0 : zST} (h : m_L_acts F w a0 a1 a2 a3 a4 σ = some (r0, τ0)) : CtX l yL_acts wsL_acts r_L_acts E [.ref (eA E a0), .ref (eA E a1), .int a2, .int a3, .int a4] σ (.inr (some (.int r0))) τ0 := by
  refine CtX_of (by decide) rfl hL hJ (Nat.le_of_ble_eq_true rfl) (fun K hE hl hk hnx hq => ?_)
  subst hE
  subst hl
  exact w_L_acts hk hfl hnx (zQG.of hq) hw F a0 a1 a2 a3 a4 ha0 ha1 σ h
end

-- CanonCoteLaw.isGroup (LCanonCote;[JII)Z
section
theorem dL_isGroup_0 : decode cL_isGroup 0 = .ok (.iload_n 3, 1) := by decide +kernel
theorem dL_isGroup_1 : decode cL_isGroup 1 = .ok (.bipush 48, 2) := by decide +kernel
theorem dL_isGroup_3 : decode cL_isGroup 3 = .ok (.irem, 1) := by decide +kernel
theorem dL_isGroup_4 : decode cL_isGroup 4 = .ok (.invokestatic 138, 3) := by decide +kernel
theorem dL_isGroup_7 : decode cL_isGroup 7 = .ok (.lstore 4, 2) := by decide +kernel
theorem dL_isGroup_9 : decode cL_isGroup 9 = .ok (.iconst 0, 1) := by decide +kernel
theorem dL_isGroup_10 : decode cL_isGroup 10 = .ok (.istore 6, 2) := by decide +kernel
theorem dL_isGroup_12 : decode cL_isGroup 12 = .ok (.iconst 0, 1) := by decide +kernel
theorem dL_isGroup_13 : decode cL_isGroup 13 = .ok (.istore 7, 2) := by decide +kernel
theorem dL_isGroup_15 : decode cL_isGroup 15 = .ok (.iconst 0, 1) := by decide +kernel
theorem dL_isGroup_16 : decode cL_isGroup 16 = .ok (.istore 8, 2) := by decide +kernel
theorem dL_isGroup_18 : decode cL_isGroup 18 = .ok (.iload_n 3, 1) := by decide +kernel
theorem dL_isGroup_19 : decode cL_isGroup 19 = .ok (.sipush 256, 3) := by decide +kernel
theorem dL_isGroup_22 : decode cL_isGroup 22 = .ok (.irem, 1) := by decide +kernel
theorem dL_isGroup_23 : decode cL_isGroup 23 = .ok (.istore 9, 2) := by decide +kernel
theorem dL_isGroup_25 : decode cL_isGroup 25 = .ok (.iconst 0, 1) := by decide +kernel
theorem dL_isGroup_26 : decode cL_isGroup 26 = .ok (.istore 10, 2) := by decide +kernel
theorem dL_isGroup_28 : decode cL_isGroup 28 = .ok (.iload 10, 2) := by decide +kernel
theorem dL_isGroup_30 : decode cL_isGroup 30 = .ok (.iload_n 2, 1) := by decide +kernel
theorem dL_isGroup_31 : decode cL_isGroup 31 = .ok (.if_icmp .ge 130, 3) := by decide +kernel
theorem dL_isGroup_34 : decode cL_isGroup 34 = .ok (.iload 6, 2) := by decide +kernel
theorem dL_isGroup_36 : decode cL_isGroup 36 = .ok (.ifCond .ne 13, 3) := by decide +kernel
theorem dL_isGroup_39 : decode cL_isGroup 39 = .ok (.aload_n 1, 1) := by decide +kernel
theorem dL_isGroup_40 : decode cL_isGroup 40 = .ok (.iload 10, 2) := by decide +kernel
theorem dL_isGroup_42 : decode cL_isGroup 42 = .ok (.laload, 1) := by decide +kernel
theorem dL_isGroup_43 : decode cL_isGroup 43 = .ok (.lload 4, 2) := by decide +kernel
theorem dL_isGroup_45 : decode cL_isGroup 45 = .ok (.lcmp, 1) := by decide +kernel
theorem dL_isGroup_46 : decode cL_isGroup 46 = .ok (.ifCond .ne 7, 3) := by decide +kernel
theorem dL_isGroup_49 : decode cL_isGroup 49 = .ok (.iconst 1, 1) := by decide +kernel
theorem dL_isGroup_50 : decode cL_isGroup 50 = .ok (.goto 4, 3) := by decide +kernel
theorem dL_isGroup_53 : decode cL_isGroup 53 = .ok (.iconst 0, 1) := by decide +kernel
theorem dL_isGroup_54 : decode cL_isGroup 54 = .ok (.istore 6, 2) := by decide +kernel
theorem dL_isGroup_56 : decode cL_isGroup 56 = .ok (.iload 7, 2) := by decide +kernel
theorem dL_isGroup_58 : decode cL_isGroup 58 = .ok (.iconst 1, 1) := by decide +kernel
theorem dL_isGroup_59 : decode cL_isGroup 59 = .ok (.aload_n 1, 1) := by decide +kernel
theorem dL_isGroup_60 : decode cL_isGroup 60 = .ok (.iload 10, 2) := by decide +kernel
theorem dL_isGroup_62 : decode cL_isGroup 62 = .ok (.laload, 1) := by decide +kernel
theorem dL_isGroup_63 : decode cL_isGroup 63 = .ok (.iconst 4, 1) := by decide +kernel
theorem dL_isGroup_64 : decode cL_isGroup 64 = .ok (.iload_n 3, 1) := by decide +kernel
theorem dL_isGroup_65 : decode cL_isGroup 65 = .ok (.bipush 8, 2) := by decide +kernel
theorem dL_isGroup_67 : decode cL_isGroup 67 = .ok (.irem, 1) := by decide +kernel
theorem dL_isGroup_68 : decode cL_isGroup 68 = .ok (.imul, 1) := by decide +kernel
theorem dL_isGroup_69 : decode cL_isGroup 69 = .ok (.lshr, 1) := by decide +kernel
theorem dL_isGroup_70 : decode cL_isGroup 70 = .ok (.ldc2_w 134, 3) := by decide +kernel
theorem dL_isGroup_73 : decode cL_isGroup 73 = .ok (.land, 1) := by decide +kernel
theorem dL_isGroup_74 : decode cL_isGroup 74 = .ok (.l2i, 1) := by decide +kernel
theorem dL_isGroup_75 : decode cL_isGroup 75 = .ok (.ishl, 1) := by decide +kernel
theorem dL_isGroup_76 : decode cL_isGroup 76 = .ok (.ior, 1) := by decide +kernel
theorem dL_isGroup_77 : decode cL_isGroup 77 = .ok (.istore 7, 2) := by decide +kernel
theorem dL_isGroup_79 : decode cL_isGroup 79 = .ok (.iconst 1, 1) := by decide +kernel
theorem dL_isGroup_80 : decode cL_isGroup 80 = .ok (.istore 11, 2) := by decide +kernel
theorem dL_isGroup_82 : decode cL_isGroup 82 = .ok (.iconst 0, 1) := by decide +kernel
theorem dL_isGroup_83 : decode cL_isGroup 83 = .ok (.istore 12, 2) := by decide +kernel
theorem dL_isGroup_85 : decode cL_isGroup 85 = .ok (.iload 12, 2) := by decide +kernel
theorem dL_isGroup_87 : decode cL_isGroup 87 = .ok (.bipush 8, 2) := by decide +kernel
theorem dL_isGroup_89 : decode cL_isGroup 89 = .ok (.if_icmp .ge 51, 3) := by decide +kernel
theorem dL_isGroup_92 : decode cL_isGroup 92 = .ok (.iload 11, 2) := by decide +kernel
theorem dL_isGroup_94 : decode cL_isGroup 94 = .ok (.ifCond .eq 37, 3) := by decide +kernel
theorem dL_isGroup_97 : decode cL_isGroup 97 = .ok (.iload 9, 2) := by decide +kernel
theorem dL_isGroup_99 : decode cL_isGroup 99 = .ok (.iload 12, 2) := by decide +kernel
theorem dL_isGroup_101 : decode cL_isGroup 101 = .ok (.ishr, 1) := by decide +kernel
theorem dL_isGroup_102 : decode cL_isGroup 102 = .ok (.iconst 1, 1) := by decide +kernel
theorem dL_isGroup_103 : decode cL_isGroup 103 = .ok (.iand, 1) := by decide +kernel
theorem dL_isGroup_104 : decode cL_isGroup 104 = .ok (.ifCond .eq 23, 3) := by decide +kernel
theorem dL_isGroup_107 : decode cL_isGroup 107 = .ok (.aload_n 1, 1) := by decide +kernel
theorem dL_isGroup_108 : decode cL_isGroup 108 = .ok (.iload 10, 2) := by decide +kernel
theorem dL_isGroup_110 : decode cL_isGroup 110 = .ok (.laload, 1) := by decide +kernel
theorem dL_isGroup_111 : decode cL_isGroup 111 = .ok (.iconst 4, 1) := by decide +kernel
theorem dL_isGroup_112 : decode cL_isGroup 112 = .ok (.iload 12, 2) := by decide +kernel
theorem dL_isGroup_114 : decode cL_isGroup 114 = .ok (.imul, 1) := by decide +kernel
theorem dL_isGroup_115 : decode cL_isGroup 115 = .ok (.lshr, 1) := by decide +kernel
theorem dL_isGroup_116 : decode cL_isGroup 116 = .ok (.ldc2_w 134, 3) := by decide +kernel
theorem dL_isGroup_119 : decode cL_isGroup 119 = .ok (.land, 1) := by decide +kernel
theorem dL_isGroup_120 : decode cL_isGroup 120 = .ok (.iload 12, 2) := by decide +kernel
theorem dL_isGroup_122 : decode cL_isGroup 122 = .ok (.i2l, 1) := by decide +kernel
theorem dL_isGroup_123 : decode cL_isGroup 123 = .ok (.lcmp, 1) := by decide +kernel
theorem dL_isGroup_124 : decode cL_isGroup 124 = .ok (.ifCond .ne 7, 3) := by decide +kernel
theorem dL_isGroup_127 : decode cL_isGroup 127 = .ok (.iconst 1, 1) := by decide +kernel
theorem dL_isGroup_128 : decode cL_isGroup 128 = .ok (.goto 4, 3) := by decide +kernel
theorem dL_isGroup_131 : decode cL_isGroup 131 = .ok (.iconst 0, 1) := by decide +kernel
theorem dL_isGroup_132 : decode cL_isGroup 132 = .ok (.istore 11, 2) := by decide +kernel
theorem dL_isGroup_134 : decode cL_isGroup 134 = .ok (.iinc 12 1, 3) := by decide +kernel
theorem dL_isGroup_137 : decode cL_isGroup 137 = .ok (.goto (-52), 3) := by decide +kernel
theorem dL_isGroup_140 : decode cL_isGroup 140 = .ok (.iload 8, 2) := by decide +kernel
theorem dL_isGroup_142 : decode cL_isGroup 142 = .ok (.iload 11, 2) := by decide +kernel
theorem dL_isGroup_144 : decode cL_isGroup 144 = .ok (.ifCond .eq 7, 3) := by decide +kernel
theorem dL_isGroup_147 : decode cL_isGroup 147 = .ok (.iconst 1, 1) := by decide +kernel
theorem dL_isGroup_148 : decode cL_isGroup 148 = .ok (.goto 4, 3) := by decide +kernel
theorem dL_isGroup_151 : decode cL_isGroup 151 = .ok (.iconst 0, 1) := by decide +kernel
theorem dL_isGroup_152 : decode cL_isGroup 152 = .ok (.iadd, 1) := by decide +kernel
theorem dL_isGroup_153 : decode cL_isGroup 153 = .ok (.istore 8, 2) := by decide +kernel
theorem dL_isGroup_155 : decode cL_isGroup 155 = .ok (.iinc 10 1, 3) := by decide +kernel
theorem dL_isGroup_158 : decode cL_isGroup 158 = .ok (.goto (-130), 3) := by decide +kernel
theorem dL_isGroup_161 : decode cL_isGroup 161 = .ok (.aload_n 0, 1) := by decide +kernel
theorem dL_isGroup_162 : decode cL_isGroup 162 = .ok (.invokevirtual 145, 3) := by decide +kernel
theorem dL_isGroup_165 : decode cL_isGroup 165 = .ok (.iload_n 2, 1) := by decide +kernel
theorem dL_isGroup_166 : decode cL_isGroup 166 = .ok (.if_icmp .ne 42, 3) := by decide +kernel
theorem dL_isGroup_169 : decode cL_isGroup 169 = .ok (.aload_n 0, 1) := by decide +kernel
theorem dL_isGroup_170 : decode cL_isGroup 170 = .ok (.lload 4, 2) := by decide +kernel
theorem dL_isGroup_172 : decode cL_isGroup 172 = .ok (.invokevirtual 149, 3) := by decide +kernel
theorem dL_isGroup_175 : decode cL_isGroup 175 = .ok (.iload 6, 2) := by decide +kernel
theorem dL_isGroup_177 : decode cL_isGroup 177 = .ok (.if_icmp .ne 31, 3) := by decide +kernel
theorem dL_isGroup_180 : decode cL_isGroup 180 = .ok (.aload_n 0, 1) := by decide +kernel
theorem dL_isGroup_181 : decode cL_isGroup 181 = .ok (.iload_n 3, 1) := by decide +kernel
theorem dL_isGroup_182 : decode cL_isGroup 182 = .ok (.bipush 8, 2) := by decide +kernel
theorem dL_isGroup_184 : decode cL_isGroup 184 = .ok (.irem, 1) := by decide +kernel
theorem dL_isGroup_185 : decode cL_isGroup 185 = .ok (.invokevirtual 153, 3) := by decide +kernel
theorem dL_isGroup_188 : decode cL_isGroup 188 = .ok (.iload 7, 2) := by decide +kernel
theorem dL_isGroup_190 : decode cL_isGroup 190 = .ok (.if_icmp .ne 18, 3) := by decide +kernel
theorem dL_isGroup_193 : decode cL_isGroup 193 = .ok (.aload_n 0, 1) := by decide +kernel
theorem dL_isGroup_194 : decode cL_isGroup 194 = .ok (.iload 9, 2) := by decide +kernel
theorem dL_isGroup_196 : decode cL_isGroup 196 = .ok (.invokevirtual 156, 3) := by decide +kernel
theorem dL_isGroup_199 : decode cL_isGroup 199 = .ok (.iload 8, 2) := by decide +kernel
theorem dL_isGroup_201 : decode cL_isGroup 201 = .ok (.if_icmp .ne 7, 3) := by decide +kernel
theorem dL_isGroup_204 : decode cL_isGroup 204 = .ok (.iconst 1, 1) := by decide +kernel
theorem dL_isGroup_205 : decode cL_isGroup 205 = .ok (.goto 4, 3) := by decide +kernel
theorem dL_isGroup_208 : decode cL_isGroup 208 = .ok (.iconst 0, 1) := by decide +kernel
theorem dL_isGroup_209 : decode cL_isGroup 209 = .ok (.ireturn, 1) := by decide +kernel
set_option maxRecDepth 20000 in
theorem ggL_isGroup_L_told : GoodIn wsL_isGroup wsL_told := goodIn_r _ [5, 6, 7, 8, 9, 4, 10, 11, 12, 13] (by decide +kernel) (by decide +kernel)
set_option maxRecDepth 20000 in
theorem gL_isGroup_L_told : GoodIn wsL_isGroup (va_wsS RL 138 yL_told wsL_told) := goodIn_app (goodIn_of _ (by decide +kernel)) ggL_isGroup_L_told
set_option maxRecDepth 20000 in
theorem ggL_isGroup_X7_order : GoodIn wsL_isGroup wsX7_order := goodIn_r _ [18, 19, 114, 115, 116, 117, 118, 119, 120, 121, 122, 123, 124, 125, 126, 127, 128, 129] (by decide +kernel) (by decide +kernel)
set_option maxRecDepth 20000 in
theorem gL_isGroup_X7_order : GoodIn wsL_isGroup (wsV RL 145 RX7 yX7_order wsX7_order) := goodIn_app (goodIn_of _ (by decide +kernel)) ggL_isGroup_X7_order
set_option maxRecDepth 20000 in
theorem ggL_isGroup_X7_isInGroup : GoodIn wsL_isGroup wsX7_isInGroup := goodIn_ca (goodIn_r _ [23, 19, 24, 25, 17, 26, 27, 28, 29, 30, 31, 32, 33, 34, 35, 36, 37, 38, 39, 40, 41, 42, 43, 44, 45, 46, 47, 48, 49, 50, 51, 114, 115, 116, 117, 118, 119, 120, 121, 122, 123, 124, 125, 126, 127, 128, 129] (by decide +kernel) (by decide +kernel)) (goodIn_sub (fun _ h => List.mem_cons_of_mem _ (List.mem_append_left _ (List.mem_append_right _ h))) (by decide +kernel))
set_option maxRecDepth 20000 in
theorem gL_isGroup_X7_isInGroup : GoodIn wsL_isGroup (wsV RL 149 RX7 yX7_isInGroup wsX7_isInGroup) := goodIn_app (goodIn_of _ (by decide +kernel)) ggL_isGroup_X7_isInGroup
set_option maxRecDepth 20000 in
theorem ggL_isGroup_X7_moves : GoodIn wsL_isGroup wsX7_moves := goodIn_ca (goodIn_r _ [55, 56, 57, 19, 58, 59, 60, 61, 62, 63, 64, 65, 66, 67, 17, 68, 44, 30, 45, 114, 115, 116, 117, 118, 119, 120, 121, 122, 123] (by decide +kernel) (by decide +kernel)) (goodIn_sub (fun _ h => List.mem_cons_of_mem _ (List.mem_append_right _ h)) (by decide +kernel))
set_option maxRecDepth 20000 in
theorem gL_isGroup_X7_moves : GoodIn wsL_isGroup (wsV RL 153 RX7 yX7_moves wsX7_moves) := goodIn_app (goodIn_of _ (by decide +kernel)) ggL_isGroup_X7_moves
set_option maxRecDepth 20000 in
theorem ggL_isGroup_X7_fixing : GoodIn wsL_isGroup wsX7_fixing := goodIn_ca (goodIn_r _ [72, 27, 28, 19, 73, 59, 74, 75, 76, 62, 63, 77, 78, 34, 79, 80, 81, 82, 43, 42, 37, 83, 84, 85, 86, 87, 88, 89, 90, 91, 92, 93, 94, 67, 17, 68, 95, 96, 97, 98, 99, 100, 101, 102, 38, 39, 40, 41, 44, 30, 45, 46, 47, 48, 49, 50, 51, 103, 104, 105, 106, 107, 108, 109, 110, 111, 112, 113, 114, 115, 116, 117, 118, 119, 120, 121, 122, 123, 124, 125, 126, 127, 128, 129] (by decide +kernel) (by decide +kernel)) (goodIn_sub (fun _ h => List.mem_cons_of_mem _ (List.mem_append_left _ (List.mem_append_right _ h))) (by decide +kernel))
set_option maxRecDepth 20000 in
theorem gL_isGroup_X7_fixing : GoodIn wsL_isGroup (wsV RL 156 RX7 yX7_fixing wsX7_fixing) := goodIn_app (goodIn_of _ (by decide +kernel)) ggL_isGroup_X7_fixing
theorem wd_L_isGroup_0 : Cond.constantLong RL 134 15 ∈ wsL_isGroup := by decide +kernel
def r_L_isGroup : Room := { frames := 8, cells := 3, slots := 18, locals := 182 }
set_option maxRecDepth 100000 in
set_option maxHeartbeats 4000000 in
theorem w_L_isGroup_132 {K : zK} {w : Nat} (hk : zIs K RL cL_isGroup 13 wsL_isGroup (some .boolean) r_L_isGroup) (hfl : (kL K).stackTraces = false) (hnx : zNX K) {r0 : Int32} {τ0 : zST} (hq : zQG K (.inr (some (.int r0))) τ0) (hw : eN (kZ K) = w) (cs ss : Nat) (hb1 : cs + 0 ≤ 3) (hb2 : ss + 0 ≤ 18) (F : Nat) (k28 : Nat → Nat → Int32 → Int32 → Int64 → Int32 → Int32 → Int32 → Int32 → Int32 → zST → Option (Int32 × zST)) (hk28 : ∀ (a0 : Nat) (a1 : Nat) (a2 : Int32) (a3 : Int32) (a4 : Int64) (a6 : Int32) (a7 : Int32) (a8 : Int32) (a9 : Int32) (a10 : Int32) (ha0 : atCanonCote (kZ K) a0) (ha1 : aJ (kZ K) a1 64) (σ : zST), k28 a0 a1 a2 a3 a4 a6 a7 a8 a9 a10 σ = some (r0, τ0) → Z K cs ss 28 [(0, .ref (eA (kZ K) a0)), (1, .ref (eA (kZ K) a1)), (2, .int a2), (3, .int a3), (4, .long a4), (6, .int a6), (7, .int a7), (8, .int a8), (9, .int a9), (10, .int a10)] [] σ) (k85 : Nat → Nat → Int32 → Int32 → Int64 → Int32 → Int32 → Int32 → Int32 → Int32 → Int32 → Int32 → zST → Option (Int32 × zST)) (hk85 : ∀ (a0 : Nat) (a1 : Nat) (a2 : Int32) (a3 : Int32) (a4 : Int64) (a6 : Int32) (a7 : Int32) (a8 : Int32) (a9 : Int32) (a10 : Int32) (a11 : Int32) (a12 : Int32) (ha0 : atCanonCote (kZ K) a0) (ha1 : aJ (kZ K) a1 64) (σ : zST), k85 a0 a1 a2 a3 a4 a6 a7 a8 a9 a10 a11 a12 σ = some (r0, τ0) → Z K cs ss 85 [(0, .ref (eA (kZ K) a0)), (1, .ref (eA (kZ K) a1)), (2, .int a2), (3, .int a3), (4, .long a4), (6, .int a6), (7, .int a7), (8, .int a8), (9, .int a9), (10, .int a10), (11, .int a11), (12, .int a12)] [] σ) (a0 : Nat) (a1 : Nat) (a2 : Int32) (a3 : Int32) (a4 : Int64) (a6 : Int32) (a7 : Int32) (a8 : Int32) (a9 : Int32) (a10 : Int32) (a12 : Int32) (t0 : Int32) (ha0 : atCanonCote (kZ K) a0) (ha1 : aJ (kZ K) a1 64) (σ : zST) (h : m_L_isGroup_132 F w k28 k85 a0 a1 a2 a3 a4 a6 a7 a8 a9 a10 a12 t0 σ = some (r0, τ0)) : Z K cs ss 132 [(0, .ref (eA (kZ K) a0)), (1, .ref (eA (kZ K) a1)), (2, .int a2), (3, .int a3), (4, .long a4), (6, .int a6), (7, .int a7), (8, .int a8), (9, .int a9), (10, .int a10), (12, .int a12)] [.int t0] σ := by
  unfold m_L_isGroup_132 at h
  refine Z_istore hk (lv' := [(11, .int t0), (0, .ref (eA (kZ K) a0)), (1, .ref (eA (kZ K) a1)), (2, .int a2), (3, .int a3), (4, .long a4), (6, .int a6), (7, .int a7), (8, .int a8), (9, .int a9), (10, .int a10), (12, .int a12)]) dL_isGroup_132 (by decide) rfl ?_
  obtain ⟨x45, e46, h⟩ := nm_get h
  refine Z_iinc hk 11 (v := x45) (lv' := [(12, .int x45), (11, .int t0), (0, .ref (eA (kZ K) a0)), (1, .ref (eA (kZ K) a1)), (2, .int a2), (3, .int a3), (4, .long a4), (6, .int a6), (7, .int a7), (8, .int a8), (9, .int a9), (10, .int a10)]) dL_isGroup_134 rfl (by rw [zc_iinc_1]; exact e46) (by decide) rfl ?_
  refine Z_goto hk (tgt := 85) dL_isGroup_137 (by decide) ?_
  refine Z_sub [2, 3, 4, 5, 6, 7, 8, 9, 10, 11, 1, 0] rfl ?_
  exact hk85 a0 a1 a2 a3 a4 a6 a7 a8 a9 a10 t0 x45 ha0 ha1 σ h
set_option maxRecDepth 100000 in
set_option maxHeartbeats 4000000 in
theorem w_L_isGroup_127 {K : zK} {w : Nat} (hk : zIs K RL cL_isGroup 13 wsL_isGroup (some .boolean) r_L_isGroup) (hfl : (kL K).stackTraces = false) (hnx : zNX K) {r0 : Int32} {τ0 : zST} (hq : zQG K (.inr (some (.int r0))) τ0) (hw : eN (kZ K) = w) (cs ss : Nat) (hb1 : cs + 0 ≤ 3) (hb2 : ss + 0 ≤ 18) (F : Nat) (k28 : Nat → Nat → Int32 → Int32 → Int64 → Int32 → Int32 → Int32 → Int32 → Int32 → zST → Option (Int32 × zST)) (hk28 : ∀ (a0 : Nat) (a1 : Nat) (a2 : Int32) (a3 : Int32) (a4 : Int64) (a6 : Int32) (a7 : Int32) (a8 : Int32) (a9 : Int32) (a10 : Int32) (ha0 : atCanonCote (kZ K) a0) (ha1 : aJ (kZ K) a1 64) (σ : zST), k28 a0 a1 a2 a3 a4 a6 a7 a8 a9 a10 σ = some (r0, τ0) → Z K cs ss 28 [(0, .ref (eA (kZ K) a0)), (1, .ref (eA (kZ K) a1)), (2, .int a2), (3, .int a3), (4, .long a4), (6, .int a6), (7, .int a7), (8, .int a8), (9, .int a9), (10, .int a10)] [] σ) (k85 : Nat → Nat → Int32 → Int32 → Int64 → Int32 → Int32 → Int32 → Int32 → Int32 → Int32 → Int32 → zST → Option (Int32 × zST)) (hk85 : ∀ (a0 : Nat) (a1 : Nat) (a2 : Int32) (a3 : Int32) (a4 : Int64) (a6 : Int32) (a7 : Int32) (a8 : Int32) (a9 : Int32) (a10 : Int32) (a11 : Int32) (a12 : Int32) (ha0 : atCanonCote (kZ K) a0) (ha1 : aJ (kZ K) a1 64) (σ : zST), k85 a0 a1 a2 a3 a4 a6 a7 a8 a9 a10 a11 a12 σ = some (r0, τ0) → Z K cs ss 85 [(0, .ref (eA (kZ K) a0)), (1, .ref (eA (kZ K) a1)), (2, .int a2), (3, .int a3), (4, .long a4), (6, .int a6), (7, .int a7), (8, .int a8), (9, .int a9), (10, .int a10), (11, .int a11), (12, .int a12)] [] σ) (a0 : Nat) (a1 : Nat) (a2 : Int32) (a3 : Int32) (a4 : Int64) (a6 : Int32) (a7 : Int32) (a8 : Int32) (a9 : Int32) (a10 : Int32) (a12 : Int32) (ha0 : atCanonCote (kZ K) a0) (ha1 : aJ (kZ K) a1 64) (σ : zST) (h : m_L_isGroup_127 F w k28 k85 a0 a1 a2 a3 a4 a6 a7 a8 a9 a10 a12 σ = some (r0, τ0)) : Z K cs ss 127 [(0, .ref (eA (kZ K) a0)), (1, .ref (eA (kZ K) a1)), (2, .int a2), (3, .int a3), (4, .long a4), (6, .int a6), (7, .int a7), (8, .int a8), (9, .int a9), (10, .int a10), (12, .int a12)] [] σ := by
  unfold m_L_isGroup_127 at h
  refine Z_iconst hk dL_isGroup_127 zc_iconst_1 ?_
  refine Z_goto hk (tgt := 132) dL_isGroup_128 (by decide) ?_
  refine Z_sub [0, 1, 2, 3, 4, 5, 6, 7, 8, 9, 10] rfl ?_
  exact w_L_isGroup_132 hk hfl hnx hq hw cs ss (by omega) (by omega) F k28 hk28 k85 hk85 a0 a1 a2 a3 a4 a6 a7 a8 a9 a10 a12 1 ha0 ha1 σ h
set_option maxRecDepth 100000 in
set_option maxHeartbeats 4000000 in
theorem w_L_isGroup_131 {K : zK} {w : Nat} (hk : zIs K RL cL_isGroup 13 wsL_isGroup (some .boolean) r_L_isGroup) (hfl : (kL K).stackTraces = false) (hnx : zNX K) {r0 : Int32} {τ0 : zST} (hq : zQG K (.inr (some (.int r0))) τ0) (hw : eN (kZ K) = w) (cs ss : Nat) (hb1 : cs + 0 ≤ 3) (hb2 : ss + 0 ≤ 18) (F : Nat) (k28 : Nat → Nat → Int32 → Int32 → Int64 → Int32 → Int32 → Int32 → Int32 → Int32 → zST → Option (Int32 × zST)) (hk28 : ∀ (a0 : Nat) (a1 : Nat) (a2 : Int32) (a3 : Int32) (a4 : Int64) (a6 : Int32) (a7 : Int32) (a8 : Int32) (a9 : Int32) (a10 : Int32) (ha0 : atCanonCote (kZ K) a0) (ha1 : aJ (kZ K) a1 64) (σ : zST), k28 a0 a1 a2 a3 a4 a6 a7 a8 a9 a10 σ = some (r0, τ0) → Z K cs ss 28 [(0, .ref (eA (kZ K) a0)), (1, .ref (eA (kZ K) a1)), (2, .int a2), (3, .int a3), (4, .long a4), (6, .int a6), (7, .int a7), (8, .int a8), (9, .int a9), (10, .int a10)] [] σ) (k85 : Nat → Nat → Int32 → Int32 → Int64 → Int32 → Int32 → Int32 → Int32 → Int32 → Int32 → Int32 → zST → Option (Int32 × zST)) (hk85 : ∀ (a0 : Nat) (a1 : Nat) (a2 : Int32) (a3 : Int32) (a4 : Int64) (a6 : Int32) (a7 : Int32) (a8 : Int32) (a9 : Int32) (a10 : Int32) (a11 : Int32) (a12 : Int32) (ha0 : atCanonCote (kZ K) a0) (ha1 : aJ (kZ K) a1 64) (σ : zST), k85 a0 a1 a2 a3 a4 a6 a7 a8 a9 a10 a11 a12 σ = some (r0, τ0) → Z K cs ss 85 [(0, .ref (eA (kZ K) a0)), (1, .ref (eA (kZ K) a1)), (2, .int a2), (3, .int a3), (4, .long a4), (6, .int a6), (7, .int a7), (8, .int a8), (9, .int a9), (10, .int a10), (11, .int a11), (12, .int a12)] [] σ) (a0 : Nat) (a1 : Nat) (a2 : Int32) (a3 : Int32) (a4 : Int64) (a6 : Int32) (a7 : Int32) (a8 : Int32) (a9 : Int32) (a10 : Int32) (a12 : Int32) (ha0 : atCanonCote (kZ K) a0) (ha1 : aJ (kZ K) a1 64) (σ : zST) (h : m_L_isGroup_131 F w k28 k85 a0 a1 a2 a3 a4 a6 a7 a8 a9 a10 a12 σ = some (r0, τ0)) : Z K cs ss 131 [(0, .ref (eA (kZ K) a0)), (1, .ref (eA (kZ K) a1)), (2, .int a2), (3, .int a3), (4, .long a4), (6, .int a6), (7, .int a7), (8, .int a8), (9, .int a9), (10, .int a10), (12, .int a12)] [] σ := by
  unfold m_L_isGroup_131 at h
  refine Z_iconst hk dL_isGroup_131 zc_iconst_0 ?_
  refine Z_sub [0, 1, 2, 3, 4, 5, 6, 7, 8, 9, 10] rfl ?_
  exact w_L_isGroup_132 hk hfl hnx hq hw cs ss (by omega) (by omega) F k28 hk28 k85 hk85 a0 a1 a2 a3 a4 a6 a7 a8 a9 a10 a12 0 ha0 ha1 σ h
set_option maxRecDepth 100000 in
set_option maxHeartbeats 4000000 in
theorem w_L_isGroup_152 {K : zK} {w : Nat} (hk : zIs K RL cL_isGroup 13 wsL_isGroup (some .boolean) r_L_isGroup) (hfl : (kL K).stackTraces = false) (hnx : zNX K) {r0 : Int32} {τ0 : zST} (hq : zQG K (.inr (some (.int r0))) τ0) (hw : eN (kZ K) = w) (cs ss : Nat) (hb1 : cs + 0 ≤ 3) (hb2 : ss + 0 ≤ 18) (F : Nat) (k28 : Nat → Nat → Int32 → Int32 → Int64 → Int32 → Int32 → Int32 → Int32 → Int32 → zST → Option (Int32 × zST)) (hk28 : ∀ (a0 : Nat) (a1 : Nat) (a2 : Int32) (a3 : Int32) (a4 : Int64) (a6 : Int32) (a7 : Int32) (a8 : Int32) (a9 : Int32) (a10 : Int32) (ha0 : atCanonCote (kZ K) a0) (ha1 : aJ (kZ K) a1 64) (σ : zST), k28 a0 a1 a2 a3 a4 a6 a7 a8 a9 a10 σ = some (r0, τ0) → Z K cs ss 28 [(0, .ref (eA (kZ K) a0)), (1, .ref (eA (kZ K) a1)), (2, .int a2), (3, .int a3), (4, .long a4), (6, .int a6), (7, .int a7), (8, .int a8), (9, .int a9), (10, .int a10)] [] σ) (a0 : Nat) (a1 : Nat) (a2 : Int32) (a3 : Int32) (a4 : Int64) (a6 : Int32) (a7 : Int32) (a9 : Int32) (a10 : Int32) (t0 : Int32) (t1 : Int32) (ha0 : atCanonCote (kZ K) a0) (ha1 : aJ (kZ K) a1 64) (σ : zST) (h : m_L_isGroup_152 F w k28 a0 a1 a2 a3 a4 a6 a7 a9 a10 t0 t1 σ = some (r0, τ0)) : Z K cs ss 152 [(0, .ref (eA (kZ K) a0)), (1, .ref (eA (kZ K) a1)), (2, .int a2), (3, .int a3), (4, .long a4), (6, .int a6), (7, .int a7), (9, .int a9), (10, .int a10)] [.int t0, .int t1] σ := by
  unfold m_L_isGroup_152 at h
  refine Z_iadd hk dL_isGroup_152 ?_
  obtain ⟨x41, e42, h⟩ := nm_get h
  refine Z_eqI e42 ?_
  refine Z_istore hk (lv' := [(8, .int x41), (0, .ref (eA (kZ K) a0)), (1, .ref (eA (kZ K) a1)), (2, .int a2), (3, .int a3), (4, .long a4), (6, .int a6), (7, .int a7), (9, .int a9), (10, .int a10)]) dL_isGroup_153 (by decide) rfl ?_
  obtain ⟨x43, e44, h⟩ := nm_get h
  refine Z_iinc hk 9 (v := x43) (lv' := [(10, .int x43), (8, .int x41), (0, .ref (eA (kZ K) a0)), (1, .ref (eA (kZ K) a1)), (2, .int a2), (3, .int a3), (4, .long a4), (6, .int a6), (7, .int a7), (9, .int a9)]) dL_isGroup_155 rfl (by rw [zc_iinc_1]; exact e44) (by decide) rfl ?_
  refine Z_goto hk (tgt := 28) dL_isGroup_158 (by decide) ?_
  refine Z_sub [2, 3, 4, 5, 6, 7, 8, 1, 9, 0] rfl ?_
  exact hk28 a0 a1 a2 a3 a4 a6 a7 x41 a9 x43 ha0 ha1 σ h
set_option maxRecDepth 100000 in
set_option maxHeartbeats 4000000 in
theorem w_L_isGroup_85 {K : zK} {w : Nat} (hk : zIs K RL cL_isGroup 13 wsL_isGroup (some .boolean) r_L_isGroup) (hfl : (kL K).stackTraces = false) (hnx : zNX K) {r0 : Int32} {τ0 : zST} (hq : zQG K (.inr (some (.int r0))) τ0) (hw : eN (kZ K) = w) (cs ss : Nat) (hb1 : cs + 0 ≤ 3) (hb2 : ss + 0 ≤ 18) (F : Nat) (k28 : Nat → Nat → Int32 → Int32 → Int64 → Int32 → Int32 → Int32 → Int32 → Int32 → zST → Option (Int32 × zST)) (hk28 : ∀ (a0 : Nat) (a1 : Nat) (a2 : Int32) (a3 : Int32) (a4 : Int64) (a6 : Int32) (a7 : Int32) (a8 : Int32) (a9 : Int32) (a10 : Int32) (ha0 : atCanonCote (kZ K) a0) (ha1 : aJ (kZ K) a1 64) (σ : zST), k28 a0 a1 a2 a3 a4 a6 a7 a8 a9 a10 σ = some (r0, τ0) → Z K cs ss 28 [(0, .ref (eA (kZ K) a0)), (1, .ref (eA (kZ K) a1)), (2, .int a2), (3, .int a3), (4, .long a4), (6, .int a6), (7, .int a7), (8, .int a8), (9, .int a9), (10, .int a10)] [] σ) : ∀ (n : Nat) (a0 : Nat) (a1 : Nat) (a2 : Int32) (a3 : Int32) (a4 : Int64) (a6 : Int32) (a7 : Int32) (a8 : Int32) (a9 : Int32) (a10 : Int32) (a11 : Int32) (a12 : Int32) (ha0 : atCanonCote (kZ K) a0) (ha1 : aJ (kZ K) a1 64) (σ : zST), m_L_isGroup_85 F w k28 n a0 a1 a2 a3 a4 a6 a7 a8 a9 a10 a11 a12 σ = some (r0, τ0) → Z K cs ss 85 [(0, .ref (eA (kZ K) a0)), (1, .ref (eA (kZ K) a1)), (2, .int a2), (3, .int a3), (4, .long a4), (6, .int a6), (7, .int a7), (8, .int a8), (9, .int a9), (10, .int a10), (11, .int a11), (12, .int a12)] [] σ := by
  intro n
  induction n with
  | zero => intro a0 a1 a2 a3 a4 a6 a7 a8 a9 a10 a11 a12 ha0 ha1 σ h; cases h
  | succ n ih =>
    intro a0 a1 a2 a3 a4 a6 a7 a8 a9 a10 a11 a12 ha0 ha1 σ h
    rw [m_L_isGroup_85] at h
    refine Z_iload hk 11 dL_isGroup_85 rfl ?_
    refine Z_bipush hk dL_isGroup_87 zc_bipush_8 ?_
    refine Z_icmp_ge hk (tgt := 140) dL_isGroup_89 (by decide) (fun c33 => ?_) (fun c33 => ?_)
    · have h := if_yes h c33
      refine Z_iload hk 7 dL_isGroup_140 rfl ?_
      refine Z_iload hk 10 dL_isGroup_142 rfl ?_
      refine Z_if_eq hk (tgt := 151) dL_isGroup_144 (by decide) (fun c34 => ?_) (fun c34 => ?_)
      · have h := if_yes h c34
        refine Z_iconst hk dL_isGroup_151 zc_iconst_0 ?_
        refine Z_sub [0, 1, 2, 3, 4, 5, 6, 8, 9] rfl ?_
        exact w_L_isGroup_152 hk hfl hnx hq hw cs ss (by omega) (by omega) F k28 hk28 a0 a1 a2 a3 a4 a6 a7 a9 a10 0 a8 ha0 ha1 σ h
      · have h := if_no h c34
        refine Z_iconst hk dL_isGroup_147 zc_iconst_1 ?_
        refine Z_goto hk (tgt := 152) dL_isGroup_148 (by decide) ?_
        refine Z_sub [0, 1, 2, 3, 4, 5, 6, 8, 9] rfl ?_
        exact w_L_isGroup_152 hk hfl hnx hq hw cs ss (by omega) (by omega) F k28 hk28 a0 a1 a2 a3 a4 a6 a7 a9 a10 1 a8 ha0 ha1 σ h
    · have h := if_no h c33
      refine Z_iload hk 10 dL_isGroup_92 rfl ?_
      refine Z_if_eq hk (tgt := 131) dL_isGroup_94 (by decide) (fun c35 => ?_) (fun c35 => ?_)
      · have h := if_yes h c35
        refine Z_sub [0, 1, 2, 3, 4, 5, 6, 7, 8, 9, 11] rfl ?_
        exact w_L_isGroup_131 hk hfl hnx hq hw cs ss (by omega) (by omega) F k28 hk28 (m_L_isGroup_85 F w k28 n) ih a0 a1 a2 a3 a4 a6 a7 a8 a9 a10 a12 ha0 ha1 σ h
      · have h := if_no h c35
        refine Z_iload hk 8 dL_isGroup_97 rfl ?_
        refine Z_iload hk 11 dL_isGroup_99 rfl ?_
        refine Z_ishr hk dL_isGroup_101 ?_
        refine Z_iconst hk dL_isGroup_102 zc_iconst_1 ?_
        refine Z_iand hk dL_isGroup_103 ?_
        refine Z_if_eq hk (tgt := 127) dL_isGroup_104 (by decide) (fun c36 => ?_) (fun c36 => ?_)
        · have h := if_yes h c36
          refine Z_sub [0, 1, 2, 3, 4, 5, 6, 7, 8, 9, 11] rfl ?_
          exact w_L_isGroup_127 hk hfl hnx hq hw cs ss (by omega) (by omega) F k28 hk28 (m_L_isGroup_85 F w k28 n) ih a0 a1 a2 a3 a4 a6 a7 a8 a9 a10 a12 ha0 ha1 σ h
        · have h := if_no h c36
          refine Z_aload_n hk 1 dL_isGroup_107 rfl rfl ?_
          refine Z_iload hk 9 dL_isGroup_108 rfl ?_
          obtain ⟨i39, x37, e38, h⟩ := ldL_get h
          refine Z_lald hk ha1 i39 dL_isGroup_110 ?_
          refine Z_eqL e38 ?_
          refine Z_iconst hk dL_isGroup_111 zc_iconst_4 ?_
          refine Z_iload hk 11 dL_isGroup_112 rfl ?_
          refine Z_imul hk dL_isGroup_114 ?_
          refine Z_lshr hk dL_isGroup_115 ?_
          refine Z_ldc2 hk (v := 15) dL_isGroup_116 wd_L_isGroup_0 ?_
          refine Z_land hk dL_isGroup_119 ?_
          refine Z_iload hk 11 dL_isGroup_120 rfl ?_
          refine Z_i2l hk dL_isGroup_122 ?_
          refine Z_lcmp hk dL_isGroup_123 ?_
          refine Z_if_ne hk (tgt := 131) dL_isGroup_124 (by decide) (fun c40 => ?_) (fun c40 => ?_)
          · have h := if_yes h c40
            refine Z_sub [0, 1, 2, 3, 4, 5, 6, 7, 8, 9, 11] rfl ?_
            exact w_L_isGroup_127 hk hfl hnx hq hw cs ss (by omega) (by omega) F k28 hk28 (m_L_isGroup_85 F w k28 n) ih a0 a1 a2 a3 a4 a6 a7 a8 a9 a10 a12 ha0 ha1 σ h
          · have h := if_no h c40
            refine Z_sub [0, 1, 2, 3, 4, 5, 6, 7, 8, 9, 11] rfl ?_
            exact w_L_isGroup_131 hk hfl hnx hq hw cs ss (by omega) (by omega) F k28 hk28 (m_L_isGroup_85 F w k28 n) ih a0 a1 a2 a3 a4 a6 a7 a8 a9 a10 a12 ha0 ha1 σ h
set_option maxRecDepth 100000 in
set_option maxHeartbeats 4000000 in
theorem w_L_isGroup_54 {K : zK} {w : Nat} (hk : zIs K RL cL_isGroup 13 wsL_isGroup (some .boolean) r_L_isGroup) (hfl : (kL K).stackTraces = false) (hnx : zNX K) {r0 : Int32} {τ0 : zST} (hq : zQG K (.inr (some (.int r0))) τ0) (hw : eN (kZ K) = w) (cs ss : Nat) (hb1 : cs + 0 ≤ 3) (hb2 : ss + 0 ≤ 18) (F : Nat) (k28 : Nat → Nat → Int32 → Int32 → Int64 → Int32 → Int32 → Int32 → Int32 → Int32 → zST → Option (Int32 × zST)) (hk28 : ∀ (a0 : Nat) (a1 : Nat) (a2 : Int32) (a3 : Int32) (a4 : Int64) (a6 : Int32) (a7 : Int32) (a8 : Int32) (a9 : Int32) (a10 : Int32) (ha0 : atCanonCote (kZ K) a0) (ha1 : aJ (kZ K) a1 64) (σ : zST), k28 a0 a1 a2 a3 a4 a6 a7 a8 a9 a10 σ = some (r0, τ0) → Z K cs ss 28 [(0, .ref (eA (kZ K) a0)), (1, .ref (eA (kZ K) a1)), (2, .int a2), (3, .int a3), (4, .long a4), (6, .int a6), (7, .int a7), (8, .int a8), (9, .int a9), (10, .int a10)] [] σ) (a0 : Nat) (a1 : Nat) (a2 : Int32) (a3 : Int32) (a4 : Int64) (a7 : Int32) (a8 : Int32) (a9 : Int32) (a10 : Int32) (t0 : Int32) (ha0 : atCanonCote (kZ K) a0) (ha1 : aJ (kZ K) a1 64) (σ : zST) (h : m_L_isGroup_54 F w k28 a0 a1 a2 a3 a4 a7 a8 a9 a10 t0 σ = some (r0, τ0)) : Z K cs ss 54 [(0, .ref (eA (kZ K) a0)), (1, .ref (eA (kZ K) a1)), (2, .int a2), (3, .int a3), (4, .long a4), (7, .int a7), (8, .int a8), (9, .int a9), (10, .int a10)] [.int t0] σ := by
  unfold m_L_isGroup_54 at h
  refine Z_istore hk (lv' := [(6, .int t0), (0, .ref (eA (kZ K) a0)), (1, .ref (eA (kZ K) a1)), (2, .int a2), (3, .int a3), (4, .long a4), (7, .int a7), (8, .int a8), (9, .int a9), (10, .int a10)]) dL_isGroup_54 (by decide) rfl ?_
  refine Z_iload hk 6 dL_isGroup_56 rfl ?_
  refine Z_iconst hk dL_isGroup_58 zc_iconst_1 ?_
  refine Z_aload_n hk 2 dL_isGroup_59 rfl rfl ?_
  refine Z_iload hk 9 dL_isGroup_60 rfl ?_
  obtain ⟨i30, x28, e29, h⟩ := ldL_get h
  refine Z_lald hk ha1 i30 dL_isGroup_62 ?_
  refine Z_eqL e29 ?_
  refine Z_iconst hk dL_isGroup_63 zc_iconst_4 ?_
  refine Z_iload_n hk 4 dL_isGroup_64 rfl rfl ?_
  refine Z_bipush hk dL_isGroup_65 zc_bipush_8 ?_
  refine Z_irem hk dL_isGroup_67 (by decide) ?_
  refine Z_imul hk dL_isGroup_68 ?_
  refine Z_lshr hk dL_isGroup_69 ?_
  refine Z_ldc2 hk (v := 15) dL_isGroup_70 wd_L_isGroup_0 ?_
  refine Z_land hk dL_isGroup_73 ?_
  refine Z_l2i hk dL_isGroup_74 ?_
  refine Z_ishl hk dL_isGroup_75 ?_
  refine Z_ior hk dL_isGroup_76 ?_
  obtain ⟨x31, e32, h⟩ := nm_get h
  refine Z_eqI e32 ?_
  refine Z_istore hk (lv' := [(7, .int x31), (6, .int t0), (0, .ref (eA (kZ K) a0)), (1, .ref (eA (kZ K) a1)), (2, .int a2), (3, .int a3), (4, .long a4), (8, .int a8), (9, .int a9), (10, .int a10)]) dL_isGroup_77 (by decide) rfl ?_
  refine Z_iconst hk dL_isGroup_79 zc_iconst_1 ?_
  refine Z_istore hk (lv' := [(11, .int 1), (7, .int x31), (6, .int t0), (0, .ref (eA (kZ K) a0)), (1, .ref (eA (kZ K) a1)), (2, .int a2), (3, .int a3), (4, .long a4), (8, .int a8), (9, .int a9), (10, .int a10)]) dL_isGroup_80 (by decide) rfl ?_
  refine Z_iconst hk dL_isGroup_82 zc_iconst_0 ?_
  refine Z_istore hk (lv' := [(12, .int 0), (11, .int 1), (7, .int x31), (6, .int t0), (0, .ref (eA (kZ K) a0)), (1, .ref (eA (kZ K) a1)), (2, .int a2), (3, .int a3), (4, .long a4), (8, .int a8), (9, .int a9), (10, .int a10)]) dL_isGroup_83 (by decide) rfl ?_
  refine Z_sub [4, 5, 6, 7, 8, 3, 2, 9, 10, 11, 1, 0] rfl ?_
  exact w_L_isGroup_85 hk hfl hnx hq hw cs ss (by omega) (by omega) F k28 hk28 F a0 a1 a2 a3 a4 t0 x31 a8 a9 a10 1 0 ha0 ha1 σ h
set_option maxRecDepth 100000 in
set_option maxHeartbeats 4000000 in
theorem w_L_isGroup_49 {K : zK} {w : Nat} (hk : zIs K RL cL_isGroup 13 wsL_isGroup (some .boolean) r_L_isGroup) (hfl : (kL K).stackTraces = false) (hnx : zNX K) {r0 : Int32} {τ0 : zST} (hq : zQG K (.inr (some (.int r0))) τ0) (hw : eN (kZ K) = w) (cs ss : Nat) (hb1 : cs + 0 ≤ 3) (hb2 : ss + 0 ≤ 18) (F : Nat) (k28 : Nat → Nat → Int32 → Int32 → Int64 → Int32 → Int32 → Int32 → Int32 → Int32 → zST → Option (Int32 × zST)) (hk28 : ∀ (a0 : Nat) (a1 : Nat) (a2 : Int32) (a3 : Int32) (a4 : Int64) (a6 : Int32) (a7 : Int32) (a8 : Int32) (a9 : Int32) (a10 : Int32) (ha0 : atCanonCote (kZ K) a0) (ha1 : aJ (kZ K) a1 64) (σ : zST), k28 a0 a1 a2 a3 a4 a6 a7 a8 a9 a10 σ = some (r0, τ0) → Z K cs ss 28 [(0, .ref (eA (kZ K) a0)), (1, .ref (eA (kZ K) a1)), (2, .int a2), (3, .int a3), (4, .long a4), (6, .int a6), (7, .int a7), (8, .int a8), (9, .int a9), (10, .int a10)] [] σ) (a0 : Nat) (a1 : Nat) (a2 : Int32) (a3 : Int32) (a4 : Int64) (a7 : Int32) (a8 : Int32) (a9 : Int32) (a10 : Int32) (ha0 : atCanonCote (kZ K) a0) (ha1 : aJ (kZ K) a1 64) (σ : zST) (h : m_L_isGroup_49 F w k28 a0 a1 a2 a3 a4 a7 a8 a9 a10 σ = some (r0, τ0)) : Z K cs ss 49 [(0, .ref (eA (kZ K) a0)), (1, .ref (eA (kZ K) a1)), (2, .int a2), (3, .int a3), (4, .long a4), (7, .int a7), (8, .int a8), (9, .int a9), (10, .int a10)] [] σ := by
  unfold m_L_isGroup_49 at h
  refine Z_iconst hk dL_isGroup_49 zc_iconst_1 ?_
  refine Z_goto hk (tgt := 54) dL_isGroup_50 (by decide) ?_
  refine Z_sub [0, 1, 2, 3, 4, 5, 6, 7, 8] rfl ?_
  exact w_L_isGroup_54 hk hfl hnx hq hw cs ss (by omega) (by omega) F k28 hk28 a0 a1 a2 a3 a4 a7 a8 a9 a10 1 ha0 ha1 σ h
set_option maxRecDepth 100000 in
set_option maxHeartbeats 4000000 in
theorem w_L_isGroup_208 {K : zK} {w : Nat} (hk : zIs K RL cL_isGroup 13 wsL_isGroup (some .boolean) r_L_isGroup) (hfl : (kL K).stackTraces = false) (hnx : zNX K) {r0 : Int32} {τ0 : zST} (hq : zQG K (.inr (some (.int r0))) τ0) (hw : eN (kZ K) = w) (cs ss : Nat) (hb1 : cs + 0 ≤ 3) (hb2 : ss + 0 ≤ 18) (F : Nat)  (σ : zST) (h : m_L_isGroup_208 F w σ = some (r0, τ0)) : Z K cs ss 208 [] [] σ := by
  unfold m_L_isGroup_208 at h
  refine Z_iconst hk dL_isGroup_208 zc_iconst_0 ?_
  cases h
  exact ZG_zret hk (by decide) hq ⟨by show cs + 0 ≤ 3; omega, by show ss + 0 ≤ 18; omega⟩ dL_isGroup_209
set_option maxRecDepth 100000 in
set_option maxHeartbeats 4000000 in
theorem w_L_isGroup_28 {K : zK} {w : Nat} (hk : zIs K RL cL_isGroup 13 wsL_isGroup (some .boolean) r_L_isGroup) (hfl : (kL K).stackTraces = false) (hnx : zNX K) {r0 : Int32} {τ0 : zST} (hq : zQG K (.inr (some (.int r0))) τ0) (hw : eN (kZ K) = w) (cs ss : Nat) (hb1 : cs + 3 ≤ 3) (hb2 : ss + 18 ≤ 18) (F : Nat) : ∀ (n : Nat) (a0 : Nat) (a1 : Nat) (a2 : Int32) (a3 : Int32) (a4 : Int64) (a6 : Int32) (a7 : Int32) (a8 : Int32) (a9 : Int32) (a10 : Int32) (ha0 : atCanonCote (kZ K) a0) (ha1 : aJ (kZ K) a1 64) (σ : zST), m_L_isGroup_28 F w n a0 a1 a2 a3 a4 a6 a7 a8 a9 a10 σ = some (r0, τ0) → Z K cs ss 28 [(0, .ref (eA (kZ K) a0)), (1, .ref (eA (kZ K) a1)), (2, .int a2), (3, .int a3), (4, .long a4), (6, .int a6), (7, .int a7), (8, .int a8), (9, .int a9), (10, .int a10)] [] σ := by
  intro n
  induction n with
  | zero => intro a0 a1 a2 a3 a4 a6 a7 a8 a9 a10 ha0 ha1 σ h; cases h
  | succ n ih =>
    intro a0 a1 a2 a3 a4 a6 a7 a8 a9 a10 ha0 ha1 σ h
    rw [m_L_isGroup_28] at h
    refine Z_iload hk 9 dL_isGroup_28 rfl ?_
    refine Z_iload_n hk 2 dL_isGroup_30 rfl rfl ?_
    refine Z_icmp_ge hk (tgt := 161) dL_isGroup_31 (by decide) (fun c6 => ?_) (fun c6 => ?_)
    · have h := if_yes h c6
      refine Z_aload_n hk 0 dL_isGroup_161 rfl rfl ?_
      obtain ⟨x7, s8, h9, h⟩ := bd_ok h
      refine Z_callV 0 hk [] (c_X7_order hk.loc hk.inj F a0 ha0 σ h9) gL_isGroup_X7_order rfl ⟨rfl, rfl⟩ (by decide +kernel) ⟨Nat.le_of_ble_eq_true rfl, Nat.le_of_ble_eq_true rfl⟩ ha0.cell.1 (ha0.cell.2 _) rfl rfl rfl (Nat.le_of_ble_eq_true rfl) ⟨by show cs + 0 ≤ 3; omega, by show ss + 0 ≤ 18; omega⟩ dL_isGroup_162 ?_
      show Z K cs ss 165 [(0, .ref (eA (kZ K) a0)), (1, .ref (eA (kZ K) a1)), (2, .int a2), (3, .int a3), (4, .long a4), (6, .int a6), (7, .int a7), (8, .int a8), (9, .int a9), (10, .int a10)] [.int x7] s8
      refine Z_iload_n hk 2 dL_isGroup_165 rfl rfl ?_
      refine Z_icmp_ne hk (tgt := 208) dL_isGroup_166 (by decide) (fun c10 => ?_) (fun c10 => ?_)
      · have h := if_yes h c10
        refine Z_aload_n hk 0 dL_isGroup_169 rfl rfl ?_
        refine Z_lload hk 4 dL_isGroup_170 rfl ?_
        obtain ⟨x11, s12, h13, h⟩ := br_ok h
        refine ZX_callV 1 hk [.long a4] (c_X7_isInGroup hk.loc hk.inj hfl F a0 a4 ha0 s8 h13) gL_isGroup_X7_isInGroup rfl ⟨rfl, by decide +kernel, by decide +kernel, by decide +kernel⟩ ⟨Nat.le_of_ble_eq_true rfl, Nat.le_of_ble_eq_true rfl⟩ ha0.cell.1 (ha0.cell.2 _) rfl rfl rfl (Nat.le_of_ble_eq_true rfl) ⟨by show cs + 1 ≤ 3; omega, by show ss + 6 ≤ 18; omega⟩ dL_isGroup_172 (fun X hX => by cases hX) (fun v hv => ?_)
        cases hv
        show Z K (cs + 1) (ss + 6) 175 [(0, .ref (eA (kZ K) a0)), (1, .ref (eA (kZ K) a1)), (2, .int a2), (3, .int a3), (4, .long a4), (6, .int a6), (7, .int a7), (8, .int a8), (9, .int a9), (10, .int a10)] [.int x11] s12
        refine Z_iload hk 5 dL_isGroup_175 rfl ?_
        refine Z_icmp_ne hk (tgt := 208) dL_isGroup_177 (by decide) (fun c14 => ?_) (fun c14 => ?_)
        · have h := if_yes h c14
          refine Z_aload_n hk 0 dL_isGroup_180 rfl rfl ?_
          refine Z_iload_n hk 3 dL_isGroup_181 rfl rfl ?_
          refine Z_bipush hk dL_isGroup_182 zc_bipush_8 ?_
          refine Z_irem hk dL_isGroup_184 (by decide) ?_
          obtain ⟨x15, s16, h17, h⟩ := br_ok h
          refine ZX_callV 1 hk [.int (a3 - a3 / 8 * 8)] (c_X7_moves hk.loc hk.inj hfl F a0 (a3 - a3 / 8 * 8) ha0 s12 h17) gL_isGroup_X7_moves rfl ⟨rfl, by decide +kernel, by decide +kernel, by decide +kernel⟩ ⟨Nat.le_of_ble_eq_true rfl, Nat.le_of_ble_eq_true rfl⟩ ha0.cell.1 (ha0.cell.2 _) rfl rfl rfl (Nat.le_of_ble_eq_true rfl) ⟨by show (cs + 1) + 1 ≤ 3; omega, by show (ss + 6) + 6 ≤ 18; omega⟩ dL_isGroup_185 (fun X hX => by cases hX) (fun v hv => ?_)
          cases hv
          show Z K (cs + 2) (ss + 12) 188 [(0, .ref (eA (kZ K) a0)), (1, .ref (eA (kZ K) a1)), (2, .int a2), (3, .int a3), (4, .long a4), (6, .int a6), (7, .int a7), (8, .int a8), (9, .int a9), (10, .int a10)] [.int x15] s16
          refine Z_iload hk 6 dL_isGroup_188 rfl ?_
          refine Z_icmp_ne hk (tgt := 208) dL_isGroup_190 (by decide) (fun c18 => ?_) (fun c18 => ?_)
          · have h := if_yes h c18
            refine Z_aload_n hk 0 dL_isGroup_193 rfl rfl ?_
            refine Z_iload hk 8 dL_isGroup_194 rfl ?_
            obtain ⟨x19, s20, h21, h⟩ := br_ok h
            refine ZX_callV 1 hk [.int a9] (c_X7_fixing hk.loc hk.inj hfl F a0 a9 ha0 s16 h21) gL_isGroup_X7_fixing rfl ⟨rfl, by decide +kernel, by decide +kernel, by decide +kernel⟩ ⟨Nat.le_of_ble_eq_true rfl, Nat.le_of_ble_eq_true rfl⟩ ha0.cell.1 (ha0.cell.2 _) rfl rfl rfl (Nat.le_of_ble_eq_true rfl) ⟨by show (cs + 2) + 1 ≤ 3; omega, by show (ss + 12) + 6 ≤ 18; omega⟩ dL_isGroup_196 (fun X hX => by cases hX) (fun v hv => ?_)
            cases hv
            show Z K (cs + 3) (ss + 18) 199 [(0, .ref (eA (kZ K) a0)), (1, .ref (eA (kZ K) a1)), (2, .int a2), (3, .int a3), (4, .long a4), (6, .int a6), (7, .int a7), (8, .int a8), (9, .int a9), (10, .int a10)] [.int x19] s20
            refine Z_iload hk 7 dL_isGroup_199 rfl ?_
            refine Z_icmp_ne hk (tgt := 208) dL_isGroup_201 (by decide) (fun c22 => ?_) (fun c22 => ?_)
            · have h := if_yes h c22
              refine Z_iconst hk dL_isGroup_204 zc_iconst_1 ?_
              refine Z_goto hk (tgt := 209) dL_isGroup_205 (by decide) ?_
              cases h
              exact ZG_zret hk (by decide) hq ⟨by show (cs + 3) + 0 ≤ 3; omega, by show (ss + 18) + 0 ≤ 18; omega⟩ dL_isGroup_209
            · have h := if_no h c22
              refine Z_sub [] rfl ?_
              exact w_L_isGroup_208 hk hfl hnx hq hw (cs + 3) (ss + 18) (by omega) (by omega) F s20 h
          · have h := if_no h c18
            refine Z_sub [] rfl ?_
            exact w_L_isGroup_208 hk hfl hnx hq hw (cs + 2) (ss + 12) (by omega) (by omega) F s16 h
        · have h := if_no h c14
          refine Z_sub [] rfl ?_
          exact w_L_isGroup_208 hk hfl hnx hq hw (cs + 1) (ss + 6) (by omega) (by omega) F s12 h
      · have h := if_no h c10
        refine Z_sub [] rfl ?_
        exact w_L_isGroup_208 hk hfl hnx hq hw cs ss (by omega) (by omega) F s8 h
    · have h := if_no h c6
      refine Z_iload hk 5 dL_isGroup_34 rfl ?_
      refine Z_if_ne hk (tgt := 49) dL_isGroup_36 (by decide) (fun c23 => ?_) (fun c23 => ?_)
      · have h := if_yes h c23
        refine Z_aload_n hk 1 dL_isGroup_39 rfl rfl ?_
        refine Z_iload hk 9 dL_isGroup_40 rfl ?_
        obtain ⟨i26, x24, e25, h⟩ := ldL_get h
        refine Z_lald hk ha1 i26 dL_isGroup_42 ?_
        refine Z_eqL e25 ?_
        refine Z_lload hk 4 dL_isGroup_43 rfl ?_
        refine Z_lcmp hk dL_isGroup_45 ?_
        refine Z_if_ne hk (tgt := 53) dL_isGroup_46 (by decide) (fun c27 => ?_) (fun c27 => ?_)
        · have h := if_yes h c27
          refine Z_sub [0, 1, 2, 3, 4, 6, 7, 8, 9] rfl ?_
          exact w_L_isGroup_49 hk hfl hnx hq hw cs ss (by omega) (by omega) F (m_L_isGroup_28 F w n) ih a0 a1 a2 a3 a4 a7 a8 a9 a10 ha0 ha1 σ h
        · have h := if_no h c27
          refine Z_iconst hk dL_isGroup_53 zc_iconst_0 ?_
          refine Z_sub [0, 1, 2, 3, 4, 6, 7, 8, 9] rfl ?_
          exact w_L_isGroup_54 hk hfl hnx hq hw cs ss (by omega) (by omega) F (m_L_isGroup_28 F w n) ih a0 a1 a2 a3 a4 a7 a8 a9 a10 0 ha0 ha1 σ h
      · have h := if_no h c23
        refine Z_sub [0, 1, 2, 3, 4, 6, 7, 8, 9] rfl ?_
        exact w_L_isGroup_49 hk hfl hnx hq hw cs ss (by omega) (by omega) F (m_L_isGroup_28 F w n) ih a0 a1 a2 a3 a4 a7 a8 a9 a10 ha0 ha1 σ h
set_option maxRecDepth 100000 in
set_option maxHeartbeats 4000000 in
theorem w_L_isGroup {K : zK} {w : Nat} (hk : zIs K RL cL_isGroup 13 wsL_isGroup (some .boolean) r_L_isGroup) (hfl : (kL K).stackTraces = false) (hnx : zNX K) {r0 : Int32} {τ0 : zST} (hq : zQG K (.inr (some (.int r0))) τ0) (hw : eN (kZ K) = w) (F : Nat) (a0 : Nat) (a1 : Nat) (a2 : Int32) (a3 : Int32) (ha0 : atCanonCote (kZ K) a0) (ha1 : aJ (kZ K) a1 64) (σ : zST) (h : m_L_isGroup F w a0 a1 a2 a3 σ = some (r0, τ0)) : Z K 0 0 0 [(0, .ref (eA (kZ K) a0)), (1, .ref (eA (kZ K) a1)), (2, .int a2), (3, .int a3)] [] σ := by
  unfold m_L_isGroup at h
  refine Z_iload_n hk 3 dL_isGroup_0 rfl rfl ?_
  refine Z_bipush hk dL_isGroup_1 zc_bipush_48 ?_
  refine Z_irem hk dL_isGroup_3 (by decide) ?_
  obtain ⟨x1, s2, h3, h⟩ := bd_ok h
  refine Z_callT 1 hk [.int (a3 - a3 / 48 * 48)] (c_L_told hk.loc hk.inj F (a3 - a3 / 48 * 48) σ h3) gL_isGroup_L_told rfl ⟨rfl, rfl⟩ (by decide +kernel) ⟨Nat.le_of_ble_eq_true rfl, Nat.le_of_ble_eq_true rfl⟩ rfl rfl (Nat.le_of_ble_eq_true rfl) ⟨by show 0 + 0 ≤ 3; omega, by show 0 + 0 ≤ 18; omega⟩ dL_isGroup_4 ?_
  show Z K 0 0 7 [(0, .ref (eA (kZ K) a0)), (1, .ref (eA (kZ K) a1)), (2, .int a2), (3, .int a3)] [.long x1] s2
  refine Z_lstore hk (lv' := [(4, .long x1), (0, .ref (eA (kZ K) a0)), (1, .ref (eA (kZ K) a1)), (2, .int a2), (3, .int a3)]) dL_isGroup_7 (by decide) rfl ?_
  refine Z_iconst hk dL_isGroup_9 zc_iconst_0 ?_
  refine Z_istore hk (lv' := [(6, .int 0), (4, .long x1), (0, .ref (eA (kZ K) a0)), (1, .ref (eA (kZ K) a1)), (2, .int a2), (3, .int a3)]) dL_isGroup_10 (by decide) rfl ?_
  refine Z_iconst hk dL_isGroup_12 zc_iconst_0 ?_
  refine Z_istore hk (lv' := [(7, .int 0), (6, .int 0), (4, .long x1), (0, .ref (eA (kZ K) a0)), (1, .ref (eA (kZ K) a1)), (2, .int a2), (3, .int a3)]) dL_isGroup_13 (by decide) rfl ?_
  refine Z_iconst hk dL_isGroup_15 zc_iconst_0 ?_
  refine Z_istore hk (lv' := [(8, .int 0), (7, .int 0), (6, .int 0), (4, .long x1), (0, .ref (eA (kZ K) a0)), (1, .ref (eA (kZ K) a1)), (2, .int a2), (3, .int a3)]) dL_isGroup_16 (by decide) rfl ?_
  refine Z_iload_n hk 7 dL_isGroup_18 rfl rfl ?_
  refine Z_sipush hk dL_isGroup_19 zc_sipush_256 ?_
  refine Z_irem hk dL_isGroup_22 (by decide) ?_
  obtain ⟨x4, e5, h⟩ := nm_get h
  refine Z_eqI e5 ?_
  refine Z_istore hk (lv' := [(9, .int x4), (8, .int 0), (7, .int 0), (6, .int 0), (4, .long x1), (0, .ref (eA (kZ K) a0)), (1, .ref (eA (kZ K) a1)), (2, .int a2), (3, .int a3)]) dL_isGroup_23 (by decide) rfl ?_
  refine Z_iconst hk dL_isGroup_25 zc_iconst_0 ?_
  refine Z_istore hk (lv' := [(10, .int 0), (9, .int x4), (8, .int 0), (7, .int 0), (6, .int 0), (4, .long x1), (0, .ref (eA (kZ K) a0)), (1, .ref (eA (kZ K) a1)), (2, .int a2), (3, .int a3)]) dL_isGroup_26 (by decide) rfl ?_
  refine Z_sub [6, 7, 8, 9, 5, 4, 3, 2, 1, 0] rfl ?_
  exact w_L_isGroup_28 hk hfl hnx hq hw 0 0 (by omega) (by omega) F F a0 a1 a2 a3 x1 0 0 0 x4 0 ha0 ha1 s2 h
theorem c_L_isGroup {l : Launch} {E : zE} (hL : eL E) (hJ : eJ E) (hfl : l.stackTraces = false) (F w : Nat) (hw : eN E = w) (a0 : Nat) (a1 : Nat) (a2 : Int32) (a3 : Int32) (ha0 : atCanonCote E a0) (ha1 : aJ E a1 64) (σ : zST) {r0 : Int32} {τ0 : zST} (h : m_L_isGroup F w a0 a1 a2 a3 σ = some (r0, τ0)) : CtX l yL_isGroup wsL_isGroup r_L_isGroup E [.ref (eA E a0), .ref (eA E a1), .int a2, .int a3] σ (.inr (some (.int r0))) τ0 := by
  refine CtX_of (by decide) rfl hL hJ (Nat.le_of_ble_eq_true rfl) (fun K hE hl hk hnx hq => ?_)
  subst hE
  subst hl
  exact w_L_isGroup hk hfl hnx (zQG.of hq) hw F a0 a1 a2 a3 ha0 ha1 σ h
end
