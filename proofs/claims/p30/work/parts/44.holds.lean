-- CanonCoteLaw.holds ([I)Z
section
theorem dL_holds_0 : decode cL_holds 0 = .ok (.new 51, 3) := by decide +kernel
theorem dL_holds_3 : decode cL_holds 3 = .ok (.dup, 1) := by decide +kernel
theorem dL_holds_4 : decode cL_holds 4 = .ok (.invokespecial 159, 3) := by decide +kernel
theorem dL_holds_7 : decode cL_holds 7 = .ok (.astore_n 1, 1) := by decide +kernel
theorem dL_holds_8 : decode cL_holds 8 = .ok (.iconst 4, 1) := by decide +kernel
theorem dL_holds_9 : decode cL_holds 9 = .ok (.newarray .long, 2) := by decide +kernel
theorem dL_holds_11 : decode cL_holds 11 = .ok (.astore_n 2, 1) := by decide +kernel
theorem dL_holds_12 : decode cL_holds 12 = .ok (.bipush 64, 2) := by decide +kernel
theorem dL_holds_14 : decode cL_holds 14 = .ok (.newarray .long, 2) := by decide +kernel
theorem dL_holds_16 : decode cL_holds 16 = .ok (.astore_n 3, 1) := by decide +kernel
theorem dL_holds_17 : decode cL_holds 17 = .ok (.bipush 8, 2) := by decide +kernel
theorem dL_holds_19 : decode cL_holds 19 = .ok (.newarray .int, 2) := by decide +kernel
theorem dL_holds_21 : decode cL_holds 21 = .ok (.astore 4, 2) := by decide +kernel
theorem dL_holds_23 : decode cL_holds 23 = .ok (.iconst 0, 1) := by decide +kernel
theorem dL_holds_24 : decode cL_holds 24 = .ok (.istore 5, 2) := by decide +kernel
theorem dL_holds_26 : decode cL_holds 26 = .ok (.iload 5, 2) := by decide +kernel
theorem dL_holds_28 : decode cL_holds 28 = .ok (.iconst 4, 1) := by decide +kernel
theorem dL_holds_29 : decode cL_holds 29 = .ok (.if_icmp .ge 16, 3) := by decide +kernel
theorem dL_holds_32 : decode cL_holds 32 = .ok (.aload_n 2, 1) := by decide +kernel
theorem dL_holds_33 : decode cL_holds 33 = .ok (.iload 5, 2) := by decide +kernel
theorem dL_holds_35 : decode cL_holds 35 = .ok (.ldc2_w 160, 3) := by decide +kernel
theorem dL_holds_38 : decode cL_holds 38 = .ok (.lastore, 1) := by decide +kernel
theorem dL_holds_39 : decode cL_holds 39 = .ok (.iinc 5 1, 3) := by decide +kernel
theorem dL_holds_42 : decode cL_holds 42 = .ok (.goto (-16), 3) := by decide +kernel
theorem dL_holds_45 : decode cL_holds 45 = .ok (.iconst 1, 1) := by decide +kernel
theorem dL_holds_46 : decode cL_holds 46 = .ok (.istore 5, 2) := by decide +kernel
theorem dL_holds_48 : decode cL_holds 48 = .ok (.iconst 0, 1) := by decide +kernel
theorem dL_holds_49 : decode cL_holds 49 = .ok (.istore 6, 2) := by decide +kernel
theorem dL_holds_51 : decode cL_holds 51 = .ok (.iload 6, 2) := by decide +kernel
theorem dL_holds_53 : decode cL_holds 53 = .ok (.bipush 60, 2) := by decide +kernel
theorem dL_holds_55 : decode cL_holds 55 = .ok (.if_icmp .ge 281, 3) := by decide +kernel
theorem dL_holds_58 : decode cL_holds 58 = .ok (.iload 5, 2) := by decide +kernel
theorem dL_holds_60 : decode cL_holds 60 = .ok (.ifCond .eq 276, 3) := by decide +kernel
theorem dL_holds_63 : decode cL_holds 63 = .ok (.aload_n 0, 1) := by decide +kernel
theorem dL_holds_64 : decode cL_holds 64 = .ok (.iconst 4, 1) := by decide +kernel
theorem dL_holds_65 : decode cL_holds 65 = .ok (.iload 6, 2) := by decide +kernel
theorem dL_holds_67 : decode cL_holds 67 = .ok (.imul, 1) := by decide +kernel
theorem dL_holds_68 : decode cL_holds 68 = .ok (.bipush 22, 2) := by decide +kernel
theorem dL_holds_70 : decode cL_holds 70 = .ok (.invokestatic 162, 3) := by decide +kernel
theorem dL_holds_73 : decode cL_holds 73 = .ok (.istore 7, 2) := by decide +kernel
theorem dL_holds_75 : decode cL_holds 75 = .ok (.aload_n 0, 1) := by decide +kernel
theorem dL_holds_76 : decode cL_holds 76 = .ok (.iconst 4, 1) := by decide +kernel
theorem dL_holds_77 : decode cL_holds 77 = .ok (.iload 6, 2) := by decide +kernel
theorem dL_holds_79 : decode cL_holds 79 = .ok (.imul, 1) := by decide +kernel
theorem dL_holds_80 : decode cL_holds 80 = .ok (.iconst 1, 1) := by decide +kernel
theorem dL_holds_81 : decode cL_holds 81 = .ok (.iadd, 1) := by decide +kernel
theorem dL_holds_82 : decode cL_holds 82 = .ok (.iconst 4, 1) := by decide +kernel
theorem dL_holds_83 : decode cL_holds 83 = .ok (.invokestatic 162, 3) := by decide +kernel
theorem dL_holds_86 : decode cL_holds 86 = .ok (.istore 8, 2) := by decide +kernel
theorem dL_holds_88 : decode cL_holds 88 = .ok (.aload_n 0, 1) := by decide +kernel
theorem dL_holds_89 : decode cL_holds 89 = .ok (.iconst 4, 1) := by decide +kernel
theorem dL_holds_90 : decode cL_holds 90 = .ok (.iload 6, 2) := by decide +kernel
theorem dL_holds_92 : decode cL_holds 92 = .ok (.imul, 1) := by decide +kernel
theorem dL_holds_93 : decode cL_holds 93 = .ok (.iconst 2, 1) := by decide +kernel
theorem dL_holds_94 : decode cL_holds 94 = .ok (.iadd, 1) := by decide +kernel
theorem dL_holds_95 : decode cL_holds 95 = .ok (.ldc 166, 2) := by decide +kernel
theorem dL_holds_97 : decode cL_holds 97 = .ok (.invokestatic 162, 3) := by decide +kernel
theorem dL_holds_100 : decode cL_holds 100 = .ok (.istore 9, 2) := by decide +kernel
theorem dL_holds_102 : decode cL_holds 102 = .ok (.aload_n 0, 1) := by decide +kernel
theorem dL_holds_103 : decode cL_holds 103 = .ok (.iconst 4, 1) := by decide +kernel
theorem dL_holds_104 : decode cL_holds 104 = .ok (.iload 6, 2) := by decide +kernel
theorem dL_holds_106 : decode cL_holds 106 = .ok (.imul, 1) := by decide +kernel
theorem dL_holds_107 : decode cL_holds 107 = .ok (.iconst 3, 1) := by decide +kernel
theorem dL_holds_108 : decode cL_holds 108 = .ok (.iadd, 1) := by decide +kernel
theorem dL_holds_109 : decode cL_holds 109 = .ok (.iconst 4, 1) := by decide +kernel
theorem dL_holds_110 : decode cL_holds 110 = .ok (.invokestatic 162, 3) := by decide +kernel
theorem dL_holds_113 : decode cL_holds 113 = .ok (.istore 10, 2) := by decide +kernel
theorem dL_holds_115 : decode cL_holds 115 = .ok (.iload 7, 2) := by decide +kernel
theorem dL_holds_117 : decode cL_holds 117 = .ok (.bipush 18, 2) := by decide +kernel
theorem dL_holds_119 : decode cL_holds 119 = .ok (.if_icmp .ge 19, 3) := by decide +kernel
theorem dL_holds_122 : decode cL_holds 122 = .ok (.aload_n 1, 1) := by decide +kernel
theorem dL_holds_123 : decode cL_holds 123 = .ok (.aload_n 2, 1) := by decide +kernel
theorem dL_holds_124 : decode cL_holds 124 = .ok (.iload 7, 2) := by decide +kernel
theorem dL_holds_126 : decode cL_holds 126 = .ok (.iload 8, 2) := by decide +kernel
theorem dL_holds_128 : decode cL_holds 128 = .ok (.iload 9, 2) := by decide +kernel
theorem dL_holds_130 : decode cL_holds 130 = .ok (.invokestatic 167, 3) := by decide +kernel
theorem dL_holds_133 : decode cL_holds 133 = .ok (.istore 5, 2) := by decide +kernel
theorem dL_holds_135 : decode cL_holds 135 = .ok (.goto 100, 3) := by decide +kernel
theorem dL_holds_138 : decode cL_holds 138 = .ok (.iload 7, 2) := by decide +kernel
theorem dL_holds_140 : decode cL_holds 140 = .ok (.bipush 21, 2) := by decide +kernel
theorem dL_holds_142 : decode cL_holds 142 = .ok (.if_icmp .ne 36, 3) := by decide +kernel
theorem dL_holds_145 : decode cL_holds 145 = .ok (.iload 9, 2) := by decide +kernel
theorem dL_holds_147 : decode cL_holds 147 = .ok (.iconst 3, 1) := by decide +kernel
theorem dL_holds_148 : decode cL_holds 148 = .ok (.irem, 1) := by decide +kernel
theorem dL_holds_149 : decode cL_holds 149 = .ok (.ifCond .ne 29, 3) := by decide +kernel
theorem dL_holds_152 : decode cL_holds 152 = .ok (.aload_n 1, 1) := by decide +kernel
theorem dL_holds_153 : decode cL_holds 153 = .ok (.invokevirtual 171, 3) := by decide +kernel
theorem dL_holds_156 : decode cL_holds 156 = .ok (.aload 4, 2) := by decide +kernel
theorem dL_holds_158 : decode cL_holds 158 = .ok (.iconst 0, 1) := by decide +kernel
theorem dL_holds_159 : decode cL_holds 159 = .ok (.iaload, 1) := by decide +kernel
theorem dL_holds_160 : decode cL_holds 160 = .ok (.if_icmp .ne 7, 3) := by decide +kernel
theorem dL_holds_163 : decode cL_holds 163 = .ok (.iconst 1, 1) := by decide +kernel
theorem dL_holds_164 : decode cL_holds 164 = .ok (.goto 4, 3) := by decide +kernel
theorem dL_holds_167 : decode cL_holds 167 = .ok (.iconst 0, 1) := by decide +kernel
theorem dL_holds_168 : decode cL_holds 168 = .ok (.istore 5, 2) := by decide +kernel
theorem dL_holds_170 : decode cL_holds 170 = .ok (.aload 4, 2) := by decide +kernel
theorem dL_holds_172 : decode cL_holds 172 = .ok (.iconst 0, 1) := by decide +kernel
theorem dL_holds_173 : decode cL_holds 173 = .ok (.iconst 0, 1) := by decide +kernel
theorem dL_holds_174 : decode cL_holds 174 = .ok (.iastore, 1) := by decide +kernel
theorem dL_holds_175 : decode cL_holds 175 = .ok (.goto 60, 3) := by decide +kernel
theorem dL_holds_178 : decode cL_holds 178 = .ok (.aload 4, 2) := by decide +kernel
theorem dL_holds_180 : decode cL_holds 180 = .ok (.iconst 0, 1) := by decide +kernel
theorem dL_holds_181 : decode cL_holds 181 = .ok (.iaload, 1) := by decide +kernel
theorem dL_holds_182 : decode cL_holds 182 = .ok (.bipush 6, 2) := by decide +kernel
theorem dL_holds_184 : decode cL_holds 184 = .ok (.if_icmp .ge 51, 3) := by decide +kernel
theorem dL_holds_187 : decode cL_holds 187 = .ok (.aload 4, 2) := by decide +kernel
theorem dL_holds_189 : decode cL_holds 189 = .ok (.iconst 0, 1) := by decide +kernel
theorem dL_holds_190 : decode cL_holds 190 = .ok (.dup2, 1) := by decide +kernel
theorem dL_holds_191 : decode cL_holds 191 = .ok (.iaload, 1) := by decide +kernel
theorem dL_holds_192 : decode cL_holds 192 = .ok (.iconst 1, 1) := by decide +kernel
theorem dL_holds_193 : decode cL_holds 193 = .ok (.iadd, 1) := by decide +kernel
theorem dL_holds_194 : decode cL_holds 194 = .ok (.iastore, 1) := by decide +kernel
theorem dL_holds_195 : decode cL_holds 195 = .ok (.aload 4, 2) := by decide +kernel
theorem dL_holds_197 : decode cL_holds 197 = .ok (.aload 4, 2) := by decide +kernel
theorem dL_holds_199 : decode cL_holds 199 = .ok (.iconst 0, 1) := by decide +kernel
theorem dL_holds_200 : decode cL_holds 200 = .ok (.iaload, 1) := by decide +kernel
theorem dL_holds_201 : decode cL_holds 201 = .ok (.iload 9, 2) := by decide +kernel
theorem dL_holds_203 : decode cL_holds 203 = .ok (.bipush 48, 2) := by decide +kernel
theorem dL_holds_205 : decode cL_holds 205 = .ok (.irem, 1) := by decide +kernel
theorem dL_holds_206 : decode cL_holds 206 = .ok (.iastore, 1) := by decide +kernel
theorem dL_holds_207 : decode cL_holds 207 = .ok (.aload_n 1, 1) := by decide +kernel
theorem dL_holds_208 : decode cL_holds 208 = .ok (.iload 9, 2) := by decide +kernel
theorem dL_holds_210 : decode cL_holds 210 = .ok (.bipush 48, 2) := by decide +kernel
theorem dL_holds_212 : decode cL_holds 212 = .ok (.irem, 1) := by decide +kernel
theorem dL_holds_213 : decode cL_holds 213 = .ok (.invokestatic 138, 3) := by decide +kernel
theorem dL_holds_216 : decode cL_holds 216 = .ok (.invokevirtual 174, 3) := by decide +kernel
theorem dL_holds_219 : decode cL_holds 219 = .ok (.aload_n 3, 1) := by decide +kernel
theorem dL_holds_220 : decode cL_holds 220 = .ok (.aload 4, 2) := by decide +kernel
theorem dL_holds_222 : decode cL_holds 222 = .ok (.invokestatic 177, 3) := by decide +kernel
theorem dL_holds_225 : decode cL_holds 225 = .ok (.if_icmp .ne 7, 3) := by decide +kernel
theorem dL_holds_228 : decode cL_holds 228 = .ok (.iconst 1, 1) := by decide +kernel
theorem dL_holds_229 : decode cL_holds 229 = .ok (.goto 4, 3) := by decide +kernel
theorem dL_holds_232 : decode cL_holds 232 = .ok (.iconst 0, 1) := by decide +kernel
theorem dL_holds_233 : decode cL_holds 233 = .ok (.istore 5, 2) := by decide +kernel
theorem dL_holds_235 : decode cL_holds 235 = .ok (.iload 5, 2) := by decide +kernel
theorem dL_holds_237 : decode cL_holds 237 = .ok (.ifCond .eq 90, 3) := by decide +kernel
theorem dL_holds_240 : decode cL_holds 240 = .ok (.iload 6, 2) := by decide +kernel
theorem dL_holds_242 : decode cL_holds 242 = .ok (.iconst 4, 1) := by decide +kernel
theorem dL_holds_243 : decode cL_holds 243 = .ok (.irem, 1) := by decide +kernel
theorem dL_holds_244 : decode cL_holds 244 = .ok (.iconst 3, 1) := by decide +kernel
theorem dL_holds_245 : decode cL_holds 245 = .ok (.if_icmp .lt 32, 3) := by decide +kernel
theorem dL_holds_248 : decode cL_holds 248 = .ok (.aload_n 1, 1) := by decide +kernel
theorem dL_holds_249 : decode cL_holds 249 = .ok (.iload 8, 2) := by decide +kernel
theorem dL_holds_251 : decode cL_holds 251 = .ok (.aload_n 2, 1) := by decide +kernel
theorem dL_holds_252 : decode cL_holds 252 = .ok (.iload 8, 2) := by decide +kernel
theorem dL_holds_254 : decode cL_holds 254 = .ok (.laload, 1) := by decide +kernel
theorem dL_holds_255 : decode cL_holds 255 = .ok (.invokestatic 181, 3) := by decide +kernel
theorem dL_holds_258 : decode cL_holds 258 = .ok (.ifCond .eq 69, 3) := by decide +kernel
theorem dL_holds_261 : decode cL_holds 261 = .ok (.aload_n 1, 1) := by decide +kernel
theorem dL_holds_262 : decode cL_holds 262 = .ok (.aload_n 3, 1) := by decide +kernel
theorem dL_holds_263 : decode cL_holds 263 = .ok (.aload_n 3, 1) := by decide +kernel
theorem dL_holds_264 : decode cL_holds 264 = .ok (.aload 4, 2) := by decide +kernel
theorem dL_holds_266 : decode cL_holds 266 = .ok (.invokestatic 177, 3) := by decide +kernel
theorem dL_holds_269 : decode cL_holds 269 = .ok (.iload 9, 2) := by decide +kernel
theorem dL_holds_271 : decode cL_holds 271 = .ok (.invokestatic 184, 3) := by decide +kernel
theorem dL_holds_274 : decode cL_holds 274 = .ok (.ifCond .eq 53, 3) := by decide +kernel
theorem dL_holds_277 : decode cL_holds 277 = .ok (.iload 6, 2) := by decide +kernel
theorem dL_holds_279 : decode cL_holds 279 = .ok (.bipush 6, 2) := by decide +kernel
theorem dL_holds_281 : decode cL_holds 281 = .ok (.irem, 1) := by decide +kernel
theorem dL_holds_282 : decode cL_holds 282 = .ok (.iconst 5, 1) := by decide +kernel
theorem dL_holds_283 : decode cL_holds 283 = .ok (.if_icmp .lt 40, 3) := by decide +kernel
theorem dL_holds_286 : decode cL_holds 286 = .ok (.aload_n 1, 1) := by decide +kernel
theorem dL_holds_287 : decode cL_holds 287 = .ok (.iload 8, 2) := by decide +kernel
theorem dL_holds_289 : decode cL_holds 289 = .ok (.aload_n 2, 1) := by decide +kernel
theorem dL_holds_290 : decode cL_holds 290 = .ok (.iload 8, 2) := by decide +kernel
theorem dL_holds_292 : decode cL_holds 292 = .ok (.laload, 1) := by decide +kernel
theorem dL_holds_293 : decode cL_holds 293 = .ok (.invokestatic 188, 3) := by decide +kernel
theorem dL_holds_296 : decode cL_holds 296 = .ok (.ifCond .eq 31, 3) := by decide +kernel
theorem dL_holds_299 : decode cL_holds 299 = .ok (.aload_n 1, 1) := by decide +kernel
theorem dL_holds_300 : decode cL_holds 300 = .ok (.aload_n 2, 1) := by decide +kernel
theorem dL_holds_301 : decode cL_holds 301 = .ok (.iload 8, 2) := by decide +kernel
theorem dL_holds_303 : decode cL_holds 303 = .ok (.iload 10, 2) := by decide +kernel
theorem dL_holds_305 : decode cL_holds 305 = .ok (.invokestatic 191, 3) := by decide +kernel
theorem dL_holds_308 : decode cL_holds 308 = .ok (.ifCond .eq 19, 3) := by decide +kernel
theorem dL_holds_311 : decode cL_holds 311 = .ok (.aload_n 1, 1) := by decide +kernel
theorem dL_holds_312 : decode cL_holds 312 = .ok (.aload_n 2, 1) := by decide +kernel
theorem dL_holds_313 : decode cL_holds 313 = .ok (.iload 10, 2) := by decide +kernel
theorem dL_holds_315 : decode cL_holds 315 = .ok (.iload 8, 2) := by decide +kernel
theorem dL_holds_317 : decode cL_holds 317 = .ok (.invokestatic 191, 3) := by decide +kernel
theorem dL_holds_320 : decode cL_holds 320 = .ok (.ifCond .eq 7, 3) := by decide +kernel
theorem dL_holds_323 : decode cL_holds 323 = .ok (.iconst 1, 1) := by decide +kernel
theorem dL_holds_324 : decode cL_holds 324 = .ok (.goto 4, 3) := by decide +kernel
theorem dL_holds_327 : decode cL_holds 327 = .ok (.iconst 0, 1) := by decide +kernel
theorem dL_holds_328 : decode cL_holds 328 = .ok (.istore 5, 2) := by decide +kernel
theorem dL_holds_330 : decode cL_holds 330 = .ok (.iinc 6 1, 3) := by decide +kernel
theorem dL_holds_333 : decode cL_holds 333 = .ok (.goto (-282), 3) := by decide +kernel
theorem dL_holds_336 : decode cL_holds 336 = .ok (.iload 5, 2) := by decide +kernel
theorem dL_holds_338 : decode cL_holds 338 = .ok (.ireturn, 1) := by decide +kernel
set_option maxRecDepth 20000 in
theorem ggL_holds_X7_init : GoodIn wsL_holds wsX7_init := (goodIn_ca (goodIn_ca (goodIn_ca (goodIn_ca (goodIn_ca (goodIn_ca (goodIn_ca (goodIn_ca ggL_holds_X7_init_p1 (goodIn_app ggL_holds_X7_init_p2 (goodIn_app ggL_holds_X7_init_p3 ggL_holds_X7_init_p4))) ggL_holds_X7_init_p5) ggL_holds_X7_init_p6) ggL_holds_X7_init_p7) ggL_holds_X7_init_p8) ggL_holds_X7_init_p9) ggL_holds_X7_init_p10) ggL_holds_X7_init_p11)
set_option maxRecDepth 20000 in
theorem gL_holds_X7_init : GoodIn wsL_holds (wsX7_init) := ggL_holds_X7_init
set_option maxRecDepth 20000 in
theorem ggL_holds_L_from : GoodIn wsL_holds wsL_from := goodIn_r _ [104, 105, 106] (by decide +kernel) (by decide +kernel)
set_option maxRecDepth 20000 in
theorem gL_holds_L_from : GoodIn wsL_holds (va_wsS RL 162 yL_from wsL_from) := goodIn_app (goodIn_of _ (by decide +kernel)) ggL_holds_L_from
set_option maxRecDepth 20000 in
theorem ggL_holds_L_acts : GoodIn wsL_holds wsL_acts := goodIn_ca (goodIn_ca ((goodIn_ca (goodIn_ca (goodIn_ca ggL_holds_L_acts_p1 (goodIn_app ggL_holds_L_acts_p2 (goodIn_app ggL_holds_L_acts_p3 ggL_holds_L_acts_p4))) ggL_holds_L_acts_p5) ggL_holds_L_acts_p6)) (goodIn_sub (fun _ h => List.mem_cons_of_mem _ (List.mem_append_left _ (List.mem_append_left _ (List.mem_append_right _ h)))) (by decide +kernel))) (goodIn_sub (fun _ h => List.mem_cons_of_mem _ (List.mem_append_left _ (List.mem_append_right _ h))) (by decide +kernel))
set_option maxRecDepth 20000 in
theorem gL_holds_L_acts : GoodIn wsL_holds (va_wsS RL 167 yL_acts wsL_acts) := goodIn_app (goodIn_of _ (by decide +kernel)) ggL_holds_L_acts
set_option maxRecDepth 20000 in
theorem ggL_holds_X7_forgetGenerators : GoodIn wsL_holds wsX7_forgetGenerators := goodIn_r _ [192, 34, 77, 33, 78, 79, 80, 68, 81, 67, 82, 83, 84, 85, 75, 73, 86, 87, 88, 89, 90, 91, 92, 93, 94, 95, 96, 97, 98, 99, 3, 100, 474, 475, 476, 477, 478, 479, 498, 499, 500, 501, 502, 503, 504, 505, 506, 507] (by decide +kernel) (by decide +kernel)
set_option maxRecDepth 20000 in
theorem gL_holds_X7_forgetGenerators : GoodIn wsL_holds (wsV RL 171 RX7 yX7_forgetGenerators wsX7_forgetGenerators) := goodIn_app (goodIn_of _ (by decide +kernel)) ggL_holds_X7_forgetGenerators
set_option maxRecDepth 20000 in
theorem ggL_holds_L_told : GoodIn wsL_holds wsL_told := goodIn_r _ [195, 196, 197, 198, 199, 103, 200, 201, 202, 203] (by decide +kernel) (by decide +kernel)
set_option maxRecDepth 20000 in
theorem gL_holds_L_told : GoodIn wsL_holds (va_wsS RL 138 yL_told wsL_told) := goodIn_app (goodIn_of _ (by decide +kernel)) ggL_holds_L_told
set_option maxRecDepth 20000 in
theorem ggL_holds_X7_addGenerator : GoodIn wsL_holds wsX7_addGenerator := goodIn_ca (goodIn_ca ((goodIn_ca (goodIn_ca (goodIn_ca (goodIn_ca ggL_holds_X7_addGenerator_p1 (goodIn_app ggL_holds_X7_addGenerator_p2 ggL_holds_X7_addGenerator_p3)) ggL_holds_X7_addGenerator_p4) ggL_holds_X7_addGenerator_p5) ggL_holds_X7_addGenerator_p6)) (goodIn_sub (fun _ h => List.mem_cons_of_mem _ (List.mem_append_right _ h)) (by decide +kernel))) (goodIn_sub (fun _ h => List.mem_cons_of_mem _ (List.mem_append_left _ (List.mem_append_left _ (List.mem_append_right _ h)))) (by decide +kernel))
set_option maxRecDepth 20000 in
theorem gL_holds_X7_addGenerator : GoodIn wsL_holds (wsV RL 174 RX7 yX7_addGenerator wsX7_addGenerator) := goodIn_app (goodIn_of _ (by decide +kernel)) ggL_holds_X7_addGenerator
set_option maxRecDepth 20000 in
theorem ggL_holds_L_close : GoodIn wsL_holds wsL_close := goodIn_r _ [252, 253, 193, 194, 103, 195, 196, 197, 198, 199, 200, 201, 202, 203, 254, 255, 256, 257] (by decide +kernel) (by decide +kernel)
set_option maxRecDepth 20000 in
theorem gL_holds_L_close : GoodIn wsL_holds (va_wsS RL 177 yL_close wsL_close) := goodIn_app (goodIn_of _ (by decide +kernel)) ggL_holds_L_close
set_option maxRecDepth 20000 in
theorem ggL_holds_L_isGraph : GoodIn wsL_holds wsL_isGraph := goodIn_ca ((goodIn_ca (goodIn_ca (goodIn_ca (goodIn_ca (goodIn_ca ggL_holds_L_isGraph_p1 (goodIn_app ggL_holds_L_isGraph_p2 (goodIn_app ggL_holds_L_isGraph_p3 (goodIn_app ggL_holds_L_isGraph_p4 (goodIn_app ggL_holds_L_isGraph_p5 (goodIn_app ggL_holds_L_isGraph_p6 (goodIn_app ggL_holds_L_isGraph_p7 ggL_holds_L_isGraph_p8))))))) ggL_holds_L_isGraph_p9) ggL_holds_L_isGraph_p10) ggL_holds_L_isGraph_p11) ggL_holds_L_isGraph_p12)) (goodIn_sub (fun _ h => List.mem_cons_of_mem _ (List.mem_append_left _ (List.mem_append_right _ h))) (by decide +kernel))
set_option maxRecDepth 20000 in
theorem gL_holds_L_isGraph : GoodIn wsL_holds (va_wsS RL 181 yL_isGraph wsL_isGraph) := goodIn_app (goodIn_of _ (by decide +kernel)) ggL_holds_L_isGraph
set_option maxRecDepth 20000 in
theorem ggL_holds_L_isGroup : GoodIn wsL_holds wsL_isGroup := goodIn_ca (goodIn_ca ((goodIn_ca (goodIn_ca (goodIn_ca (goodIn_ca ggL_holds_L_isGroup_p1 (goodIn_app ggL_holds_L_isGroup_p2 (goodIn_app ggL_holds_L_isGroup_p3 (goodIn_app ggL_holds_L_isGroup_p4 ggL_holds_L_isGroup_p5)))) ggL_holds_L_isGroup_p6) ggL_holds_L_isGroup_p7) ggL_holds_L_isGroup_p8)) (goodIn_sub (fun _ h => List.mem_cons_of_mem _ (List.mem_append_left _ (List.mem_append_left _ (List.mem_append_right _ h)))) (by decide +kernel))) (goodIn_sub (fun _ h => List.mem_cons_of_mem _ (List.mem_append_left _ (List.mem_append_right _ h))) (by decide +kernel))
set_option maxRecDepth 20000 in
theorem gL_holds_L_isGroup : GoodIn wsL_holds (va_wsS RL 184 yL_isGroup wsL_isGroup) := goodIn_app (goodIn_of _ (by decide +kernel)) ggL_holds_L_isGroup
set_option maxRecDepth 20000 in
theorem ggL_holds_L_isTurned : GoodIn wsL_holds wsL_isTurned := goodIn_ca ((goodIn_ca (goodIn_ca (goodIn_ca (goodIn_ca ggL_holds_L_isTurned_p1 (goodIn_app ggL_holds_L_isTurned_p2 (goodIn_app ggL_holds_L_isTurned_p3 (goodIn_app ggL_holds_L_isTurned_p4 (goodIn_app ggL_holds_L_isTurned_p5 ggL_holds_L_isTurned_p6))))) ggL_holds_L_isTurned_p7) ggL_holds_L_isTurned_p8) ggL_holds_L_isTurned_p9)) (goodIn_sub (fun _ h => List.mem_cons_of_mem _ (List.mem_append_left _ (List.mem_append_right _ h))) (by decide +kernel))
set_option maxRecDepth 20000 in
theorem gL_holds_L_isTurned : GoodIn wsL_holds (va_wsS RL 188 yL_isTurned wsL_isTurned) := goodIn_app (goodIn_of _ (by decide +kernel)) ggL_holds_L_isTurned
set_option maxRecDepth 20000 in
theorem ggL_holds_L_arePairs : GoodIn wsL_holds wsL_arePairs := goodIn_ca ((goodIn_ca (goodIn_ca (goodIn_ca (goodIn_ca (goodIn_ca (goodIn_ca ggL_holds_L_arePairs_p1 (goodIn_app ggL_holds_L_arePairs_p2 (goodIn_app ggL_holds_L_arePairs_p3 (goodIn_app ggL_holds_L_arePairs_p4 (goodIn_app ggL_holds_L_arePairs_p5 (goodIn_app ggL_holds_L_arePairs_p6 (goodIn_app ggL_holds_L_arePairs_p7 ggL_holds_L_arePairs_p8))))))) ggL_holds_L_arePairs_p9) ggL_holds_L_arePairs_p10) ggL_holds_L_arePairs_p11) ggL_holds_L_arePairs_p12) ggL_holds_L_arePairs_p13)) (goodIn_sub (fun _ h => List.mem_cons_of_mem _ (List.mem_append_left _ (List.mem_append_right _ h))) (by decide +kernel))
set_option maxRecDepth 20000 in
theorem gL_holds_L_arePairs : GoodIn wsL_holds (va_wsS RL 191 yL_arePairs wsL_arePairs) := goodIn_app (goodIn_of _ (by decide +kernel)) ggL_holds_L_arePairs
theorem wd_L_holds_0 : Cond.constantLong RL 160 18014398509481984 ∈ wsL_holds := by decide +kernel
theorem wd_L_holds_1 : Cond.constant RL 166 100000 ∈ wsL_holds := by decide +kernel
def r_L_holds : Room := { frames := 18, cells := 581980, slots := 4639286, locals := 450 }
set_option maxRecDepth 100000 in
set_option maxHeartbeats 4000000 in
theorem w_L_holds_328 {K : zK} {w : Nat} {b L : Nat} {xs : Nat → Int32} (hk : zIs K RL cL_holds 11 wsL_holds (some .boolean) r_L_holds) (hfl : (kL K).stackTraces = false) (hnx : zNX K) {r0 : Int32} {τ0 : zST} (hq : zQG K (.inr (some (.int r0))) τ0) (hw : eN (kZ K) = w) (hsc : zSc K b L xs) (hao : va_AO "CanonCote$Graph" (kS K)) (cs ss : Nat) (C S : Nat) (hr1 : cs + 0 ≤ C) (hr2 : ss + 0 ≤ S) (hb1 : cs + 0 ≤ 581980) (hb2 : ss + 0 ≤ 4639286) (F : Nat) (k51 : Nat → Nat → Nat → Nat → Int32 → Int32 → zST → Option (Int32 × zST)) (hk51 : ∀ (a1 : Nat) (a2 : Nat) (a3 : Nat) (a4 : Nat) (a5 : Int32) (a6 : Int32) (ha1 : atCanonCote (kZ K) a1) (ha2 : aJ (kZ K) a2 4) (ha3 : aJ (kZ K) a3 64) (ha4 : aI (kZ K) a4 8) (σ : zST), k51 a1 a2 a3 a4 a5 a6 σ = some (r0, τ0) → Z K C S 51 [(0, .ref b), (1, .ref (eA (kZ K) a1)), (2, .ref (eA (kZ K) a2)), (3, .ref (eA (kZ K) a3)), (4, .ref (eA (kZ K) a4)), (5, .int a5), (6, .int a6)] [] σ) (a1 : Nat) (a2 : Nat) (a3 : Nat) (a4 : Nat) (a6 : Int32) (t0 : Int32) (ha1 : atCanonCote (kZ K) a1) (ha2 : aJ (kZ K) a2 4) (ha3 : aJ (kZ K) a3 64) (ha4 : aI (kZ K) a4 8) (σ : zST) (h : m_L_holds_328 F w L xs k51 a1 a2 a3 a4 a6 t0 σ = some (r0, τ0)) : Z K cs ss 328 [(0, .ref b), (1, .ref (eA (kZ K) a1)), (2, .ref (eA (kZ K) a2)), (3, .ref (eA (kZ K) a3)), (4, .ref (eA (kZ K) a4)), (6, .int a6)] [.int t0] σ := by
  unfold m_L_holds_328 at h
  refine Z_istore hk (lv' := [(5, .int t0), (0, .ref b), (1, .ref (eA (kZ K) a1)), (2, .ref (eA (kZ K) a2)), (3, .ref (eA (kZ K) a3)), (4, .ref (eA (kZ K) a4)), (6, .int a6)]) dL_holds_328 (by decide) rfl ?_
  obtain ⟨x95, e96, h⟩ := nm_get h
  refine Z_iinc hk 6 (v := x95) (lv' := [(6, .int x95), (5, .int t0), (0, .ref b), (1, .ref (eA (kZ K) a1)), (2, .ref (eA (kZ K) a2)), (3, .ref (eA (kZ K) a3)), (4, .ref (eA (kZ K) a4))]) dL_holds_330 rfl (by rw [zc_iinc_1]; exact e96) (by decide) rfl ?_
  refine Z_goto hk (tgt := 51) dL_holds_333 (by decide) ?_
  refine Z_sub [2, 3, 4, 5, 6, 1, 0] rfl ?_
  refine Z_widen (cs' := C) (ss' := S) (by omega) (by omega) ?_
  exact hk51 a1 a2 a3 a4 t0 x95 ha1 ha2 ha3 ha4 σ h
set_option maxRecDepth 100000 in
set_option maxHeartbeats 4000000 in
theorem w_L_holds_323 {K : zK} {w : Nat} {b L : Nat} {xs : Nat → Int32} (hk : zIs K RL cL_holds 11 wsL_holds (some .boolean) r_L_holds) (hfl : (kL K).stackTraces = false) (hnx : zNX K) {r0 : Int32} {τ0 : zST} (hq : zQG K (.inr (some (.int r0))) τ0) (hw : eN (kZ K) = w) (hsc : zSc K b L xs) (hao : va_AO "CanonCote$Graph" (kS K)) (cs ss : Nat) (C S : Nat) (hr1 : cs + 0 ≤ C) (hr2 : ss + 0 ≤ S) (hb1 : cs + 0 ≤ 581980) (hb2 : ss + 0 ≤ 4639286) (F : Nat) (k51 : Nat → Nat → Nat → Nat → Int32 → Int32 → zST → Option (Int32 × zST)) (hk51 : ∀ (a1 : Nat) (a2 : Nat) (a3 : Nat) (a4 : Nat) (a5 : Int32) (a6 : Int32) (ha1 : atCanonCote (kZ K) a1) (ha2 : aJ (kZ K) a2 4) (ha3 : aJ (kZ K) a3 64) (ha4 : aI (kZ K) a4 8) (σ : zST), k51 a1 a2 a3 a4 a5 a6 σ = some (r0, τ0) → Z K C S 51 [(0, .ref b), (1, .ref (eA (kZ K) a1)), (2, .ref (eA (kZ K) a2)), (3, .ref (eA (kZ K) a3)), (4, .ref (eA (kZ K) a4)), (5, .int a5), (6, .int a6)] [] σ) (a1 : Nat) (a2 : Nat) (a3 : Nat) (a4 : Nat) (a6 : Int32) (ha1 : atCanonCote (kZ K) a1) (ha2 : aJ (kZ K) a2 4) (ha3 : aJ (kZ K) a3 64) (ha4 : aI (kZ K) a4 8) (σ : zST) (h : m_L_holds_323 F w L xs k51 a1 a2 a3 a4 a6 σ = some (r0, τ0)) : Z K cs ss 323 [(0, .ref b), (1, .ref (eA (kZ K) a1)), (2, .ref (eA (kZ K) a2)), (3, .ref (eA (kZ K) a3)), (4, .ref (eA (kZ K) a4)), (6, .int a6)] [] σ := by
  unfold m_L_holds_323 at h
  refine Z_iconst hk dL_holds_323 zc_iconst_1 ?_
  refine Z_goto hk (tgt := 328) dL_holds_324 (by decide) ?_
  refine Z_sub [0, 1, 2, 3, 4, 5] rfl ?_
  exact w_L_holds_328 hk hfl hnx hq hw hsc hao cs ss C S (by omega) (by omega) (by omega) (by omega) F k51 hk51 a1 a2 a3 a4 a6 1 ha1 ha2 ha3 ha4 σ h
set_option maxRecDepth 100000 in
set_option maxHeartbeats 4000000 in
theorem w_L_holds_327 {K : zK} {w : Nat} {b L : Nat} {xs : Nat → Int32} (hk : zIs K RL cL_holds 11 wsL_holds (some .boolean) r_L_holds) (hfl : (kL K).stackTraces = false) (hnx : zNX K) {r0 : Int32} {τ0 : zST} (hq : zQG K (.inr (some (.int r0))) τ0) (hw : eN (kZ K) = w) (hsc : zSc K b L xs) (hao : va_AO "CanonCote$Graph" (kS K)) (cs ss : Nat) (C S : Nat) (hr1 : cs + 0 ≤ C) (hr2 : ss + 0 ≤ S) (hb1 : cs + 0 ≤ 581980) (hb2 : ss + 0 ≤ 4639286) (F : Nat) (k51 : Nat → Nat → Nat → Nat → Int32 → Int32 → zST → Option (Int32 × zST)) (hk51 : ∀ (a1 : Nat) (a2 : Nat) (a3 : Nat) (a4 : Nat) (a5 : Int32) (a6 : Int32) (ha1 : atCanonCote (kZ K) a1) (ha2 : aJ (kZ K) a2 4) (ha3 : aJ (kZ K) a3 64) (ha4 : aI (kZ K) a4 8) (σ : zST), k51 a1 a2 a3 a4 a5 a6 σ = some (r0, τ0) → Z K C S 51 [(0, .ref b), (1, .ref (eA (kZ K) a1)), (2, .ref (eA (kZ K) a2)), (3, .ref (eA (kZ K) a3)), (4, .ref (eA (kZ K) a4)), (5, .int a5), (6, .int a6)] [] σ) (a1 : Nat) (a2 : Nat) (a3 : Nat) (a4 : Nat) (a6 : Int32) (ha1 : atCanonCote (kZ K) a1) (ha2 : aJ (kZ K) a2 4) (ha3 : aJ (kZ K) a3 64) (ha4 : aI (kZ K) a4 8) (σ : zST) (h : m_L_holds_327 F w L xs k51 a1 a2 a3 a4 a6 σ = some (r0, τ0)) : Z K cs ss 327 [(0, .ref b), (1, .ref (eA (kZ K) a1)), (2, .ref (eA (kZ K) a2)), (3, .ref (eA (kZ K) a3)), (4, .ref (eA (kZ K) a4)), (6, .int a6)] [] σ := by
  unfold m_L_holds_327 at h
  refine Z_iconst hk dL_holds_327 zc_iconst_0 ?_
  refine Z_sub [0, 1, 2, 3, 4, 5] rfl ?_
  exact w_L_holds_328 hk hfl hnx hq hw hsc hao cs ss C S (by omega) (by omega) (by omega) (by omega) F k51 hk51 a1 a2 a3 a4 a6 0 ha1 ha2 ha3 ha4 σ h
set_option maxRecDepth 100000 in
set_option maxHeartbeats 4000000 in
theorem w_L_holds_277 {K : zK} {w : Nat} {b L : Nat} {xs : Nat → Int32} (hk : zIs K RL cL_holds 11 wsL_holds (some .boolean) r_L_holds) (hfl : (kL K).stackTraces = false) (hnx : zNX K) {r0 : Int32} {τ0 : zST} (hq : zQG K (.inr (some (.int r0))) τ0) (hw : eN (kZ K) = w) (hsc : zSc K b L xs) (hao : va_AO "CanonCote$Graph" (kS K)) (cs ss : Nat) (C S : Nat) (hr1 : cs + 9042 ≤ C) (hr2 : ss + 72210 ≤ S) (hb1 : cs + 9042 ≤ 581980) (hb2 : ss + 72210 ≤ 4639286) (F : Nat) (k51 : Nat → Nat → Nat → Nat → Int32 → Int32 → zST → Option (Int32 × zST)) (hk51 : ∀ (a1 : Nat) (a2 : Nat) (a3 : Nat) (a4 : Nat) (a5 : Int32) (a6 : Int32) (ha1 : atCanonCote (kZ K) a1) (ha2 : aJ (kZ K) a2 4) (ha3 : aJ (kZ K) a3 64) (ha4 : aI (kZ K) a4 8) (σ : zST), k51 a1 a2 a3 a4 a5 a6 σ = some (r0, τ0) → Z K C S 51 [(0, .ref b), (1, .ref (eA (kZ K) a1)), (2, .ref (eA (kZ K) a2)), (3, .ref (eA (kZ K) a3)), (4, .ref (eA (kZ K) a4)), (5, .int a5), (6, .int a6)] [] σ) (a1 : Nat) (a2 : Nat) (a3 : Nat) (a4 : Nat) (a6 : Int32) (a8 : Int32) (a10 : Int32) (ha1 : atCanonCote (kZ K) a1) (ha2 : aJ (kZ K) a2 4) (ha3 : aJ (kZ K) a3 64) (ha4 : aI (kZ K) a4 8) (σ : zST) (h : m_L_holds_277 F w L xs k51 a1 a2 a3 a4 a6 a8 a10 σ = some (r0, τ0)) : Z K cs ss 277 [(0, .ref b), (1, .ref (eA (kZ K) a1)), (2, .ref (eA (kZ K) a2)), (3, .ref (eA (kZ K) a3)), (4, .ref (eA (kZ K) a4)), (6, .int a6), (8, .int a8), (10, .int a10)] [] σ := by
  unfold m_L_holds_277 at h
  refine Z_iload hk 5 dL_holds_277 rfl ?_
  refine Z_bipush hk dL_holds_279 zc_bipush_6 ?_
  refine Z_irem hk dL_holds_281 (by decide) ?_
  refine Z_iconst hk dL_holds_282 zc_iconst_5 ?_
  refine Z_icmp_lt hk (tgt := 323) dL_holds_283 (by decide) (fun c79 => ?_) (fun c79 => ?_)
  · have h := if_yes h c79
    refine Z_sub [0, 1, 2, 3, 4, 5] rfl ?_
    exact w_L_holds_323 hk hfl hnx hq hw hsc hao cs ss C S (by omega) (by omega) (by omega) (by omega) F k51 hk51 a1 a2 a3 a4 a6 ha1 ha2 ha3 ha4 σ h
  · have h := if_no h c79
    refine Z_aload_n hk 1 dL_holds_286 rfl rfl ?_
    refine Z_iload hk 6 dL_holds_287 rfl ?_
    refine Z_aload_n hk 2 dL_holds_289 rfl rfl ?_
    refine Z_iload hk 6 dL_holds_290 rfl ?_
    obtain ⟨i82, x80, e81, h⟩ := ldL_get h
    refine Z_lald hk ha2 i82 dL_holds_292 ?_
    refine Z_eqL e81 ?_
    obtain ⟨x83, s84, h85, h⟩ := bd_ok h
    refine ZX_callT 3 hk [.ref (eA (kZ K) a1), .int a8, .long x80] (c_L_isTurned hk.loc hk.inj hfl F w hw a1 a8 x80 ha1 σ h85) gL_holds_L_isTurned rfl ⟨by decide +kernel, by decide +kernel, by decide +kernel⟩ ⟨Nat.le_of_ble_eq_true rfl, Nat.le_of_ble_eq_true rfl⟩ rfl rfl (Nat.le_of_ble_eq_true rfl) ⟨by show cs + 140 ≤ 581980; omega, by show ss + 1086 ≤ 4639286; omega⟩ dL_holds_293 (fun X hX => by cases hX) (fun v hv => ?_)
    cases hv
    show Z K (cs + 140) (ss + 1086) 296 [(0, .ref b), (1, .ref (eA (kZ K) a1)), (2, .ref (eA (kZ K) a2)), (3, .ref (eA (kZ K) a3)), (4, .ref (eA (kZ K) a4)), (6, .int a6), (8, .int a8), (10, .int a10)] [.int x83] s84
    refine Z_if_eq hk (tgt := 327) dL_holds_296 (by decide) (fun c86 => ?_) (fun c86 => ?_)
    · have h := if_yes h c86
      refine Z_sub [0, 1, 2, 3, 4, 5] rfl ?_
      exact w_L_holds_327 hk hfl hnx hq hw hsc hao (cs + 140) (ss + 1086) C S (by omega) (by omega) (by omega) (by omega) F k51 hk51 a1 a2 a3 a4 a6 ha1 ha2 ha3 ha4 s84 h
    · have h := if_no h c86
      refine Z_aload_n hk 1 dL_holds_299 rfl rfl ?_
      refine Z_aload_n hk 2 dL_holds_300 rfl rfl ?_
      refine Z_iload hk 6 dL_holds_301 rfl ?_
      refine Z_iload hk 7 dL_holds_303 rfl ?_
      obtain ⟨x87, s88, h89, h⟩ := bd_ok h
      refine ZX_callT 4 hk [.ref (eA (kZ K) a1), .ref (eA (kZ K) a2), .int a8, .int a10] (c_L_arePairs hk.loc hk.inj hfl F w hw a1 a2 a8 a10 ha1 ha2 s84 h89) gL_holds_L_arePairs rfl ⟨by decide +kernel, by decide +kernel, by decide +kernel⟩ ⟨Nat.le_of_ble_eq_true rfl, Nat.le_of_ble_eq_true rfl⟩ rfl rfl (Nat.le_of_ble_eq_true rfl) ⟨by show (cs + 140) + 4451 ≤ 581980; omega, by show (ss + 1086) + 35562 ≤ 4639286; omega⟩ dL_holds_305 (fun X hX => by cases hX) (fun v hv => ?_)
      cases hv
      show Z K (cs + 4591) (ss + 36648) 308 [(0, .ref b), (1, .ref (eA (kZ K) a1)), (2, .ref (eA (kZ K) a2)), (3, .ref (eA (kZ K) a3)), (4, .ref (eA (kZ K) a4)), (6, .int a6), (8, .int a8), (10, .int a10)] [.int x87] s88
      refine Z_if_eq hk (tgt := 327) dL_holds_308 (by decide) (fun c90 => ?_) (fun c90 => ?_)
      · have h := if_yes h c90
        refine Z_sub [0, 1, 2, 3, 4, 5] rfl ?_
        exact w_L_holds_327 hk hfl hnx hq hw hsc hao (cs + 4591) (ss + 36648) C S (by omega) (by omega) (by omega) (by omega) F k51 hk51 a1 a2 a3 a4 a6 ha1 ha2 ha3 ha4 s88 h
      · have h := if_no h c90
        refine Z_aload_n hk 1 dL_holds_311 rfl rfl ?_
        refine Z_aload_n hk 2 dL_holds_312 rfl rfl ?_
        refine Z_iload hk 7 dL_holds_313 rfl ?_
        refine Z_iload hk 6 dL_holds_315 rfl ?_
        obtain ⟨x91, s92, h93, h⟩ := bd_ok h
        refine ZX_callT 4 hk [.ref (eA (kZ K) a1), .ref (eA (kZ K) a2), .int a10, .int a8] (c_L_arePairs hk.loc hk.inj hfl F w hw a1 a2 a10 a8 ha1 ha2 s88 h93) gL_holds_L_arePairs rfl ⟨by decide +kernel, by decide +kernel, by decide +kernel⟩ ⟨Nat.le_of_ble_eq_true rfl, Nat.le_of_ble_eq_true rfl⟩ rfl rfl (Nat.le_of_ble_eq_true rfl) ⟨by show (cs + 4591) + 4451 ≤ 581980; omega, by show (ss + 36648) + 35562 ≤ 4639286; omega⟩ dL_holds_317 (fun X hX => by cases hX) (fun v hv => ?_)
        cases hv
        show Z K (cs + 9042) (ss + 72210) 320 [(0, .ref b), (1, .ref (eA (kZ K) a1)), (2, .ref (eA (kZ K) a2)), (3, .ref (eA (kZ K) a3)), (4, .ref (eA (kZ K) a4)), (6, .int a6), (8, .int a8), (10, .int a10)] [.int x91] s92
        refine Z_if_eq hk (tgt := 327) dL_holds_320 (by decide) (fun c94 => ?_) (fun c94 => ?_)
        · have h := if_yes h c94
          refine Z_sub [0, 1, 2, 3, 4, 5] rfl ?_
          exact w_L_holds_327 hk hfl hnx hq hw hsc hao (cs + 9042) (ss + 72210) C S (by omega) (by omega) (by omega) (by omega) F k51 hk51 a1 a2 a3 a4 a6 ha1 ha2 ha3 ha4 s92 h
        · have h := if_no h c94
          refine Z_sub [0, 1, 2, 3, 4, 5] rfl ?_
          exact w_L_holds_323 hk hfl hnx hq hw hsc hao (cs + 9042) (ss + 72210) C S (by omega) (by omega) (by omega) (by omega) F k51 hk51 a1 a2 a3 a4 a6 ha1 ha2 ha3 ha4 s92 h
set_option maxRecDepth 100000 in
set_option maxHeartbeats 4000000 in
theorem w_L_holds_235 {K : zK} {w : Nat} {b L : Nat} {xs : Nat → Int32} (hk : zIs K RL cL_holds 11 wsL_holds (some .boolean) r_L_holds) (hfl : (kL K).stackTraces = false) (hnx : zNX K) {r0 : Int32} {τ0 : zST} (hq : zQG K (.inr (some (.int r0))) τ0) (hw : eN (kZ K) = w) (hsc : zSc K b L xs) (hao : va_AO "CanonCote$Graph" (kS K)) (cs ss : Nat) (C S : Nat) (hr1 : cs + 9233 ≤ C) (hr2 : ss + 73606 ≤ S) (hb1 : cs + 9233 ≤ 581980) (hb2 : ss + 73606 ≤ 4639286) (F : Nat) (k51 : Nat → Nat → Nat → Nat → Int32 → Int32 → zST → Option (Int32 × zST)) (hk51 : ∀ (a1 : Nat) (a2 : Nat) (a3 : Nat) (a4 : Nat) (a5 : Int32) (a6 : Int32) (ha1 : atCanonCote (kZ K) a1) (ha2 : aJ (kZ K) a2 4) (ha3 : aJ (kZ K) a3 64) (ha4 : aI (kZ K) a4 8) (σ : zST), k51 a1 a2 a3 a4 a5 a6 σ = some (r0, τ0) → Z K C S 51 [(0, .ref b), (1, .ref (eA (kZ K) a1)), (2, .ref (eA (kZ K) a2)), (3, .ref (eA (kZ K) a3)), (4, .ref (eA (kZ K) a4)), (5, .int a5), (6, .int a6)] [] σ) (a1 : Nat) (a2 : Nat) (a3 : Nat) (a4 : Nat) (a5 : Int32) (a6 : Int32) (a8 : Int32) (a9 : Int32) (a10 : Int32) (ha1 : atCanonCote (kZ K) a1) (ha2 : aJ (kZ K) a2 4) (ha3 : aJ (kZ K) a3 64) (ha4 : aI (kZ K) a4 8) (σ : zST) (h : m_L_holds_235 F w L xs k51 a1 a2 a3 a4 a5 a6 a8 a9 a10 σ = some (r0, τ0)) : Z K cs ss 235 [(0, .ref b), (1, .ref (eA (kZ K) a1)), (2, .ref (eA (kZ K) a2)), (3, .ref (eA (kZ K) a3)), (4, .ref (eA (kZ K) a4)), (5, .int a5), (6, .int a6), (8, .int a8), (9, .int a9), (10, .int a10)] [] σ := by
  unfold m_L_holds_235 at h
  refine Z_iload hk 5 dL_holds_235 rfl ?_
  refine Z_if_eq hk (tgt := 327) dL_holds_237 (by decide) (fun c63 => ?_) (fun c63 => ?_)
  · have h := if_yes h c63
    refine Z_sub [0, 1, 2, 3, 4, 6] rfl ?_
    exact w_L_holds_327 hk hfl hnx hq hw hsc hao cs ss C S (by omega) (by omega) (by omega) (by omega) F k51 hk51 a1 a2 a3 a4 a6 ha1 ha2 ha3 ha4 σ h
  · have h := if_no h c63
    refine Z_iload hk 6 dL_holds_240 rfl ?_
    refine Z_iconst hk dL_holds_242 zc_iconst_4 ?_
    refine Z_irem hk dL_holds_243 (by decide) ?_
    refine Z_iconst hk dL_holds_244 zc_iconst_3 ?_
    refine Z_icmp_lt hk (tgt := 277) dL_holds_245 (by decide) (fun c64 => ?_) (fun c64 => ?_)
    · have h := if_yes h c64
      refine Z_sub [0, 1, 2, 3, 4, 6, 7, 9] rfl ?_
      exact w_L_holds_277 hk hfl hnx hq hw hsc hao cs ss C S (by omega) (by omega) (by omega) (by omega) F k51 hk51 a1 a2 a3 a4 a6 a8 a10 ha1 ha2 ha3 ha4 σ h
    · have h := if_no h c64
      refine Z_aload_n hk 1 dL_holds_248 rfl rfl ?_
      refine Z_iload hk 7 dL_holds_249 rfl ?_
      refine Z_aload_n hk 2 dL_holds_251 rfl rfl ?_
      refine Z_iload hk 7 dL_holds_252 rfl ?_
      obtain ⟨i67, x65, e66, h⟩ := ldL_get h
      refine Z_lald hk ha2 i67 dL_holds_254 ?_
      refine Z_eqL e66 ?_
      obtain ⟨x68, s69, h70, h⟩ := bd_ok h
      refine ZX_callT 3 hk [.ref (eA (kZ K) a1), .int a8, .long x65] (c_L_isGraph hk.loc hk.inj hfl F w hw a1 a8 x65 ha1 σ h70) gL_holds_L_isGraph rfl ⟨by decide +kernel, by decide +kernel, by decide +kernel⟩ ⟨Nat.le_of_ble_eq_true rfl, Nat.le_of_ble_eq_true rfl⟩ rfl rfl (Nat.le_of_ble_eq_true rfl) ⟨by show cs + 188 ≤ 581980; omega, by show ss + 1378 ≤ 4639286; omega⟩ dL_holds_255 (fun X hX => by cases hX) (fun v hv => ?_)
      cases hv
      show Z K (cs + 188) (ss + 1378) 258 [(0, .ref b), (1, .ref (eA (kZ K) a1)), (2, .ref (eA (kZ K) a2)), (3, .ref (eA (kZ K) a3)), (4, .ref (eA (kZ K) a4)), (5, .int a5), (6, .int a6), (8, .int a8), (9, .int a9), (10, .int a10)] [.int x68] s69
      refine Z_if_eq hk (tgt := 327) dL_holds_258 (by decide) (fun c71 => ?_) (fun c71 => ?_)
      · have h := if_yes h c71
        refine Z_sub [0, 1, 2, 3, 4, 6] rfl ?_
        exact w_L_holds_327 hk hfl hnx hq hw hsc hao (cs + 188) (ss + 1378) C S (by omega) (by omega) (by omega) (by omega) F k51 hk51 a1 a2 a3 a4 a6 ha1 ha2 ha3 ha4 s69 h
      · have h := if_no h c71
        refine Z_aload_n hk 1 dL_holds_261 rfl rfl ?_
        refine Z_aload_n hk 3 dL_holds_262 rfl rfl ?_
        refine Z_aload_n hk 3 dL_holds_263 rfl rfl ?_
        refine Z_aload hk 4 dL_holds_264 rfl ?_
        obtain ⟨x72, s73, h74, h⟩ := bd_ok h
        refine Z_callT 2 hk [.ref (eA (kZ K) a3), .ref (eA (kZ K) a4)] (c_L_close hk.loc hk.inj F a3 a4 ha3 ha4 s69 h74) gL_holds_L_close rfl ⟨rfl, rfl⟩ (by decide +kernel) ⟨Nat.le_of_ble_eq_true rfl, Nat.le_of_ble_eq_true rfl⟩ rfl rfl (Nat.le_of_ble_eq_true rfl) ⟨by show (cs + 188) + 0 ≤ 581980; omega, by show (ss + 1378) + 0 ≤ 4639286; omega⟩ dL_holds_266 ?_
        show Z K (cs + 188) (ss + 1378) 269 [(0, .ref b), (1, .ref (eA (kZ K) a1)), (2, .ref (eA (kZ K) a2)), (3, .ref (eA (kZ K) a3)), (4, .ref (eA (kZ K) a4)), (5, .int a5), (6, .int a6), (8, .int a8), (9, .int a9), (10, .int a10)] [.int x72, .ref (eA (kZ K) a3), .ref (eA (kZ K) a1)] s73
        refine Z_iload hk 8 dL_holds_269 rfl ?_
        obtain ⟨x75, s76, h77, h⟩ := bd_ok h
        refine ZX_callT 4 hk [.ref (eA (kZ K) a1), .ref (eA (kZ K) a3), .int x72, .int a9] (c_L_isGroup hk.loc hk.inj hfl F w hw a1 a3 x72 a9 ha1 ha3 s73 h77) gL_holds_L_isGroup rfl ⟨by decide +kernel, by decide +kernel, by decide +kernel⟩ ⟨Nat.le_of_ble_eq_true rfl, Nat.le_of_ble_eq_true rfl⟩ rfl rfl (Nat.le_of_ble_eq_true rfl) ⟨by show (cs + 188) + 3 ≤ 581980; omega, by show (ss + 1378) + 18 ≤ 4639286; omega⟩ dL_holds_271 (fun X hX => by cases hX) (fun v hv => ?_)
        cases hv
        show Z K (cs + 191) (ss + 1396) 274 [(0, .ref b), (1, .ref (eA (kZ K) a1)), (2, .ref (eA (kZ K) a2)), (3, .ref (eA (kZ K) a3)), (4, .ref (eA (kZ K) a4)), (5, .int a5), (6, .int a6), (8, .int a8), (9, .int a9), (10, .int a10)] [.int x75] s76
        refine Z_if_eq hk (tgt := 327) dL_holds_274 (by decide) (fun c78 => ?_) (fun c78 => ?_)
        · have h := if_yes h c78
          refine Z_sub [0, 1, 2, 3, 4, 6] rfl ?_
          exact w_L_holds_327 hk hfl hnx hq hw hsc hao (cs + 191) (ss + 1396) C S (by omega) (by omega) (by omega) (by omega) F k51 hk51 a1 a2 a3 a4 a6 ha1 ha2 ha3 ha4 s76 h
        · have h := if_no h c78
          refine Z_sub [0, 1, 2, 3, 4, 6, 7, 9] rfl ?_
          exact w_L_holds_277 hk hfl hnx hq hw hsc hao (cs + 191) (ss + 1396) C S (by omega) (by omega) (by omega) (by omega) F k51 hk51 a1 a2 a3 a4 a6 a8 a10 ha1 ha2 ha3 ha4 s76 h
set_option maxRecDepth 100000 in
set_option maxHeartbeats 4000000 in
theorem w_L_holds_168 {K : zK} {w : Nat} {b L : Nat} {xs : Nat → Int32} (hk : zIs K RL cL_holds 11 wsL_holds (some .boolean) r_L_holds) (hfl : (kL K).stackTraces = false) (hnx : zNX K) {r0 : Int32} {τ0 : zST} (hq : zQG K (.inr (some (.int r0))) τ0) (hw : eN (kZ K) = w) (hsc : zSc K b L xs) (hao : va_AO "CanonCote$Graph" (kS K)) (cs ss : Nat) (C S : Nat) (hr1 : cs + 9233 ≤ C) (hr2 : ss + 73606 ≤ S) (hb1 : cs + 9233 ≤ 581980) (hb2 : ss + 73606 ≤ 4639286) (F : Nat) (k51 : Nat → Nat → Nat → Nat → Int32 → Int32 → zST → Option (Int32 × zST)) (hk51 : ∀ (a1 : Nat) (a2 : Nat) (a3 : Nat) (a4 : Nat) (a5 : Int32) (a6 : Int32) (ha1 : atCanonCote (kZ K) a1) (ha2 : aJ (kZ K) a2 4) (ha3 : aJ (kZ K) a3 64) (ha4 : aI (kZ K) a4 8) (σ : zST), k51 a1 a2 a3 a4 a5 a6 σ = some (r0, τ0) → Z K C S 51 [(0, .ref b), (1, .ref (eA (kZ K) a1)), (2, .ref (eA (kZ K) a2)), (3, .ref (eA (kZ K) a3)), (4, .ref (eA (kZ K) a4)), (5, .int a5), (6, .int a6)] [] σ) (a1 : Nat) (a2 : Nat) (a3 : Nat) (a4 : Nat) (a6 : Int32) (a8 : Int32) (a9 : Int32) (a10 : Int32) (t0 : Int32) (ha1 : atCanonCote (kZ K) a1) (ha2 : aJ (kZ K) a2 4) (ha3 : aJ (kZ K) a3 64) (ha4 : aI (kZ K) a4 8) (σ : zST) (h : m_L_holds_168 F w L xs k51 a1 a2 a3 a4 a6 a8 a9 a10 t0 σ = some (r0, τ0)) : Z K cs ss 168 [(0, .ref b), (1, .ref (eA (kZ K) a1)), (2, .ref (eA (kZ K) a2)), (3, .ref (eA (kZ K) a3)), (4, .ref (eA (kZ K) a4)), (6, .int a6), (8, .int a8), (9, .int a9), (10, .int a10)] [.int t0] σ := by
  unfold m_L_holds_168 at h
  refine Z_istore hk (lv' := [(5, .int t0), (0, .ref b), (1, .ref (eA (kZ K) a1)), (2, .ref (eA (kZ K) a2)), (3, .ref (eA (kZ K) a3)), (4, .ref (eA (kZ K) a4)), (6, .int a6), (8, .int a8), (9, .int a9), (10, .int a10)]) dL_holds_168 (by decide) rfl ?_
  refine Z_aload hk 5 dL_holds_170 rfl ?_
  refine Z_iconst hk dL_holds_172 zc_iconst_0 ?_
  refine Z_iconst hk dL_holds_173 zc_iconst_0 ?_
  obtain ⟨i36, s34, e35, h⟩ := stI_get h
  refine Z_iast hk ha4 i36 dL_holds_174 ?_
  refine Z_eqS e35 ?_
  refine Z_goto hk (tgt := 235) dL_holds_175 (by decide) ?_
  refine Z_sub [1, 2, 3, 4, 5, 0, 6, 7, 8, 9] rfl ?_
  exact w_L_holds_235 hk hfl hnx hq hw hsc hao cs ss C S (by omega) (by omega) (by omega) (by omega) F k51 hk51 a1 a2 a3 a4 t0 a6 a8 a9 a10 ha1 ha2 ha3 ha4 s34 h
set_option maxRecDepth 100000 in
set_option maxHeartbeats 4000000 in
theorem w_L_holds_233 {K : zK} {w : Nat} {b L : Nat} {xs : Nat → Int32} (hk : zIs K RL cL_holds 11 wsL_holds (some .boolean) r_L_holds) (hfl : (kL K).stackTraces = false) (hnx : zNX K) {r0 : Int32} {τ0 : zST} (hq : zQG K (.inr (some (.int r0))) τ0) (hw : eN (kZ K) = w) (hsc : zSc K b L xs) (hao : va_AO "CanonCote$Graph" (kS K)) (cs ss : Nat) (C S : Nat) (hr1 : cs + 9233 ≤ C) (hr2 : ss + 73606 ≤ S) (hb1 : cs + 9233 ≤ 581980) (hb2 : ss + 73606 ≤ 4639286) (F : Nat) (k51 : Nat → Nat → Nat → Nat → Int32 → Int32 → zST → Option (Int32 × zST)) (hk51 : ∀ (a1 : Nat) (a2 : Nat) (a3 : Nat) (a4 : Nat) (a5 : Int32) (a6 : Int32) (ha1 : atCanonCote (kZ K) a1) (ha2 : aJ (kZ K) a2 4) (ha3 : aJ (kZ K) a3 64) (ha4 : aI (kZ K) a4 8) (σ : zST), k51 a1 a2 a3 a4 a5 a6 σ = some (r0, τ0) → Z K C S 51 [(0, .ref b), (1, .ref (eA (kZ K) a1)), (2, .ref (eA (kZ K) a2)), (3, .ref (eA (kZ K) a3)), (4, .ref (eA (kZ K) a4)), (5, .int a5), (6, .int a6)] [] σ) (a1 : Nat) (a2 : Nat) (a3 : Nat) (a4 : Nat) (a6 : Int32) (a8 : Int32) (a9 : Int32) (a10 : Int32) (t0 : Int32) (ha1 : atCanonCote (kZ K) a1) (ha2 : aJ (kZ K) a2 4) (ha3 : aJ (kZ K) a3 64) (ha4 : aI (kZ K) a4 8) (σ : zST) (h : m_L_holds_233 F w L xs k51 a1 a2 a3 a4 a6 a8 a9 a10 t0 σ = some (r0, τ0)) : Z K cs ss 233 [(0, .ref b), (1, .ref (eA (kZ K) a1)), (2, .ref (eA (kZ K) a2)), (3, .ref (eA (kZ K) a3)), (4, .ref (eA (kZ K) a4)), (6, .int a6), (8, .int a8), (9, .int a9), (10, .int a10)] [.int t0] σ := by
  unfold m_L_holds_233 at h
  refine Z_istore hk (lv' := [(5, .int t0), (0, .ref b), (1, .ref (eA (kZ K) a1)), (2, .ref (eA (kZ K) a2)), (3, .ref (eA (kZ K) a3)), (4, .ref (eA (kZ K) a4)), (6, .int a6), (8, .int a8), (9, .int a9), (10, .int a10)]) dL_holds_233 (by decide) rfl ?_
  refine Z_sub [1, 2, 3, 4, 5, 0, 6, 7, 8, 9] rfl ?_
  exact w_L_holds_235 hk hfl hnx hq hw hsc hao cs ss C S (by omega) (by omega) (by omega) (by omega) F k51 hk51 a1 a2 a3 a4 t0 a6 a8 a9 a10 ha1 ha2 ha3 ha4 σ h
set_option maxRecDepth 100000 in
set_option maxHeartbeats 4000000 in
theorem w_L_holds_178 {K : zK} {w : Nat} {b L : Nat} {xs : Nat → Int32} (hk : zIs K RL cL_holds 11 wsL_holds (some .boolean) r_L_holds) (hfl : (kL K).stackTraces = false) (hnx : zNX K) {r0 : Int32} {τ0 : zST} (hq : zQG K (.inr (some (.int r0))) τ0) (hw : eN (kZ K) = w) (hsc : zSc K b L xs) (hao : va_AO "CanonCote$Graph" (kS K)) (cs ss : Nat) (C S : Nat) (hr1 : cs + 9235 ≤ C) (hr2 : ss + 73618 ≤ S) (hb1 : cs + 9235 ≤ 581980) (hb2 : ss + 73618 ≤ 4639286) (F : Nat) (k51 : Nat → Nat → Nat → Nat → Int32 → Int32 → zST → Option (Int32 × zST)) (hk51 : ∀ (a1 : Nat) (a2 : Nat) (a3 : Nat) (a4 : Nat) (a5 : Int32) (a6 : Int32) (ha1 : atCanonCote (kZ K) a1) (ha2 : aJ (kZ K) a2 4) (ha3 : aJ (kZ K) a3 64) (ha4 : aI (kZ K) a4 8) (σ : zST), k51 a1 a2 a3 a4 a5 a6 σ = some (r0, τ0) → Z K C S 51 [(0, .ref b), (1, .ref (eA (kZ K) a1)), (2, .ref (eA (kZ K) a2)), (3, .ref (eA (kZ K) a3)), (4, .ref (eA (kZ K) a4)), (5, .int a5), (6, .int a6)] [] σ) (a1 : Nat) (a2 : Nat) (a3 : Nat) (a4 : Nat) (a5 : Int32) (a6 : Int32) (a8 : Int32) (a9 : Int32) (a10 : Int32) (ha1 : atCanonCote (kZ K) a1) (ha2 : aJ (kZ K) a2 4) (ha3 : aJ (kZ K) a3 64) (ha4 : aI (kZ K) a4 8) (σ : zST) (h : m_L_holds_178 F w L xs k51 a1 a2 a3 a4 a5 a6 a8 a9 a10 σ = some (r0, τ0)) : Z K cs ss 178 [(0, .ref b), (1, .ref (eA (kZ K) a1)), (2, .ref (eA (kZ K) a2)), (3, .ref (eA (kZ K) a3)), (4, .ref (eA (kZ K) a4)), (5, .int a5), (6, .int a6), (8, .int a8), (9, .int a9), (10, .int a10)] [] σ := by
  unfold m_L_holds_178 at h
  refine Z_aload hk 4 dL_holds_178 rfl ?_
  refine Z_iconst hk dL_holds_180 zc_iconst_0 ?_
  obtain ⟨i39, x37, e38, h⟩ := ldI_get h
  refine Z_iald hk ha4 i39 dL_holds_181 ?_
  refine Z_eqI e38 ?_
  refine Z_bipush hk dL_holds_182 zc_bipush_6 ?_
  refine Z_icmp_ge hk (tgt := 235) dL_holds_184 (by decide) (fun c40 => ?_) (fun c40 => ?_)
  · have h := if_yes h c40
    refine Z_sub [0, 1, 2, 3, 4, 5, 6, 7, 8, 9] rfl ?_
    exact w_L_holds_235 hk hfl hnx hq hw hsc hao cs ss C S (by omega) (by omega) (by omega) (by omega) F k51 hk51 a1 a2 a3 a4 a5 a6 a8 a9 a10 ha1 ha2 ha3 ha4 σ h
  · have h := if_no h c40
    refine Z_aload hk 4 dL_holds_187 rfl ?_
    refine Z_iconst hk dL_holds_189 zc_iconst_0 ?_
    refine Z_dup2 hk dL_holds_190 rfl rfl ?_
    obtain ⟨i43, x41, e42, h⟩ := ldI_get h
    refine Z_iald hk ha4 i43 dL_holds_191 ?_
    refine Z_eqI e42 ?_
    refine Z_iconst hk dL_holds_192 zc_iconst_1 ?_
    refine Z_iadd hk dL_holds_193 ?_
    obtain ⟨i46, s44, e45, h⟩ := stI_get h
    refine Z_iast hk ha4 i46 dL_holds_194 ?_
    refine Z_eqS e45 ?_
    refine Z_aload hk 4 dL_holds_195 rfl ?_
    refine Z_aload hk 4 dL_holds_197 rfl ?_
    refine Z_iconst hk dL_holds_199 zc_iconst_0 ?_
    obtain ⟨i49, x47, e48, h⟩ := ldI_get h
    refine Z_iald hk ha4 i49 dL_holds_200 ?_
    refine Z_eqI e48 ?_
    refine Z_iload hk 8 dL_holds_201 rfl ?_
    refine Z_bipush hk dL_holds_203 zc_bipush_48 ?_
    refine Z_irem hk dL_holds_205 (by decide) ?_
    obtain ⟨i52, s50, e51, h⟩ := stI_get h
    refine Z_iast hk ha4 i52 dL_holds_206 ?_
    refine Z_eqS e51 ?_
    refine Z_aload_n hk 1 dL_holds_207 rfl rfl ?_
    refine Z_iload hk 8 dL_holds_208 rfl ?_
    refine Z_bipush hk dL_holds_210 zc_bipush_48 ?_
    refine Z_irem hk dL_holds_212 (by decide) ?_
    obtain ⟨x53, s54, h55, h⟩ := bd_ok h
    refine Z_callT 1 hk [.int (a9 - a9 / 48 * 48)] (c_L_told hk.loc hk.inj F (a9 - a9 / 48 * 48) s50 h55) gL_holds_L_told rfl ⟨rfl, rfl⟩ (by decide +kernel) ⟨Nat.le_of_ble_eq_true rfl, Nat.le_of_ble_eq_true rfl⟩ rfl rfl (Nat.le_of_ble_eq_true rfl) ⟨by show cs + 0 ≤ 581980; omega, by show ss + 0 ≤ 4639286; omega⟩ dL_holds_213 ?_
    show Z K cs ss 216 [(0, .ref b), (1, .ref (eA (kZ K) a1)), (2, .ref (eA (kZ K) a2)), (3, .ref (eA (kZ K) a3)), (4, .ref (eA (kZ K) a4)), (5, .int a5), (6, .int a6), (8, .int a8), (9, .int a9), (10, .int a10)] [.long x53, .ref (eA (kZ K) a1)] s54
    obtain ⟨x56, s57, h58, h⟩ := br_ok h
    refine ZX_callV 1 hk [.long x53] (c_X7_addGenerator hk.loc hk.inj hfl F a1 x53 ha1 s54 h58) gL_holds_X7_addGenerator rfl ⟨rfl, by decide +kernel, by decide +kernel, by decide +kernel⟩ ⟨Nat.le_of_ble_eq_true rfl, Nat.le_of_ble_eq_true rfl⟩ ha1.cell.1 (ha1.cell.2 _) rfl rfl rfl (Nat.le_of_ble_eq_true rfl) ⟨by show cs + 2 ≤ 581980; omega, by show ss + 12 ≤ 4639286; omega⟩ dL_holds_216 (fun X hX => by cases hX) (fun v hv => ?_)
    cases hv
    show Z K (cs + 2) (ss + 12) 219 [(0, .ref b), (1, .ref (eA (kZ K) a1)), (2, .ref (eA (kZ K) a2)), (3, .ref (eA (kZ K) a3)), (4, .ref (eA (kZ K) a4)), (5, .int a5), (6, .int a6), (8, .int a8), (9, .int a9), (10, .int a10)] [.int x56] s57
    refine Z_aload_n hk 3 dL_holds_219 rfl rfl ?_
    refine Z_aload hk 4 dL_holds_220 rfl ?_
    obtain ⟨x59, s60, h61, h⟩ := bd_ok h
    refine Z_callT 2 hk [.ref (eA (kZ K) a3), .ref (eA (kZ K) a4)] (c_L_close hk.loc hk.inj F a3 a4 ha3 ha4 s57 h61) gL_holds_L_close rfl ⟨rfl, rfl⟩ (by decide +kernel) ⟨Nat.le_of_ble_eq_true rfl, Nat.le_of_ble_eq_true rfl⟩ rfl rfl (Nat.le_of_ble_eq_true rfl) ⟨by show (cs + 2) + 0 ≤ 581980; omega, by show (ss + 12) + 0 ≤ 4639286; omega⟩ dL_holds_222 ?_
    show Z K (cs + 2) (ss + 12) 225 [(0, .ref b), (1, .ref (eA (kZ K) a1)), (2, .ref (eA (kZ K) a2)), (3, .ref (eA (kZ K) a3)), (4, .ref (eA (kZ K) a4)), (5, .int a5), (6, .int a6), (8, .int a8), (9, .int a9), (10, .int a10)] [.int x59, .int x56] s60
    refine Z_icmp_ne hk (tgt := 232) dL_holds_225 (by decide) (fun c62 => ?_) (fun c62 => ?_)
    · have h := if_yes h c62
      refine Z_iconst hk dL_holds_228 zc_iconst_1 ?_
      refine Z_goto hk (tgt := 233) dL_holds_229 (by decide) ?_
      refine Z_sub [0, 1, 2, 3, 4, 6, 7, 8, 9] rfl ?_
      exact w_L_holds_233 hk hfl hnx hq hw hsc hao (cs + 2) (ss + 12) C S (by omega) (by omega) (by omega) (by omega) F k51 hk51 a1 a2 a3 a4 a6 a8 a9 a10 1 ha1 ha2 ha3 ha4 s60 h
    · have h := if_no h c62
      refine Z_iconst hk dL_holds_232 zc_iconst_0 ?_
      refine Z_sub [0, 1, 2, 3, 4, 6, 7, 8, 9] rfl ?_
      exact w_L_holds_233 hk hfl hnx hq hw hsc hao (cs + 2) (ss + 12) C S (by omega) (by omega) (by omega) (by omega) F k51 hk51 a1 a2 a3 a4 a6 a8 a9 a10 0 ha1 ha2 ha3 ha4 s60 h
set_option maxRecDepth 100000 in
set_option maxHeartbeats 4000000 in
theorem w_L_holds_336 {K : zK} {w : Nat} {b L : Nat} {xs : Nat → Int32} (hk : zIs K RL cL_holds 11 wsL_holds (some .boolean) r_L_holds) (hfl : (kL K).stackTraces = false) (hnx : zNX K) {r0 : Int32} {τ0 : zST} (hq : zQG K (.inr (some (.int r0))) τ0) (hw : eN (kZ K) = w) (hsc : zSc K b L xs) (hao : va_AO "CanonCote$Graph" (kS K)) (cs ss : Nat) (hb1 : cs + 0 ≤ 581980) (hb2 : ss + 0 ≤ 4639286) (F : Nat) (a5 : Int32) (σ : zST) (h : m_L_holds_336 F w L xs a5 σ = some (r0, τ0)) : Z K cs ss 336 [(0, .ref b), (5, .int a5)] [] σ := by
  unfold m_L_holds_336 at h
  refine Z_iload hk 1 dL_holds_336 rfl ?_
  obtain ⟨hz, h⟩ := gd_some h
  cases h
  exact ZG_zret hk hz hq ⟨by show cs + 0 ≤ 581980; omega, by show ss + 0 ≤ 4639286; omega⟩ dL_holds_338
set_option maxRecDepth 100000 in
set_option maxHeartbeats 4000000 in
theorem w_L_holds_51 {K : zK} {w : Nat} {b L : Nat} {xs : Nat → Int32} (hk : zIs K RL cL_holds 11 wsL_holds (some .boolean) r_L_holds) (hfl : (kL K).stackTraces = false) (hnx : zNX K) {r0 : Int32} {τ0 : zST} (hq : zQG K (.inr (some (.int r0))) τ0) (hw : eN (kZ K) = w) (hsc : zSc K b L xs) (hao : va_AO "CanonCote$Graph" (kS K)) (F : Nat) : ∀ (n : Nat) (cs ss : Nat) (hb1 : cs + 9237 * n + 9237 ≤ 581980) (hb2 : ss + 73630 * n + 73630 ≤ 4639286) (a1 : Nat) (a2 : Nat) (a3 : Nat) (a4 : Nat) (a5 : Int32) (a6 : Int32) (ha1 : atCanonCote (kZ K) a1) (ha2 : aJ (kZ K) a2 4) (ha3 : aJ (kZ K) a3 64) (ha4 : aI (kZ K) a4 8) (σ : zST), m_L_holds_51 F w L xs n a1 a2 a3 a4 a5 a6 σ = some (r0, τ0) → Z K cs ss 51 [(0, .ref b), (1, .ref (eA (kZ K) a1)), (2, .ref (eA (kZ K) a2)), (3, .ref (eA (kZ K) a3)), (4, .ref (eA (kZ K) a4)), (5, .int a5), (6, .int a6)] [] σ := by
  intro n
  induction n with
  | zero => intro cs ss hb1 hb2 a1 a2 a3 a4 a5 a6 ha1 ha2 ha3 ha4 σ h; cases h
  | succ n ih0 =>
    intro cs ss hb1 hb2 a1 a2 a3 a4 a5 a6 ha1 ha2 ha3 ha4 σ h
    have ih := ih0 (cs + 9237) (ss + 73630) (by omega) (by omega)
    rw [m_L_holds_51] at h
    refine Z_iload hk 6 dL_holds_51 rfl ?_
    refine Z_bipush hk dL_holds_53 zc_bipush_60 ?_
    refine Z_icmp_ge hk (tgt := 336) dL_holds_55 (by decide) (fun c7 => ?_) (fun c7 => ?_)
    · have h := if_yes h c7
      refine Z_sub [0, 5] rfl ?_
      exact w_L_holds_336 hk hfl hnx hq hw hsc hao cs ss (by omega) (by omega) F a5 σ h
    · have h := if_no h c7
      refine Z_iload hk 5 dL_holds_58 rfl ?_
      refine Z_if_eq hk (tgt := 336) dL_holds_60 (by decide) (fun c8 => ?_) (fun c8 => ?_)
      · have h := if_yes h c8
        refine Z_sub [0, 5] rfl ?_
        exact w_L_holds_336 hk hfl hnx hq hw hsc hao cs ss (by omega) (by omega) F a5 σ h
      · have h := if_no h c8
        refine Z_aload_n hk 0 dL_holds_63 rfl rfl ?_
        refine Z_iconst hk dL_holds_64 zc_iconst_4 ?_
        refine Z_iload hk 6 dL_holds_65 rfl ?_
        refine Z_imul hk dL_holds_67 ?_
        refine Z_bipush hk dL_holds_68 zc_bipush_22 ?_
        obtain ⟨x9, s10, h11, h⟩ := bd_ok h
        refine ZS_callT 3 hk hsc hao [.ref b, .int (4 * a6), .int 22] (c_L_from hk.loc hk.inj hfl F w hw (4 * a6) 22 σ h11) gL_holds_L_from rfl ⟨by decide +kernel, by decide +kernel, by decide +kernel⟩ ⟨Nat.le_of_ble_eq_true rfl, Nat.le_of_ble_eq_true rfl⟩ rfl rfl (Nat.le_of_ble_eq_true rfl) ⟨by show cs + 0 ≤ 581980; omega, by show ss + 0 ≤ 4639286; omega⟩ dL_holds_70 (fun X hX => by cases hX) (fun v hv => ?_)
        cases hv
        show Z K cs ss 73 [(0, .ref b), (1, .ref (eA (kZ K) a1)), (2, .ref (eA (kZ K) a2)), (3, .ref (eA (kZ K) a3)), (4, .ref (eA (kZ K) a4)), (5, .int a5), (6, .int a6)] [.int x9] s10
        refine Z_istore hk (lv' := [(7, .int x9), (0, .ref b), (1, .ref (eA (kZ K) a1)), (2, .ref (eA (kZ K) a2)), (3, .ref (eA (kZ K) a3)), (4, .ref (eA (kZ K) a4)), (5, .int a5), (6, .int a6)]) dL_holds_73 (by decide) rfl ?_
        refine Z_aload_n hk 1 dL_holds_75 rfl rfl ?_
        refine Z_iconst hk dL_holds_76 zc_iconst_4 ?_
        refine Z_iload hk 7 dL_holds_77 rfl ?_
        refine Z_imul hk dL_holds_79 ?_
        refine Z_iconst hk dL_holds_80 zc_iconst_1 ?_
        refine Z_iadd hk dL_holds_81 ?_
        refine Z_iconst hk dL_holds_82 zc_iconst_4 ?_
        obtain ⟨x12, s13, h14, h⟩ := bd_ok h
        refine ZS_callT 3 hk hsc hao [.ref b, .int ((4 * a6) + 1), .int 4] (c_L_from hk.loc hk.inj hfl F w hw ((4 * a6) + 1) 4 s10 h14) gL_holds_L_from rfl ⟨by decide +kernel, by decide +kernel, by decide +kernel⟩ ⟨Nat.le_of_ble_eq_true rfl, Nat.le_of_ble_eq_true rfl⟩ rfl rfl (Nat.le_of_ble_eq_true rfl) ⟨by show cs + 0 ≤ 581980; omega, by show ss + 0 ≤ 4639286; omega⟩ dL_holds_83 (fun X hX => by cases hX) (fun v hv => ?_)
        cases hv
        show Z K cs ss 86 [(7, .int x9), (0, .ref b), (1, .ref (eA (kZ K) a1)), (2, .ref (eA (kZ K) a2)), (3, .ref (eA (kZ K) a3)), (4, .ref (eA (kZ K) a4)), (5, .int a5), (6, .int a6)] [.int x12] s13
        refine Z_istore hk (lv' := [(8, .int x12), (7, .int x9), (0, .ref b), (1, .ref (eA (kZ K) a1)), (2, .ref (eA (kZ K) a2)), (3, .ref (eA (kZ K) a3)), (4, .ref (eA (kZ K) a4)), (5, .int a5), (6, .int a6)]) dL_holds_86 (by decide) rfl ?_
        refine Z_aload_n hk 2 dL_holds_88 rfl rfl ?_
        refine Z_iconst hk dL_holds_89 zc_iconst_4 ?_
        refine Z_iload hk 8 dL_holds_90 rfl ?_
        refine Z_imul hk dL_holds_92 ?_
        refine Z_iconst hk dL_holds_93 zc_iconst_2 ?_
        refine Z_iadd hk dL_holds_94 ?_
        refine Z_ldc hk (v := 100000) dL_holds_95 wd_L_holds_1 ?_
        obtain ⟨x15, s16, h17, h⟩ := bd_ok h
        refine ZS_callT 3 hk hsc hao [.ref b, .int ((4 * a6) + 2), .int 100000] (c_L_from hk.loc hk.inj hfl F w hw ((4 * a6) + 2) 100000 s13 h17) gL_holds_L_from rfl ⟨by decide +kernel, by decide +kernel, by decide +kernel⟩ ⟨Nat.le_of_ble_eq_true rfl, Nat.le_of_ble_eq_true rfl⟩ rfl rfl (Nat.le_of_ble_eq_true rfl) ⟨by show cs + 0 ≤ 581980; omega, by show ss + 0 ≤ 4639286; omega⟩ dL_holds_97 (fun X hX => by cases hX) (fun v hv => ?_)
        cases hv
        show Z K cs ss 100 [(8, .int x12), (7, .int x9), (0, .ref b), (1, .ref (eA (kZ K) a1)), (2, .ref (eA (kZ K) a2)), (3, .ref (eA (kZ K) a3)), (4, .ref (eA (kZ K) a4)), (5, .int a5), (6, .int a6)] [.int x15] s16
        refine Z_istore hk (lv' := [(9, .int x15), (8, .int x12), (7, .int x9), (0, .ref b), (1, .ref (eA (kZ K) a1)), (2, .ref (eA (kZ K) a2)), (3, .ref (eA (kZ K) a3)), (4, .ref (eA (kZ K) a4)), (5, .int a5), (6, .int a6)]) dL_holds_100 (by decide) rfl ?_
        refine Z_aload_n hk 3 dL_holds_102 rfl rfl ?_
        refine Z_iconst hk dL_holds_103 zc_iconst_4 ?_
        refine Z_iload hk 9 dL_holds_104 rfl ?_
        refine Z_imul hk dL_holds_106 ?_
        refine Z_iconst hk dL_holds_107 zc_iconst_3 ?_
        refine Z_iadd hk dL_holds_108 ?_
        refine Z_iconst hk dL_holds_109 zc_iconst_4 ?_
        obtain ⟨x18, s19, h20, h⟩ := bd_ok h
        refine ZS_callT 3 hk hsc hao [.ref b, .int ((4 * a6) + 3), .int 4] (c_L_from hk.loc hk.inj hfl F w hw ((4 * a6) + 3) 4 s16 h20) gL_holds_L_from rfl ⟨by decide +kernel, by decide +kernel, by decide +kernel⟩ ⟨Nat.le_of_ble_eq_true rfl, Nat.le_of_ble_eq_true rfl⟩ rfl rfl (Nat.le_of_ble_eq_true rfl) ⟨by show cs + 0 ≤ 581980; omega, by show ss + 0 ≤ 4639286; omega⟩ dL_holds_110 (fun X hX => by cases hX) (fun v hv => ?_)
        cases hv
        show Z K cs ss 113 [(9, .int x15), (8, .int x12), (7, .int x9), (0, .ref b), (1, .ref (eA (kZ K) a1)), (2, .ref (eA (kZ K) a2)), (3, .ref (eA (kZ K) a3)), (4, .ref (eA (kZ K) a4)), (5, .int a5), (6, .int a6)] [.int x18] s19
        refine Z_istore hk (lv' := [(10, .int x18), (9, .int x15), (8, .int x12), (7, .int x9), (0, .ref b), (1, .ref (eA (kZ K) a1)), (2, .ref (eA (kZ K) a2)), (3, .ref (eA (kZ K) a3)), (4, .ref (eA (kZ K) a4)), (5, .int a5), (6, .int a6)]) dL_holds_113 (by decide) rfl ?_
        refine Z_iload hk 3 dL_holds_115 rfl ?_
        refine Z_bipush hk dL_holds_117 zc_bipush_18 ?_
        refine Z_icmp_ge hk (tgt := 138) dL_holds_119 (by decide) (fun c21 => ?_) (fun c21 => ?_)
        · have h := if_yes h c21
          refine Z_iload hk 3 dL_holds_138 rfl ?_
          refine Z_bipush hk dL_holds_140 zc_bipush_21 ?_
          refine Z_icmp_ne hk (tgt := 178) dL_holds_142 (by decide) (fun c22 => ?_) (fun c22 => ?_)
          · have h := if_yes h c22
            refine Z_iload hk 1 dL_holds_145 rfl ?_
            refine Z_iconst hk dL_holds_147 zc_iconst_3 ?_
            refine Z_irem hk dL_holds_148 (by decide) ?_
            refine Z_if_ne hk (tgt := 178) dL_holds_149 (by decide) (fun c23 => ?_) (fun c23 => ?_)
            · have h := if_yes h c23
              refine Z_aload_n hk 5 dL_holds_152 rfl rfl ?_
              obtain ⟨x24, s25, h26, h⟩ := bd_ok h
              refine Z_callV 0 hk [] (c_X7_forgetGenerators hk.loc hk.inj F a1 ha1 s19 h26) gL_holds_X7_forgetGenerators rfl ⟨rfl, rfl⟩ (by decide +kernel) ⟨Nat.le_of_ble_eq_true rfl, Nat.le_of_ble_eq_true rfl⟩ ha1.cell.1 (ha1.cell.2 _) rfl rfl rfl (Nat.le_of_ble_eq_true rfl) ⟨by show cs + 0 ≤ 581980; omega, by show ss + 0 ≤ 4639286; omega⟩ dL_holds_153 ?_
              show Z K cs ss 156 [(10, .int x18), (9, .int x15), (8, .int x12), (7, .int x9), (0, .ref b), (1, .ref (eA (kZ K) a1)), (2, .ref (eA (kZ K) a2)), (3, .ref (eA (kZ K) a3)), (4, .ref (eA (kZ K) a4)), (5, .int a5), (6, .int a6)] [.int x24] s25
              refine Z_aload hk 8 dL_holds_156 rfl ?_
              refine Z_iconst hk dL_holds_158 zc_iconst_0 ?_
              obtain ⟨i29, x27, e28, h⟩ := ldI_get h
              refine Z_iald hk ha4 i29 dL_holds_159 ?_
              refine Z_eqI e28 ?_
              refine Z_icmp_ne hk (tgt := 167) dL_holds_160 (by decide) (fun c30 => ?_) (fun c30 => ?_)
              · have h := if_yes h c30
                refine Z_iconst hk dL_holds_163 zc_iconst_1 ?_
                refine Z_goto hk (tgt := 168) dL_holds_164 (by decide) ?_
                refine Z_sub [4, 5, 6, 7, 8, 10, 2, 1, 0] rfl ?_
                exact w_L_holds_168 hk hfl hnx hq hw hsc hao cs ss (cs + 9237) (ss + 73630) (by omega) (by omega) (by omega) (by omega) F (m_L_holds_51 F w L xs n) ih a1 a2 a3 a4 a6 x12 x15 x18 1 ha1 ha2 ha3 ha4 s25 h
              · have h := if_no h c30
                refine Z_iconst hk dL_holds_167 zc_iconst_0 ?_
                refine Z_sub [4, 5, 6, 7, 8, 10, 2, 1, 0] rfl ?_
                exact w_L_holds_168 hk hfl hnx hq hw hsc hao cs ss (cs + 9237) (ss + 73630) (by omega) (by omega) (by omega) (by omega) F (m_L_holds_51 F w L xs n) ih a1 a2 a3 a4 a6 x12 x15 x18 0 ha1 ha2 ha3 ha4 s25 h
            · have h := if_no h c23
              refine Z_sub [4, 5, 6, 7, 8, 9, 10, 2, 1, 0] rfl ?_
              exact w_L_holds_178 hk hfl hnx hq hw hsc hao cs ss (cs + 9237) (ss + 73630) (by omega) (by omega) (by omega) (by omega) F (m_L_holds_51 F w L xs n) ih a1 a2 a3 a4 a5 a6 x12 x15 x18 ha1 ha2 ha3 ha4 s19 h
          · have h := if_no h c22
            refine Z_sub [4, 5, 6, 7, 8, 9, 10, 2, 1, 0] rfl ?_
            exact w_L_holds_178 hk hfl hnx hq hw hsc hao cs ss (cs + 9237) (ss + 73630) (by omega) (by omega) (by omega) (by omega) F (m_L_holds_51 F w L xs n) ih a1 a2 a3 a4 a5 a6 x12 x15 x18 ha1 ha2 ha3 ha4 s19 h
        · have h := if_no h c21
          refine Z_aload_n hk 5 dL_holds_122 rfl rfl ?_
          refine Z_aload_n hk 6 dL_holds_123 rfl rfl ?_
          refine Z_iload hk 3 dL_holds_124 rfl ?_
          refine Z_iload hk 2 dL_holds_126 rfl ?_
          refine Z_iload hk 1 dL_holds_128 rfl ?_
          obtain ⟨x31, s32, h33, h⟩ := bd_ok h
          refine ZX_callT 5 hk [.ref (eA (kZ K) a1), .ref (eA (kZ K) a2), .int x9, .int x12, .int x15] (c_L_acts hk.loc hk.inj hfl F w hw a1 a2 x9 x12 x15 ha1 ha2 s19 h33) gL_holds_L_acts rfl ⟨by decide +kernel, by decide +kernel, by decide +kernel⟩ ⟨Nat.le_of_ble_eq_true rfl, Nat.le_of_ble_eq_true rfl⟩ rfl rfl (Nat.le_of_ble_eq_true rfl) ⟨by show cs + 4 ≤ 581980; omega, by show ss + 24 ≤ 4639286; omega⟩ dL_holds_130 (fun X hX => by cases hX) (fun v hv => ?_)
          cases hv
          show Z K (cs + 4) (ss + 24) 133 [(10, .int x18), (9, .int x15), (8, .int x12), (7, .int x9), (0, .ref b), (1, .ref (eA (kZ K) a1)), (2, .ref (eA (kZ K) a2)), (3, .ref (eA (kZ K) a3)), (4, .ref (eA (kZ K) a4)), (5, .int a5), (6, .int a6)] [.int x31] s32
          refine Z_istore hk (lv' := [(5, .int x31), (10, .int x18), (9, .int x15), (8, .int x12), (7, .int x9), (0, .ref b), (1, .ref (eA (kZ K) a1)), (2, .ref (eA (kZ K) a2)), (3, .ref (eA (kZ K) a3)), (4, .ref (eA (kZ K) a4)), (6, .int a6)]) dL_holds_133 (by decide) rfl ?_
          refine Z_goto hk (tgt := 235) dL_holds_135 (by decide) ?_
          refine Z_sub [5, 6, 7, 8, 9, 0, 10, 3, 2, 1] rfl ?_
          exact w_L_holds_235 hk hfl hnx hq hw hsc hao (cs + 4) (ss + 24) (cs + 9237) (ss + 73630) (by omega) (by omega) (by omega) (by omega) F (m_L_holds_51 F w L xs n) ih a1 a2 a3 a4 x31 a6 x12 x15 x18 ha1 ha2 ha3 ha4 s32 h
set_option maxRecDepth 100000 in
set_option maxHeartbeats 4000000 in
theorem w_L_holds_26 {K : zK} {w : Nat} {b L : Nat} {xs : Nat → Int32} (hk : zIs K RL cL_holds 11 wsL_holds (some .boolean) r_L_holds) (hfl : (kL K).stackTraces = false) (hnx : zNX K) {r0 : Int32} {τ0 : zST} (hq : zQG K (.inr (some (.int r0))) τ0) (hw : eN (kZ K) = w) (hsc : zSc K b L xs) (hao : va_AO "CanonCote$Graph" (kS K)) (cs ss : Nat) (hb1 : cs + 581931 ≤ 581980) (hb2 : ss + 4638690 ≤ 4639286) (F : Nat) : ∀ (n : Nat) (a1 : Nat) (a2 : Nat) (a3 : Nat) (a4 : Nat) (a5 : Int32) (ha1 : atCanonCote (kZ K) a1) (ha2 : aJ (kZ K) a2 4) (ha3 : aJ (kZ K) a3 64) (ha4 : aI (kZ K) a4 8) (σ : zST), m_L_holds_26 F w L xs n a1 a2 a3 a4 a5 σ = some (r0, τ0) → Z K cs ss 26 [(0, .ref b), (1, .ref (eA (kZ K) a1)), (2, .ref (eA (kZ K) a2)), (3, .ref (eA (kZ K) a3)), (4, .ref (eA (kZ K) a4)), (5, .int a5)] [] σ := by
  intro n
  induction n with
  | zero => intro a1 a2 a3 a4 a5 ha1 ha2 ha3 ha4 σ h; cases h
  | succ n ih =>
    intro a1 a2 a3 a4 a5 ha1 ha2 ha3 ha4 σ h
    rw [m_L_holds_26] at h
    refine Z_iload hk 5 dL_holds_26 rfl ?_
    refine Z_iconst hk dL_holds_28 zc_iconst_4 ?_
    refine Z_icmp_ge hk (tgt := 45) dL_holds_29 (by decide) (fun c1 => ?_) (fun c1 => ?_)
    · have h := if_yes h c1
      refine Z_iconst hk dL_holds_45 zc_iconst_1 ?_
      refine Z_istore hk (lv' := [(5, .int 1), (0, .ref b), (1, .ref (eA (kZ K) a1)), (2, .ref (eA (kZ K) a2)), (3, .ref (eA (kZ K) a3)), (4, .ref (eA (kZ K) a4))]) dL_holds_46 (by decide) rfl ?_
      refine Z_iconst hk dL_holds_48 zc_iconst_0 ?_
      refine Z_istore hk (lv' := [(6, .int 0), (5, .int 1), (0, .ref b), (1, .ref (eA (kZ K) a1)), (2, .ref (eA (kZ K) a2)), (3, .ref (eA (kZ K) a3)), (4, .ref (eA (kZ K) a4))]) dL_holds_49 (by decide) rfl ?_
      refine Z_sub [2, 3, 4, 5, 6, 1, 0] rfl ?_
      exact w_L_holds_51 hk hfl hnx hq hw hsc hao F 62 cs ss (by omega) (by omega) a1 a2 a3 a4 1 0 ha1 ha2 ha3 ha4 σ h
    · have h := if_no h c1
      refine Z_aload_n hk 2 dL_holds_32 rfl rfl ?_
      refine Z_iload hk 5 dL_holds_33 rfl ?_
      refine Z_ldc2 hk (v := 18014398509481984) dL_holds_35 wd_L_holds_0 ?_
      obtain ⟨i4, s2, e3, h⟩ := stL_get h
      refine Z_last hk ha2 i4 dL_holds_38 ?_
      refine Z_eqS e3 ?_
      obtain ⟨x5, e6, h⟩ := nm_get h
      refine Z_iinc hk 5 (v := x5) (lv' := [(5, .int x5), (0, .ref b), (1, .ref (eA (kZ K) a1)), (2, .ref (eA (kZ K) a2)), (3, .ref (eA (kZ K) a3)), (4, .ref (eA (kZ K) a4))]) dL_holds_39 rfl (by rw [zc_iinc_1]; exact e6) (by decide) rfl ?_
      refine Z_goto hk (tgt := 26) dL_holds_42 (by decide) ?_
      refine Z_sub [1, 2, 3, 4, 5, 0] rfl ?_
      exact ih a1 a2 a3 a4 x5 ha1 ha2 ha3 ha4 s2 h
end
