-- CanonCoteLaw.isGraph (LCanonCote;IJ)Z
section
theorem dL_isGraph_0 : decode cL_isGraph 0 = .ok (.lload_n 2, 1) := by decide +kernel
theorem dL_isGraph_1 : decode cL_isGraph 1 = .ok (.invokestatic 23, 3) := by decide +kernel
theorem dL_isGraph_4 : decode cL_isGraph 4 = .ok (.istore 4, 2) := by decide +kernel
theorem dL_isGraph_6 : decode cL_isGraph 6 = .ok (.iconst 0, 1) := by decide +kernel
theorem dL_isGraph_7 : decode cL_isGraph 7 = .ok (.istore 5, 2) := by decide +kernel
theorem dL_isGraph_9 : decode cL_isGraph 9 = .ok (.lload_n 2, 1) := by decide +kernel
theorem dL_isGraph_10 : decode cL_isGraph 10 = .ok (.invokestatic 61, 3) := by decide +kernel
theorem dL_isGraph_13 : decode cL_isGraph 13 = .ok (.istore 6, 2) := by decide +kernel
theorem dL_isGraph_15 : decode cL_isGraph 15 = .ok (.aload_n 0, 1) := by decide +kernel
theorem dL_isGraph_16 : decode cL_isGraph 16 = .ok (.iload_n 1, 1) := by decide +kernel
theorem dL_isGraph_17 : decode cL_isGraph 17 = .ok (.invokevirtual 64, 3) := by decide +kernel
theorem dL_isGraph_20 : decode cL_isGraph 20 = .ok (.iload 4, 2) := by decide +kernel
theorem dL_isGraph_22 : decode cL_isGraph 22 = .ok (.if_icmp .ne 22, 3) := by decide +kernel
theorem dL_isGraph_25 : decode cL_isGraph 25 = .ok (.aload_n 0, 1) := by decide +kernel
theorem dL_isGraph_26 : decode cL_isGraph 26 = .ok (.iload_n 1, 1) := by decide +kernel
theorem dL_isGraph_27 : decode cL_isGraph 27 = .ok (.invokevirtual 66, 3) := by decide +kernel
theorem dL_isGraph_30 : decode cL_isGraph 30 = .ok (.lload_n 2, 1) := by decide +kernel
theorem dL_isGraph_31 : decode cL_isGraph 31 = .ok (.iload 6, 2) := by decide +kernel
theorem dL_isGraph_33 : decode cL_isGraph 33 = .ok (.invokestatic 43, 3) := by decide +kernel
theorem dL_isGraph_36 : decode cL_isGraph 36 = .ok (.lcmp, 1) := by decide +kernel
theorem dL_isGraph_37 : decode cL_isGraph 37 = .ok (.ifCond .ne 7, 3) := by decide +kernel
theorem dL_isGraph_40 : decode cL_isGraph 40 = .ok (.iconst 1, 1) := by decide +kernel
theorem dL_isGraph_41 : decode cL_isGraph 41 = .ok (.goto 4, 3) := by decide +kernel
theorem dL_isGraph_44 : decode cL_isGraph 44 = .ok (.iconst 0, 1) := by decide +kernel
theorem dL_isGraph_45 : decode cL_isGraph 45 = .ok (.istore 7, 2) := by decide +kernel
theorem dL_isGraph_47 : decode cL_isGraph 47 = .ok (.iconst 0, 1) := by decide +kernel
theorem dL_isGraph_48 : decode cL_isGraph 48 = .ok (.istore 8, 2) := by decide +kernel
theorem dL_isGraph_50 : decode cL_isGraph 50 = .ok (.iload 8, 2) := by decide +kernel
theorem dL_isGraph_52 : decode cL_isGraph 52 = .ok (.iload 4, 2) := by decide +kernel
theorem dL_isGraph_54 : decode cL_isGraph 54 = .ok (.if_icmp .ge 139, 3) := by decide +kernel
theorem dL_isGraph_57 : decode cL_isGraph 57 = .ok (.iload 7, 2) := by decide +kernel
theorem dL_isGraph_59 : decode cL_isGraph 59 = .ok (.ifCond .eq 134, 3) := by decide +kernel
theorem dL_isGraph_62 : decode cL_isGraph 62 = .ok (.iconst 0, 1) := by decide +kernel
theorem dL_isGraph_63 : decode cL_isGraph 63 = .ok (.istore 9, 2) := by decide +kernel
theorem dL_isGraph_65 : decode cL_isGraph 65 = .ok (.iconst 0, 1) := by decide +kernel
theorem dL_isGraph_66 : decode cL_isGraph 66 = .ok (.istore 10, 2) := by decide +kernel
theorem dL_isGraph_68 : decode cL_isGraph 68 = .ok (.iload 10, 2) := by decide +kernel
theorem dL_isGraph_70 : decode cL_isGraph 70 = .ok (.iload 4, 2) := by decide +kernel
theorem dL_isGraph_72 : decode cL_isGraph 72 = .ok (.if_icmp .ge 61, 3) := by decide +kernel
theorem dL_isGraph_75 : decode cL_isGraph 75 = .ok (.iload 9, 2) := by decide +kernel
theorem dL_isGraph_77 : decode cL_isGraph 77 = .ok (.lload_n 2, 1) := by decide +kernel
theorem dL_isGraph_78 : decode cL_isGraph 78 = .ok (.iload 8, 2) := by decide +kernel
theorem dL_isGraph_80 : decode cL_isGraph 80 = .ok (.iload 10, 2) := by decide +kernel
theorem dL_isGraph_82 : decode cL_isGraph 82 = .ok (.invokestatic 39, 3) := by decide +kernel
theorem dL_isGraph_85 : decode cL_isGraph 85 = .ok (.ifCond .eq 10, 3) := by decide +kernel
theorem dL_isGraph_88 : decode cL_isGraph 88 = .ok (.iconst 1, 1) := by decide +kernel
theorem dL_isGraph_89 : decode cL_isGraph 89 = .ok (.iload 10, 2) := by decide +kernel
theorem dL_isGraph_91 : decode cL_isGraph 91 = .ok (.ishl, 1) := by decide +kernel
theorem dL_isGraph_92 : decode cL_isGraph 92 = .ok (.goto 4, 3) := by decide +kernel
theorem dL_isGraph_95 : decode cL_isGraph 95 = .ok (.iconst 0, 1) := by decide +kernel
theorem dL_isGraph_96 : decode cL_isGraph 96 = .ok (.ior, 1) := by decide +kernel
theorem dL_isGraph_97 : decode cL_isGraph 97 = .ok (.istore 9, 2) := by decide +kernel
theorem dL_isGraph_99 : decode cL_isGraph 99 = .ok (.iload 5, 2) := by decide +kernel
theorem dL_isGraph_101 : decode cL_isGraph 101 = .ok (.iload 10, 2) := by decide +kernel
theorem dL_isGraph_103 : decode cL_isGraph 103 = .ok (.iload 8, 2) := by decide +kernel
theorem dL_isGraph_105 : decode cL_isGraph 105 = .ok (.if_icmp .ge 18, 3) := by decide +kernel
theorem dL_isGraph_108 : decode cL_isGraph 108 = .ok (.lload_n 2, 1) := by decide +kernel
theorem dL_isGraph_109 : decode cL_isGraph 109 = .ok (.iload 8, 2) := by decide +kernel
theorem dL_isGraph_111 : decode cL_isGraph 111 = .ok (.iload 10, 2) := by decide +kernel
theorem dL_isGraph_113 : decode cL_isGraph 113 = .ok (.invokestatic 39, 3) := by decide +kernel
theorem dL_isGraph_116 : decode cL_isGraph 116 = .ok (.ifCond .eq 7, 3) := by decide +kernel
theorem dL_isGraph_119 : decode cL_isGraph 119 = .ok (.iconst 1, 1) := by decide +kernel
theorem dL_isGraph_120 : decode cL_isGraph 120 = .ok (.goto 4, 3) := by decide +kernel
theorem dL_isGraph_123 : decode cL_isGraph 123 = .ok (.iconst 0, 1) := by decide +kernel
theorem dL_isGraph_124 : decode cL_isGraph 124 = .ok (.iadd, 1) := by decide +kernel
theorem dL_isGraph_125 : decode cL_isGraph 125 = .ok (.istore 5, 2) := by decide +kernel
theorem dL_isGraph_127 : decode cL_isGraph 127 = .ok (.iinc 10 1, 3) := by decide +kernel
theorem dL_isGraph_130 : decode cL_isGraph 130 = .ok (.goto (-62), 3) := by decide +kernel
theorem dL_isGraph_133 : decode cL_isGraph 133 = .ok (.aload_n 0, 1) := by decide +kernel
theorem dL_isGraph_134 : decode cL_isGraph 134 = .ok (.iload_n 1, 1) := by decide +kernel
theorem dL_isGraph_135 : decode cL_isGraph 135 = .ok (.iload 8, 2) := by decide +kernel
theorem dL_isGraph_137 : decode cL_isGraph 137 = .ok (.invokevirtual 70, 3) := by decide +kernel
theorem dL_isGraph_140 : decode cL_isGraph 140 = .ok (.iload 9, 2) := by decide +kernel
theorem dL_isGraph_142 : decode cL_isGraph 142 = .ok (.if_icmp .ne 42, 3) := by decide +kernel
theorem dL_isGraph_145 : decode cL_isGraph 145 = .ok (.aload_n 0, 1) := by decide +kernel
theorem dL_isGraph_146 : decode cL_isGraph 146 = .ok (.iload_n 1, 1) := by decide +kernel
theorem dL_isGraph_147 : decode cL_isGraph 147 = .ok (.iload 8, 2) := by decide +kernel
theorem dL_isGraph_149 : decode cL_isGraph 149 = .ok (.invokevirtual 73, 3) := by decide +kernel
theorem dL_isGraph_152 : decode cL_isGraph 152 = .ok (.lload_n 2, 1) := by decide +kernel
theorem dL_isGraph_153 : decode cL_isGraph 153 = .ok (.iload 8, 2) := by decide +kernel
theorem dL_isGraph_155 : decode cL_isGraph 155 = .ok (.invokestatic 31, 3) := by decide +kernel
theorem dL_isGraph_158 : decode cL_isGraph 158 = .ok (.if_icmp .ne 26, 3) := by decide +kernel
theorem dL_isGraph_161 : decode cL_isGraph 161 = .ok (.aload_n 0, 1) := by decide +kernel
theorem dL_isGraph_162 : decode cL_isGraph 162 = .ok (.iload_n 1, 1) := by decide +kernel
theorem dL_isGraph_163 : decode cL_isGraph 163 = .ok (.iload 8, 2) := by decide +kernel
theorem dL_isGraph_165 : decode cL_isGraph 165 = .ok (.invokevirtual 75, 3) := by decide +kernel
theorem dL_isGraph_168 : decode cL_isGraph 168 = .ok (.iload 4, 2) := by decide +kernel
theorem dL_isGraph_170 : decode cL_isGraph 170 = .ok (.iload 6, 2) := by decide +kernel
theorem dL_isGraph_172 : decode cL_isGraph 172 = .ok (.iload 8, 2) := by decide +kernel
theorem dL_isGraph_174 : decode cL_isGraph 174 = .ok (.invokestatic 27, 3) := by decide +kernel
theorem dL_isGraph_177 : decode cL_isGraph 177 = .ok (.if_icmp .ne 7, 3) := by decide +kernel
theorem dL_isGraph_180 : decode cL_isGraph 180 = .ok (.iconst 1, 1) := by decide +kernel
theorem dL_isGraph_181 : decode cL_isGraph 181 = .ok (.goto 4, 3) := by decide +kernel
theorem dL_isGraph_184 : decode cL_isGraph 184 = .ok (.iconst 0, 1) := by decide +kernel
theorem dL_isGraph_185 : decode cL_isGraph 185 = .ok (.istore 7, 2) := by decide +kernel
theorem dL_isGraph_187 : decode cL_isGraph 187 = .ok (.iinc 8 1, 3) := by decide +kernel
theorem dL_isGraph_190 : decode cL_isGraph 190 = .ok (.goto (-140), 3) := by decide +kernel
theorem dL_isGraph_193 : decode cL_isGraph 193 = .ok (.iload 7, 2) := by decide +kernel
theorem dL_isGraph_195 : decode cL_isGraph 195 = .ok (.ifCond .eq 26, 3) := by decide +kernel
theorem dL_isGraph_198 : decode cL_isGraph 198 = .ok (.aload_n 0, 1) := by decide +kernel
theorem dL_isGraph_199 : decode cL_isGraph 199 = .ok (.iload_n 1, 1) := by decide +kernel
theorem dL_isGraph_200 : decode cL_isGraph 200 = .ok (.invokevirtual 78, 3) := by decide +kernel
theorem dL_isGraph_203 : decode cL_isGraph 203 = .ok (.iload 5, 2) := by decide +kernel
theorem dL_isGraph_205 : decode cL_isGraph 205 = .ok (.if_icmp .ne 16, 3) := by decide +kernel
theorem dL_isGraph_208 : decode cL_isGraph 208 = .ok (.aload_n 0, 1) := by decide +kernel
theorem dL_isGraph_209 : decode cL_isGraph 209 = .ok (.iload_n 1, 1) := by decide +kernel
theorem dL_isGraph_210 : decode cL_isGraph 210 = .ok (.lload_n 2, 1) := by decide +kernel
theorem dL_isGraph_211 : decode cL_isGraph 211 = .ok (.invokestatic 81, 3) := by decide +kernel
theorem dL_isGraph_214 : decode cL_isGraph 214 = .ok (.ifCond .eq 7, 3) := by decide +kernel
theorem dL_isGraph_217 : decode cL_isGraph 217 = .ok (.iconst 1, 1) := by decide +kernel
theorem dL_isGraph_218 : decode cL_isGraph 218 = .ok (.goto 4, 3) := by decide +kernel
theorem dL_isGraph_221 : decode cL_isGraph 221 = .ok (.iconst 0, 1) := by decide +kernel
theorem dL_isGraph_222 : decode cL_isGraph 222 = .ok (.ireturn, 1) := by decide +kernel
set_option maxRecDepth 20000 in
theorem ggL_isGraph_L_size : GoodIn wsL_isGraph wsL_size := goodIn_r _ [4] (by decide +kernel) (by decide +kernel)
set_option maxRecDepth 20000 in
theorem gL_isGraph_L_size : GoodIn wsL_isGraph (va_wsS RL 23 yL_size wsL_size) := goodIn_app (goodIn_of _ (by decide +kernel)) ggL_isGraph_L_size
set_option maxRecDepth 20000 in
theorem ggL_isGraph_L_least : GoodIn wsL_isGraph wsL_least := goodIn_r _ [7, 1, 2, 3, 4, 8, 9, 10, 11, 12, 13, 14, 15, 16, 17, 18, 19, 20, 21, 22, 23, 24, 25, 26, 27, 28, 29, 30, 31] (by decide +kernel) (by decide +kernel)
set_option maxRecDepth 20000 in
theorem gL_isGraph_L_least : GoodIn wsL_isGraph (va_wsS RL 61 yL_least wsL_least) := goodIn_app (goodIn_of _ (by decide +kernel)) ggL_isGraph_L_least
set_option maxRecDepth 20000 in
theorem ggL_isGraph_X7_size : GoodIn wsL_isGraph wsX7_size := goodIn_ca (goodIn_r _ [36, 37, 38, 39, 35, 40, 41, 42, 43, 186, 187, 188, 189, 190, 191, 192, 193, 194] (by decide +kernel) (by decide +kernel)) (goodIn_sub (fun _ h => List.mem_cons_of_mem _ (List.mem_append_right _ h)) (by decide +kernel))
set_option maxRecDepth 20000 in
theorem gL_isGraph_X7_size : GoodIn wsL_isGraph (wsV RL 64 RX7 yX7_size wsX7_size) := goodIn_app (goodIn_of _ (by decide +kernel)) ggL_isGraph_X7_size
set_option maxRecDepth 20000 in
theorem ggL_isGraph_X7_form : GoodIn wsL_isGraph wsX7_form := goodIn_ca (goodIn_r _ [47, 37, 38, 39, 35, 40, 41, 42, 43, 48, 49, 50, 51, 52, 53, 54, 55, 56, 57, 58, 59, 60, 61, 62, 63, 64, 65, 66, 67, 68, 69, 70, 71, 72, 73, 74, 75, 76, 77, 78, 79, 80, 81, 82, 83, 84, 85, 86, 87, 88, 89, 90, 91, 92, 93, 94, 95, 96, 97, 98, 99, 100, 101, 102, 103, 104, 105, 106, 107, 108, 109, 110, 111, 112, 113, 114, 115, 116, 117, 118, 189, 190, 191, 192, 193, 194, 195, 196, 197, 198, 199, 200, 201, 186, 187, 188] (by decide +kernel) (by decide +kernel)) (goodIn_sub (fun _ h => List.mem_cons_of_mem _ (List.mem_append_right _ h)) (by decide +kernel))
set_option maxRecDepth 20000 in
theorem gL_isGraph_X7_form : GoodIn wsL_isGraph (wsV RL 66 RX7 yX7_form wsX7_form) := goodIn_app (goodIn_of _ (by decide +kernel)) ggL_isGraph_X7_form
set_option maxRecDepth 20000 in
theorem ggL_isGraph_L_put : GoodIn wsL_isGraph wsL_put := goodIn_r _ [13, 14, 1, 2, 3, 4, 15, 16, 17, 8, 9, 10, 18, 19, 20, 21, 22, 23, 24, 25, 26, 27, 28, 29, 30, 31] (by decide +kernel) (by decide +kernel)
set_option maxRecDepth 20000 in
theorem gL_isGraph_L_put : GoodIn wsL_isGraph (va_wsS RL 43 yL_put wsL_put) := goodIn_app (goodIn_of _ (by decide +kernel)) ggL_isGraph_L_put
set_option maxRecDepth 20000 in
theorem ggL_isGraph_L_edge : GoodIn wsL_isGraph wsL_edge := goodIn_r _ [28, 29, 30, 3, 31] (by decide +kernel) (by decide +kernel)
set_option maxRecDepth 20000 in
theorem gL_isGraph_L_edge : GoodIn wsL_isGraph (va_wsS RL 39 yL_edge wsL_edge) := goodIn_app (goodIn_of _ (by decide +kernel)) ggL_isGraph_L_edge
set_option maxRecDepth 20000 in
theorem ggL_isGraph_X7_neighbours : GoodIn wsL_isGraph wsX7_neighbours := goodIn_ca (goodIn_r _ [122, 37, 38, 39, 35, 40, 41, 42, 43, 123, 124, 125, 186, 187, 188, 189, 190, 191, 192, 193, 194] (by decide +kernel) (by decide +kernel)) (goodIn_sub (fun _ h => List.mem_cons_of_mem _ (List.mem_append_right _ h)) (by decide +kernel))
set_option maxRecDepth 20000 in
theorem gL_isGraph_X7_neighbours : GoodIn wsL_isGraph (wsV RL 70 RX7 yX7_neighbours wsX7_neighbours) := goodIn_app (goodIn_of _ (by decide +kernel)) ggL_isGraph_X7_neighbours
set_option maxRecDepth 20000 in
theorem ggL_isGraph_X7_colour : GoodIn wsL_isGraph wsX7_colour := goodIn_ca (goodIn_r _ [129, 37, 38, 39, 35, 40, 41, 42, 43, 123, 124, 125, 186, 187, 188, 189, 190, 191, 192, 193, 194] (by decide +kernel) (by decide +kernel)) (goodIn_sub (fun _ h => List.mem_cons_of_mem _ (List.mem_append_right _ h)) (by decide +kernel))
set_option maxRecDepth 20000 in
theorem gL_isGraph_X7_colour : GoodIn wsL_isGraph (wsV RL 73 RX7 yX7_colour wsX7_colour) := goodIn_app (goodIn_of _ (by decide +kernel)) ggL_isGraph_X7_colour
set_option maxRecDepth 20000 in
theorem ggL_isGraph_L_colour : GoodIn wsL_isGraph wsL_colour := goodIn_r _ [20, 21] (by decide +kernel) (by decide +kernel)
set_option maxRecDepth 20000 in
theorem gL_isGraph_L_colour : GoodIn wsL_isGraph (va_wsS RL 31 yL_colour wsL_colour) := goodIn_app (goodIn_of _ (by decide +kernel)) ggL_isGraph_L_colour
set_option maxRecDepth 20000 in
theorem ggL_isGraph_X7_placeOf : GoodIn wsL_isGraph wsX7_placeOf := goodIn_ca (goodIn_r _ [133, 52, 37, 38, 39, 35, 40, 41, 42, 43, 123, 124, 125, 53, 54, 55, 56, 57, 58, 59, 60, 61, 62, 63, 64, 65, 66, 67, 68, 69, 70, 71, 72, 73, 74, 75, 76, 77, 78, 79, 80, 81, 82, 83, 84, 85, 86, 87, 88, 89, 90, 91, 92, 93, 94, 95, 96, 97, 98, 99, 100, 101, 102, 103, 104, 105, 106, 107, 108, 109, 110, 111, 116, 117, 118, 189, 190, 191, 192, 193, 194, 186, 187, 188, 195, 196, 197, 198, 199, 200, 201] (by decide +kernel) (by decide +kernel)) (goodIn_sub (fun _ h => List.mem_cons_of_mem _ (List.mem_append_right _ h)) (by decide +kernel))
set_option maxRecDepth 20000 in
theorem gL_isGraph_X7_placeOf : GoodIn wsL_isGraph (wsV RL 75 RX7 yX7_placeOf wsX7_placeOf) := goodIn_app (goodIn_of _ (by decide +kernel)) ggL_isGraph_X7_placeOf
set_option maxRecDepth 20000 in
theorem ggL_isGraph_L_image : GoodIn wsL_isGraph wsL_image := goodIn_r _ [17, 8, 9, 3, 10] (by decide +kernel) (by decide +kernel)
set_option maxRecDepth 20000 in
theorem gL_isGraph_L_image : GoodIn wsL_isGraph (va_wsS RL 27 yL_image wsL_image) := goodIn_app (goodIn_of _ (by decide +kernel)) ggL_isGraph_L_image
set_option maxRecDepth 20000 in
theorem ggL_isGraph_X7_edges : GoodIn wsL_isGraph wsX7_edges := goodIn_ca (goodIn_r _ [137, 37, 38, 39, 35, 40, 41, 42, 43, 138, 65, 139, 140, 141, 69, 142, 76, 77, 78, 79, 80, 81, 189, 190, 191, 192, 193, 194, 186, 187, 188] (by decide +kernel) (by decide +kernel)) (goodIn_sub (fun _ h => List.mem_cons_of_mem _ (List.mem_append_right _ h)) (by decide +kernel))
set_option maxRecDepth 20000 in
theorem gL_isGraph_X7_edges : GoodIn wsL_isGraph (wsV RL 78 RX7 yX7_edges wsX7_edges) := goodIn_app (goodIn_of _ (by decide +kernel)) ggL_isGraph_X7_edges
set_option maxRecDepth 20000 in
theorem ggL_isGraph_L_isRefined : GoodIn wsL_isGraph wsL_isRefined := goodIn_ca (goodIn_r _ [145, 146, 14, 147, 1, 2, 3, 4, 18, 19, 20, 21, 26, 27, 28, 29, 30, 31, 148, 149, 150, 35, 151, 152, 37, 38, 39, 40, 41, 42, 43, 153, 154, 155, 156, 157, 158, 159, 160, 161, 162, 163, 164, 165, 166, 167, 168, 169, 170, 76, 77, 78, 79, 80, 81, 171, 100, 101, 102, 172, 173, 174, 175, 176, 177, 178, 179, 180, 181, 182, 183, 184, 185, 123, 124, 125, 189, 190, 191, 192, 193, 194, 202, 203, 204, 205, 206, 186, 187, 188] (by decide +kernel) (by decide +kernel)) (goodIn_sub (fun _ h => List.mem_cons_of_mem _ (List.mem_append_right _ h)) (by decide +kernel))
set_option maxRecDepth 20000 in
theorem gL_isGraph_L_isRefined : GoodIn wsL_isGraph (va_wsS RL 81 yL_isRefined wsL_isRefined) := goodIn_app (goodIn_of _ (by decide +kernel)) ggL_isGraph_L_isRefined
def r_L_isGraph : Room := { frames := 16, cells := 188, slots := 1378, locals := 395 }
set_option maxRecDepth 100000 in
set_option maxHeartbeats 4000000 in
theorem w_L_isGraph_124 {K : zK} {w : Nat} (hk : zIs K RL cL_isGraph 11 wsL_isGraph (some .boolean) r_L_isGraph) (hfl : (kL K).stackTraces = false) (hnx : zNX K) {r0 : Int32} {τ0 : zST} (hq : zQG K (.inr (some (.int r0))) τ0) (hw : eN (kZ K) = w) (cs ss : Nat) (C S : Nat) (hr1 : cs + 0 ≤ C) (hr2 : ss + 0 ≤ S) (hb1 : cs + 0 ≤ 188) (hb2 : ss + 0 ≤ 1378) (F : Nat) (k50 : Nat → Int32 → Int64 → Int32 → Int32 → Int32 → Int32 → Int32 → zST → Option (Int32 × zST)) (hk50 : ∀ (a0 : Nat) (a1 : Int32) (a2 : Int64) (a4 : Int32) (a5 : Int32) (a6 : Int32) (a7 : Int32) (a8 : Int32) (ha0 : atCanonCote (kZ K) a0) (σ : zST), k50 a0 a1 a2 a4 a5 a6 a7 a8 σ = some (r0, τ0) → Z K C S 50 [(0, .ref (eA (kZ K) a0)), (1, .int a1), (2, .long a2), (4, .int a4), (5, .int a5), (6, .int a6), (7, .int a7), (8, .int a8)] [] σ) (k68 : Nat → Int32 → Int64 → Int32 → Int32 → Int32 → Int32 → Int32 → Int32 → zST → Option (Int32 × zST)) (hk68 : ∀ (a0 : Nat) (a1 : Int32) (a2 : Int64) (a4 : Int32) (a5 : Int32) (a6 : Int32) (a8 : Int32) (a9 : Int32) (a10 : Int32) (ha0 : atCanonCote (kZ K) a0) (σ : zST), k68 a0 a1 a2 a4 a5 a6 a8 a9 a10 σ = some (r0, τ0) → Z K cs ss 68 [(0, .ref (eA (kZ K) a0)), (1, .int a1), (2, .long a2), (4, .int a4), (5, .int a5), (6, .int a6), (8, .int a8), (9, .int a9), (10, .int a10)] [] σ) (a0 : Nat) (a1 : Int32) (a2 : Int64) (a4 : Int32) (a6 : Int32) (a8 : Int32) (a9 : Int32) (a10 : Int32) (t0 : Int32) (t1 : Int32) (ha0 : atCanonCote (kZ K) a0) (σ : zST) (h : m_L_isGraph_124 F w k50 k68 a0 a1 a2 a4 a6 a8 a9 a10 t0 t1 σ = some (r0, τ0)) : Z K cs ss 124 [(0, .ref (eA (kZ K) a0)), (1, .int a1), (2, .long a2), (4, .int a4), (6, .int a6), (8, .int a8), (9, .int a9), (10, .int a10)] [.int t0, .int t1] σ := by
  unfold m_L_isGraph_124 at h
  refine Z_iadd hk dL_isGraph_124 ?_
  obtain ⟨x61, e62, h⟩ := nm_get h
  refine Z_eqI e62 ?_
  refine Z_istore hk (lv' := [(5, .int x61), (0, .ref (eA (kZ K) a0)), (1, .int a1), (2, .long a2), (4, .int a4), (6, .int a6), (8, .int a8), (9, .int a9), (10, .int a10)]) dL_isGraph_125 (by decide) rfl ?_
  obtain ⟨x63, e64, h⟩ := nm_get h
  refine Z_iinc hk 8 (v := x63) (lv' := [(10, .int x63), (5, .int x61), (0, .ref (eA (kZ K) a0)), (1, .int a1), (2, .long a2), (4, .int a4), (6, .int a6), (8, .int a8), (9, .int a9)]) dL_isGraph_127 rfl (by rw [zc_iinc_1]; exact e64) (by decide) rfl ?_
  refine Z_goto hk (tgt := 68) dL_isGraph_130 (by decide) ?_
  refine Z_sub [2, 3, 4, 5, 1, 6, 7, 8, 0] rfl ?_
  exact hk68 a0 a1 a2 a4 x61 a6 a8 a9 x63 ha0 σ h
set_option maxRecDepth 100000 in
set_option maxHeartbeats 4000000 in
theorem w_L_isGraph_123 {K : zK} {w : Nat} (hk : zIs K RL cL_isGraph 11 wsL_isGraph (some .boolean) r_L_isGraph) (hfl : (kL K).stackTraces = false) (hnx : zNX K) {r0 : Int32} {τ0 : zST} (hq : zQG K (.inr (some (.int r0))) τ0) (hw : eN (kZ K) = w) (cs ss : Nat) (C S : Nat) (hr1 : cs + 0 ≤ C) (hr2 : ss + 0 ≤ S) (hb1 : cs + 0 ≤ 188) (hb2 : ss + 0 ≤ 1378) (F : Nat) (k50 : Nat → Int32 → Int64 → Int32 → Int32 → Int32 → Int32 → Int32 → zST → Option (Int32 × zST)) (hk50 : ∀ (a0 : Nat) (a1 : Int32) (a2 : Int64) (a4 : Int32) (a5 : Int32) (a6 : Int32) (a7 : Int32) (a8 : Int32) (ha0 : atCanonCote (kZ K) a0) (σ : zST), k50 a0 a1 a2 a4 a5 a6 a7 a8 σ = some (r0, τ0) → Z K C S 50 [(0, .ref (eA (kZ K) a0)), (1, .int a1), (2, .long a2), (4, .int a4), (5, .int a5), (6, .int a6), (7, .int a7), (8, .int a8)] [] σ) (k68 : Nat → Int32 → Int64 → Int32 → Int32 → Int32 → Int32 → Int32 → Int32 → zST → Option (Int32 × zST)) (hk68 : ∀ (a0 : Nat) (a1 : Int32) (a2 : Int64) (a4 : Int32) (a5 : Int32) (a6 : Int32) (a8 : Int32) (a9 : Int32) (a10 : Int32) (ha0 : atCanonCote (kZ K) a0) (σ : zST), k68 a0 a1 a2 a4 a5 a6 a8 a9 a10 σ = some (r0, τ0) → Z K cs ss 68 [(0, .ref (eA (kZ K) a0)), (1, .int a1), (2, .long a2), (4, .int a4), (5, .int a5), (6, .int a6), (8, .int a8), (9, .int a9), (10, .int a10)] [] σ) (a0 : Nat) (a1 : Int32) (a2 : Int64) (a4 : Int32) (a6 : Int32) (a8 : Int32) (a9 : Int32) (a10 : Int32) (t0 : Int32) (ha0 : atCanonCote (kZ K) a0) (σ : zST) (h : m_L_isGraph_123 F w k50 k68 a0 a1 a2 a4 a6 a8 a9 a10 t0 σ = some (r0, τ0)) : Z K cs ss 123 [(0, .ref (eA (kZ K) a0)), (1, .int a1), (2, .long a2), (4, .int a4), (6, .int a6), (8, .int a8), (9, .int a9), (10, .int a10)] [.int t0] σ := by
  unfold m_L_isGraph_123 at h
  refine Z_iconst hk dL_isGraph_123 zc_iconst_0 ?_
  refine Z_sub [0, 1, 2, 3, 4, 5, 6, 7] rfl ?_
  exact w_L_isGraph_124 hk hfl hnx hq hw cs ss C S (by omega) (by omega) (by omega) (by omega) F k50 hk50 k68 hk68 a0 a1 a2 a4 a6 a8 a9 a10 0 t0 ha0 σ h
set_option maxRecDepth 100000 in
set_option maxHeartbeats 4000000 in
theorem w_L_isGraph_96 {K : zK} {w : Nat} (hk : zIs K RL cL_isGraph 11 wsL_isGraph (some .boolean) r_L_isGraph) (hfl : (kL K).stackTraces = false) (hnx : zNX K) {r0 : Int32} {τ0 : zST} (hq : zQG K (.inr (some (.int r0))) τ0) (hw : eN (kZ K) = w) (cs ss : Nat) (C S : Nat) (hr1 : cs + 0 ≤ C) (hr2 : ss + 0 ≤ S) (hb1 : cs + 0 ≤ 188) (hb2 : ss + 0 ≤ 1378) (F : Nat) (k50 : Nat → Int32 → Int64 → Int32 → Int32 → Int32 → Int32 → Int32 → zST → Option (Int32 × zST)) (hk50 : ∀ (a0 : Nat) (a1 : Int32) (a2 : Int64) (a4 : Int32) (a5 : Int32) (a6 : Int32) (a7 : Int32) (a8 : Int32) (ha0 : atCanonCote (kZ K) a0) (σ : zST), k50 a0 a1 a2 a4 a5 a6 a7 a8 σ = some (r0, τ0) → Z K C S 50 [(0, .ref (eA (kZ K) a0)), (1, .int a1), (2, .long a2), (4, .int a4), (5, .int a5), (6, .int a6), (7, .int a7), (8, .int a8)] [] σ) (k68 : Nat → Int32 → Int64 → Int32 → Int32 → Int32 → Int32 → Int32 → Int32 → zST → Option (Int32 × zST)) (hk68 : ∀ (a0 : Nat) (a1 : Int32) (a2 : Int64) (a4 : Int32) (a5 : Int32) (a6 : Int32) (a8 : Int32) (a9 : Int32) (a10 : Int32) (ha0 : atCanonCote (kZ K) a0) (σ : zST), k68 a0 a1 a2 a4 a5 a6 a8 a9 a10 σ = some (r0, τ0) → Z K cs ss 68 [(0, .ref (eA (kZ K) a0)), (1, .int a1), (2, .long a2), (4, .int a4), (5, .int a5), (6, .int a6), (8, .int a8), (9, .int a9), (10, .int a10)] [] σ) (a0 : Nat) (a1 : Int32) (a2 : Int64) (a4 : Int32) (a5 : Int32) (a6 : Int32) (a8 : Int32) (a10 : Int32) (t0 : Int32) (t1 : Int32) (ha0 : atCanonCote (kZ K) a0) (σ : zST) (h : m_L_isGraph_96 F w k50 k68 a0 a1 a2 a4 a5 a6 a8 a10 t0 t1 σ = some (r0, τ0)) : Z K cs ss 96 [(0, .ref (eA (kZ K) a0)), (1, .int a1), (2, .long a2), (4, .int a4), (5, .int a5), (6, .int a6), (8, .int a8), (10, .int a10)] [.int t0, .int t1] σ := by
  unfold m_L_isGraph_96 at h
  refine Z_ior hk dL_isGraph_96 ?_
  obtain ⟨x54, e55, h⟩ := nm_get h
  refine Z_eqI e55 ?_
  refine Z_istore hk (lv' := [(9, .int x54), (0, .ref (eA (kZ K) a0)), (1, .int a1), (2, .long a2), (4, .int a4), (5, .int a5), (6, .int a6), (8, .int a8), (10, .int a10)]) dL_isGraph_97 (by decide) rfl ?_
  refine Z_iload hk 5 dL_isGraph_99 rfl ?_
  refine Z_iload hk 8 dL_isGraph_101 rfl ?_
  refine Z_iload hk 7 dL_isGraph_103 rfl ?_
  refine Z_icmp_ge hk (tgt := 123) dL_isGraph_105 (by decide) (fun c56 => ?_) (fun c56 => ?_)
  · have h := if_yes h c56
    refine Z_sub [1, 2, 3, 4, 6, 7, 0, 8] rfl ?_
    exact w_L_isGraph_123 hk hfl hnx hq hw cs ss C S (by omega) (by omega) (by omega) (by omega) F k50 hk50 k68 hk68 a0 a1 a2 a4 a6 a8 x54 a10 a5 ha0 σ h
  · have h := if_no h c56
    refine Z_lload_n hk 3 dL_isGraph_108 rfl rfl ?_
    refine Z_iload hk 7 dL_isGraph_109 rfl ?_
    refine Z_iload hk 8 dL_isGraph_111 rfl ?_
    obtain ⟨x57, s58, h59, h⟩ := bd_ok h
    refine Z_callT 3 hk [.long a2, .int a8, .int a10] (c_L_edge hk.loc hk.inj F a2 a8 a10 σ h59) gL_isGraph_L_edge rfl ⟨rfl, rfl⟩ (by decide +kernel) ⟨Nat.le_of_ble_eq_true rfl, Nat.le_of_ble_eq_true rfl⟩ rfl rfl (Nat.le_of_ble_eq_true rfl) ⟨by show cs + 0 ≤ 188; omega, by show ss + 0 ≤ 1378; omega⟩ dL_isGraph_113 ?_
    show Z K cs ss 116 [(9, .int x54), (0, .ref (eA (kZ K) a0)), (1, .int a1), (2, .long a2), (4, .int a4), (5, .int a5), (6, .int a6), (8, .int a8), (10, .int a10)] [.int x57, .int a5] s58
    refine Z_if_eq hk (tgt := 123) dL_isGraph_116 (by decide) (fun c60 => ?_) (fun c60 => ?_)
    · have h := if_yes h c60
      refine Z_sub [1, 2, 3, 4, 6, 7, 0, 8] rfl ?_
      exact w_L_isGraph_123 hk hfl hnx hq hw cs ss C S (by omega) (by omega) (by omega) (by omega) F k50 hk50 k68 hk68 a0 a1 a2 a4 a6 a8 x54 a10 a5 ha0 s58 h
    · have h := if_no h c60
      refine Z_iconst hk dL_isGraph_119 zc_iconst_1 ?_
      refine Z_goto hk (tgt := 124) dL_isGraph_120 (by decide) ?_
      refine Z_sub [1, 2, 3, 4, 6, 7, 0, 8] rfl ?_
      exact w_L_isGraph_124 hk hfl hnx hq hw cs ss C S (by omega) (by omega) (by omega) (by omega) F k50 hk50 k68 hk68 a0 a1 a2 a4 a6 a8 x54 a10 1 a5 ha0 s58 h
set_option maxRecDepth 100000 in
set_option maxHeartbeats 4000000 in
theorem w_L_isGraph_185 {K : zK} {w : Nat} (hk : zIs K RL cL_isGraph 11 wsL_isGraph (some .boolean) r_L_isGraph) (hfl : (kL K).stackTraces = false) (hnx : zNX K) {r0 : Int32} {τ0 : zST} (hq : zQG K (.inr (some (.int r0))) τ0) (hw : eN (kZ K) = w) (cs ss : Nat) (C S : Nat) (hr1 : cs + 0 ≤ C) (hr2 : ss + 0 ≤ S) (hb1 : cs + 0 ≤ 188) (hb2 : ss + 0 ≤ 1378) (F : Nat) (k50 : Nat → Int32 → Int64 → Int32 → Int32 → Int32 → Int32 → Int32 → zST → Option (Int32 × zST)) (hk50 : ∀ (a0 : Nat) (a1 : Int32) (a2 : Int64) (a4 : Int32) (a5 : Int32) (a6 : Int32) (a7 : Int32) (a8 : Int32) (ha0 : atCanonCote (kZ K) a0) (σ : zST), k50 a0 a1 a2 a4 a5 a6 a7 a8 σ = some (r0, τ0) → Z K C S 50 [(0, .ref (eA (kZ K) a0)), (1, .int a1), (2, .long a2), (4, .int a4), (5, .int a5), (6, .int a6), (7, .int a7), (8, .int a8)] [] σ) (a0 : Nat) (a1 : Int32) (a2 : Int64) (a4 : Int32) (a5 : Int32) (a6 : Int32) (a8 : Int32) (t0 : Int32) (ha0 : atCanonCote (kZ K) a0) (σ : zST) (h : m_L_isGraph_185 F w k50 a0 a1 a2 a4 a5 a6 a8 t0 σ = some (r0, τ0)) : Z K cs ss 185 [(0, .ref (eA (kZ K) a0)), (1, .int a1), (2, .long a2), (4, .int a4), (5, .int a5), (6, .int a6), (8, .int a8)] [.int t0] σ := by
  unfold m_L_isGraph_185 at h
  refine Z_istore hk (lv' := [(7, .int t0), (0, .ref (eA (kZ K) a0)), (1, .int a1), (2, .long a2), (4, .int a4), (5, .int a5), (6, .int a6), (8, .int a8)]) dL_isGraph_185 (by decide) rfl ?_
  obtain ⟨x52, e53, h⟩ := nm_get h
  refine Z_iinc hk 7 (v := x52) (lv' := [(8, .int x52), (7, .int t0), (0, .ref (eA (kZ K) a0)), (1, .int a1), (2, .long a2), (4, .int a4), (5, .int a5), (6, .int a6)]) dL_isGraph_187 rfl (by rw [zc_iinc_1]; exact e53) (by decide) rfl ?_
  refine Z_goto hk (tgt := 50) dL_isGraph_190 (by decide) ?_
  refine Z_sub [2, 3, 4, 5, 6, 7, 1, 0] rfl ?_
  refine Z_widen (cs' := C) (ss' := S) (by omega) (by omega) ?_
  exact hk50 a0 a1 a2 a4 a5 a6 t0 x52 ha0 σ h
set_option maxRecDepth 100000 in
set_option maxHeartbeats 4000000 in
theorem w_L_isGraph_184 {K : zK} {w : Nat} (hk : zIs K RL cL_isGraph 11 wsL_isGraph (some .boolean) r_L_isGraph) (hfl : (kL K).stackTraces = false) (hnx : zNX K) {r0 : Int32} {τ0 : zST} (hq : zQG K (.inr (some (.int r0))) τ0) (hw : eN (kZ K) = w) (cs ss : Nat) (C S : Nat) (hr1 : cs + 0 ≤ C) (hr2 : ss + 0 ≤ S) (hb1 : cs + 0 ≤ 188) (hb2 : ss + 0 ≤ 1378) (F : Nat) (k50 : Nat → Int32 → Int64 → Int32 → Int32 → Int32 → Int32 → Int32 → zST → Option (Int32 × zST)) (hk50 : ∀ (a0 : Nat) (a1 : Int32) (a2 : Int64) (a4 : Int32) (a5 : Int32) (a6 : Int32) (a7 : Int32) (a8 : Int32) (ha0 : atCanonCote (kZ K) a0) (σ : zST), k50 a0 a1 a2 a4 a5 a6 a7 a8 σ = some (r0, τ0) → Z K C S 50 [(0, .ref (eA (kZ K) a0)), (1, .int a1), (2, .long a2), (4, .int a4), (5, .int a5), (6, .int a6), (7, .int a7), (8, .int a8)] [] σ) (a0 : Nat) (a1 : Int32) (a2 : Int64) (a4 : Int32) (a5 : Int32) (a6 : Int32) (a8 : Int32) (ha0 : atCanonCote (kZ K) a0) (σ : zST) (h : m_L_isGraph_184 F w k50 a0 a1 a2 a4 a5 a6 a8 σ = some (r0, τ0)) : Z K cs ss 184 [(0, .ref (eA (kZ K) a0)), (1, .int a1), (2, .long a2), (4, .int a4), (5, .int a5), (6, .int a6), (8, .int a8)] [] σ := by
  unfold m_L_isGraph_184 at h
  refine Z_iconst hk dL_isGraph_184 zc_iconst_0 ?_
  refine Z_sub [0, 1, 2, 3, 4, 5, 6] rfl ?_
  exact w_L_isGraph_185 hk hfl hnx hq hw cs ss C S (by omega) (by omega) (by omega) (by omega) F k50 hk50 a0 a1 a2 a4 a5 a6 a8 0 ha0 σ h
set_option maxRecDepth 100000 in
set_option maxHeartbeats 4000000 in
theorem w_L_isGraph_68 {K : zK} {w : Nat} (hk : zIs K RL cL_isGraph 11 wsL_isGraph (some .boolean) r_L_isGraph) (hfl : (kL K).stackTraces = false) (hnx : zNX K) {r0 : Int32} {τ0 : zST} (hq : zQG K (.inr (some (.int r0))) τ0) (hw : eN (kZ K) = w) (cs ss : Nat) (C S : Nat) (hr1 : cs + 6 ≤ C) (hr2 : ss + 36 ≤ S) (hb1 : cs + 6 ≤ 188) (hb2 : ss + 36 ≤ 1378) (F : Nat) (k50 : Nat → Int32 → Int64 → Int32 → Int32 → Int32 → Int32 → Int32 → zST → Option (Int32 × zST)) (hk50 : ∀ (a0 : Nat) (a1 : Int32) (a2 : Int64) (a4 : Int32) (a5 : Int32) (a6 : Int32) (a7 : Int32) (a8 : Int32) (ha0 : atCanonCote (kZ K) a0) (σ : zST), k50 a0 a1 a2 a4 a5 a6 a7 a8 σ = some (r0, τ0) → Z K C S 50 [(0, .ref (eA (kZ K) a0)), (1, .int a1), (2, .long a2), (4, .int a4), (5, .int a5), (6, .int a6), (7, .int a7), (8, .int a8)] [] σ) : ∀ (n : Nat) (a0 : Nat) (a1 : Int32) (a2 : Int64) (a4 : Int32) (a5 : Int32) (a6 : Int32) (a8 : Int32) (a9 : Int32) (a10 : Int32) (ha0 : atCanonCote (kZ K) a0) (σ : zST), m_L_isGraph_68 F w k50 n a0 a1 a2 a4 a5 a6 a8 a9 a10 σ = some (r0, τ0) → Z K cs ss 68 [(0, .ref (eA (kZ K) a0)), (1, .int a1), (2, .long a2), (4, .int a4), (5, .int a5), (6, .int a6), (8, .int a8), (9, .int a9), (10, .int a10)] [] σ := by
  intro n
  induction n with
  | zero => intro a0 a1 a2 a4 a5 a6 a8 a9 a10 ha0 σ h; cases h
  | succ n ih =>
    intro a0 a1 a2 a4 a5 a6 a8 a9 a10 ha0 σ h
    rw [m_L_isGraph_68] at h
    refine Z_iload hk 8 dL_isGraph_68 rfl ?_
    refine Z_iload hk 3 dL_isGraph_70 rfl ?_
    refine Z_icmp_ge hk (tgt := 133) dL_isGraph_72 (by decide) (fun c29 => ?_) (fun c29 => ?_)
    · have h := if_yes h c29
      refine Z_aload_n hk 0 dL_isGraph_133 rfl rfl ?_
      refine Z_iload_n hk 1 dL_isGraph_134 rfl rfl ?_
      refine Z_iload hk 6 dL_isGraph_135 rfl ?_
      obtain ⟨x30, s31, h32, h⟩ := br_ok h
      refine ZX_callV 2 hk [.int a1, .int a8] (c_X7_neighbours hk.loc hk.inj hfl F a0 a1 a8 ha0 σ h32) gL_isGraph_X7_neighbours rfl ⟨rfl, by decide +kernel, by decide +kernel, by decide +kernel⟩ ⟨Nat.le_of_ble_eq_true rfl, Nat.le_of_ble_eq_true rfl⟩ ha0.cell.1 (ha0.cell.2 _) rfl rfl rfl (Nat.le_of_ble_eq_true rfl) ⟨by show cs + 2 ≤ 188; omega, by show ss + 12 ≤ 1378; omega⟩ dL_isGraph_137 (fun X hX => by cases hX) (fun v hv => ?_)
      cases hv
      show Z K (cs + 2) (ss + 12) 140 [(0, .ref (eA (kZ K) a0)), (1, .int a1), (2, .long a2), (4, .int a4), (5, .int a5), (6, .int a6), (8, .int a8), (9, .int a9), (10, .int a10)] [.int x30] s31
      refine Z_iload hk 7 dL_isGraph_140 rfl ?_
      refine Z_icmp_ne hk (tgt := 184) dL_isGraph_142 (by decide) (fun c33 => ?_) (fun c33 => ?_)
      · have h := if_yes h c33
        refine Z_aload_n hk 0 dL_isGraph_145 rfl rfl ?_
        refine Z_iload_n hk 1 dL_isGraph_146 rfl rfl ?_
        refine Z_iload hk 6 dL_isGraph_147 rfl ?_
        obtain ⟨x34, s35, h36, h⟩ := br_ok h
        refine ZX_callV 2 hk [.int a1, .int a8] (c_X7_colour hk.loc hk.inj hfl F a0 a1 a8 ha0 s31 h36) gL_isGraph_X7_colour rfl ⟨rfl, by decide +kernel, by decide +kernel, by decide +kernel⟩ ⟨Nat.le_of_ble_eq_true rfl, Nat.le_of_ble_eq_true rfl⟩ ha0.cell.1 (ha0.cell.2 _) rfl rfl rfl (Nat.le_of_ble_eq_true rfl) ⟨by show (cs + 2) + 2 ≤ 188; omega, by show (ss + 12) + 12 ≤ 1378; omega⟩ dL_isGraph_149 (fun X hX => by cases hX) (fun v hv => ?_)
        cases hv
        show Z K (cs + 4) (ss + 24) 152 [(0, .ref (eA (kZ K) a0)), (1, .int a1), (2, .long a2), (4, .int a4), (5, .int a5), (6, .int a6), (8, .int a8), (9, .int a9), (10, .int a10)] [.int x34] s35
        refine Z_lload_n hk 2 dL_isGraph_152 rfl rfl ?_
        refine Z_iload hk 6 dL_isGraph_153 rfl ?_
        obtain ⟨x37, s38, h39, h⟩ := bd_ok h
        refine Z_callT 2 hk [.long a2, .int a8] (c_L_colour hk.loc hk.inj F a2 a8 s35 h39) gL_isGraph_L_colour rfl ⟨rfl, rfl⟩ (by decide +kernel) ⟨Nat.le_of_ble_eq_true rfl, Nat.le_of_ble_eq_true rfl⟩ rfl rfl (Nat.le_of_ble_eq_true rfl) ⟨by show (cs + 4) + 0 ≤ 188; omega, by show (ss + 24) + 0 ≤ 1378; omega⟩ dL_isGraph_155 ?_
        show Z K (cs + 4) (ss + 24) 158 [(0, .ref (eA (kZ K) a0)), (1, .int a1), (2, .long a2), (4, .int a4), (5, .int a5), (6, .int a6), (8, .int a8), (9, .int a9), (10, .int a10)] [.int x37, .int x34] s38
        refine Z_icmp_ne hk (tgt := 184) dL_isGraph_158 (by decide) (fun c40 => ?_) (fun c40 => ?_)
        · have h := if_yes h c40
          refine Z_aload_n hk 0 dL_isGraph_161 rfl rfl ?_
          refine Z_iload_n hk 1 dL_isGraph_162 rfl rfl ?_
          refine Z_iload hk 6 dL_isGraph_163 rfl ?_
          obtain ⟨x41, s42, h43, h⟩ := br_ok h
          refine ZX_callV 2 hk [.int a1, .int a8] (c_X7_placeOf hk.loc hk.inj hfl F a0 a1 a8 ha0 s38 h43) gL_isGraph_X7_placeOf rfl ⟨rfl, by decide +kernel, by decide +kernel, by decide +kernel⟩ ⟨Nat.le_of_ble_eq_true rfl, Nat.le_of_ble_eq_true rfl⟩ ha0.cell.1 (ha0.cell.2 _) rfl rfl rfl (Nat.le_of_ble_eq_true rfl) ⟨by show (cs + 4) + 2 ≤ 188; omega, by show (ss + 24) + 12 ≤ 1378; omega⟩ dL_isGraph_165 (fun X hX => by cases hX) (fun v hv => ?_)
          cases hv
          show Z K (cs + 6) (ss + 36) 168 [(0, .ref (eA (kZ K) a0)), (1, .int a1), (2, .long a2), (4, .int a4), (5, .int a5), (6, .int a6), (8, .int a8), (9, .int a9), (10, .int a10)] [.int x41] s42
          refine Z_iload hk 3 dL_isGraph_168 rfl ?_
          refine Z_iload hk 5 dL_isGraph_170 rfl ?_
          refine Z_iload hk 6 dL_isGraph_172 rfl ?_
          obtain ⟨x44, s45, h46, h⟩ := bd_ok h
          refine Z_callT 3 hk [.int a4, .int a6, .int a8] (c_L_image hk.loc hk.inj F a4 a6 a8 s42 h46) gL_isGraph_L_image rfl ⟨rfl, rfl⟩ (by decide +kernel) ⟨Nat.le_of_ble_eq_true rfl, Nat.le_of_ble_eq_true rfl⟩ rfl rfl (Nat.le_of_ble_eq_true rfl) ⟨by show (cs + 6) + 0 ≤ 188; omega, by show (ss + 36) + 0 ≤ 1378; omega⟩ dL_isGraph_174 ?_
          show Z K (cs + 6) (ss + 36) 177 [(0, .ref (eA (kZ K) a0)), (1, .int a1), (2, .long a2), (4, .int a4), (5, .int a5), (6, .int a6), (8, .int a8), (9, .int a9), (10, .int a10)] [.int x44, .int x41] s45
          refine Z_icmp_ne hk (tgt := 184) dL_isGraph_177 (by decide) (fun c47 => ?_) (fun c47 => ?_)
          · have h := if_yes h c47
            refine Z_iconst hk dL_isGraph_180 zc_iconst_1 ?_
            refine Z_goto hk (tgt := 185) dL_isGraph_181 (by decide) ?_
            refine Z_sub [0, 1, 2, 3, 4, 5, 6] rfl ?_
            exact w_L_isGraph_185 hk hfl hnx hq hw (cs + 6) (ss + 36) C S (by omega) (by omega) (by omega) (by omega) F k50 hk50 a0 a1 a2 a4 a5 a6 a8 1 ha0 s45 h
          · have h := if_no h c47
            refine Z_sub [0, 1, 2, 3, 4, 5, 6] rfl ?_
            exact w_L_isGraph_184 hk hfl hnx hq hw (cs + 6) (ss + 36) C S (by omega) (by omega) (by omega) (by omega) F k50 hk50 a0 a1 a2 a4 a5 a6 a8 ha0 s45 h
        · have h := if_no h c40
          refine Z_sub [0, 1, 2, 3, 4, 5, 6] rfl ?_
          exact w_L_isGraph_184 hk hfl hnx hq hw (cs + 4) (ss + 24) C S (by omega) (by omega) (by omega) (by omega) F k50 hk50 a0 a1 a2 a4 a5 a6 a8 ha0 s38 h
      · have h := if_no h c33
        refine Z_sub [0, 1, 2, 3, 4, 5, 6] rfl ?_
        exact w_L_isGraph_184 hk hfl hnx hq hw (cs + 2) (ss + 12) C S (by omega) (by omega) (by omega) (by omega) F k50 hk50 a0 a1 a2 a4 a5 a6 a8 ha0 s31 h
    · have h := if_no h c29
      refine Z_iload hk 7 dL_isGraph_75 rfl ?_
      refine Z_lload_n hk 2 dL_isGraph_77 rfl rfl ?_
      refine Z_iload hk 6 dL_isGraph_78 rfl ?_
      refine Z_iload hk 8 dL_isGraph_80 rfl ?_
      obtain ⟨x48, s49, h50, h⟩ := bd_ok h
      refine Z_callT 3 hk [.long a2, .int a8, .int a10] (c_L_edge hk.loc hk.inj F a2 a8 a10 σ h50) gL_isGraph_L_edge rfl ⟨rfl, rfl⟩ (by decide +kernel) ⟨Nat.le_of_ble_eq_true rfl, Nat.le_of_ble_eq_true rfl⟩ rfl rfl (Nat.le_of_ble_eq_true rfl) ⟨by show cs + 0 ≤ 188; omega, by show ss + 0 ≤ 1378; omega⟩ dL_isGraph_82 ?_
      show Z K cs ss 85 [(0, .ref (eA (kZ K) a0)), (1, .int a1), (2, .long a2), (4, .int a4), (5, .int a5), (6, .int a6), (8, .int a8), (9, .int a9), (10, .int a10)] [.int x48, .int a9] s49
      refine Z_if_eq hk (tgt := 95) dL_isGraph_85 (by decide) (fun c51 => ?_) (fun c51 => ?_)
      · have h := if_yes h c51
        refine Z_iconst hk dL_isGraph_95 zc_iconst_0 ?_
        refine Z_sub [0, 1, 2, 3, 4, 5, 6, 8] rfl ?_
        exact w_L_isGraph_96 hk hfl hnx hq hw cs ss C S (by omega) (by omega) (by omega) (by omega) F k50 hk50 (m_L_isGraph_68 F w k50 n) ih a0 a1 a2 a4 a5 a6 a8 a10 0 a9 ha0 s49 h
      · have h := if_no h c51
        refine Z_iconst hk dL_isGraph_88 zc_iconst_1 ?_
        refine Z_iload hk 8 dL_isGraph_89 rfl ?_
        refine Z_ishl hk dL_isGraph_91 ?_
        refine Z_goto hk (tgt := 96) dL_isGraph_92 (by decide) ?_
        refine Z_sub [0, 1, 2, 3, 4, 5, 6, 8] rfl ?_
        exact w_L_isGraph_96 hk hfl hnx hq hw cs ss C S (by omega) (by omega) (by omega) (by omega) F k50 hk50 (m_L_isGraph_68 F w k50 n) ih a0 a1 a2 a4 a5 a6 a8 a10 (jshl 1 a10) a9 ha0 s49 h
set_option maxRecDepth 100000 in
set_option maxHeartbeats 4000000 in
theorem w_L_isGraph_221 {K : zK} {w : Nat} (hk : zIs K RL cL_isGraph 11 wsL_isGraph (some .boolean) r_L_isGraph) (hfl : (kL K).stackTraces = false) (hnx : zNX K) {r0 : Int32} {τ0 : zST} (hq : zQG K (.inr (some (.int r0))) τ0) (hw : eN (kZ K) = w) (cs ss : Nat) (hb1 : cs + 0 ≤ 188) (hb2 : ss + 0 ≤ 1378) (F : Nat)  (σ : zST) (h : m_L_isGraph_221 F w σ = some (r0, τ0)) : Z K cs ss 221 [] [] σ := by
  unfold m_L_isGraph_221 at h
  refine Z_iconst hk dL_isGraph_221 zc_iconst_0 ?_
  cases h
  exact ZG_zret hk (by decide) hq ⟨by show cs + 0 ≤ 188; omega, by show ss + 0 ≤ 1378; omega⟩ dL_isGraph_222
set_option maxRecDepth 100000 in
set_option maxHeartbeats 4000000 in
theorem w_L_isGraph_193 {K : zK} {w : Nat} (hk : zIs K RL cL_isGraph 11 wsL_isGraph (some .boolean) r_L_isGraph) (hfl : (kL K).stackTraces = false) (hnx : zNX K) {r0 : Int32} {τ0 : zST} (hq : zQG K (.inr (some (.int r0))) τ0) (hw : eN (kZ K) = w) (cs ss : Nat) (hb1 : cs + 21 ≤ 188) (hb2 : ss + 130 ≤ 1378) (F : Nat) (a0 : Nat) (a1 : Int32) (a2 : Int64) (a5 : Int32) (a7 : Int32) (ha0 : atCanonCote (kZ K) a0) (σ : zST) (h : m_L_isGraph_193 F w a0 a1 a2 a5 a7 σ = some (r0, τ0)) : Z K cs ss 193 [(0, .ref (eA (kZ K) a0)), (1, .int a1), (2, .long a2), (5, .int a5), (7, .int a7)] [] σ := by
  unfold m_L_isGraph_193 at h
  refine Z_iload hk 4 dL_isGraph_193 rfl ?_
  refine Z_if_eq hk (tgt := 221) dL_isGraph_195 (by decide) (fun c20 => ?_) (fun c20 => ?_)
  · have h := if_yes h c20
    refine Z_sub [] rfl ?_
    exact w_L_isGraph_221 hk hfl hnx hq hw cs ss (by omega) (by omega) F σ h
  · have h := if_no h c20
    refine Z_aload_n hk 0 dL_isGraph_198 rfl rfl ?_
    refine Z_iload_n hk 1 dL_isGraph_199 rfl rfl ?_
    obtain ⟨x21, s22, h23, h⟩ := br_ok h
    refine ZX_callV 1 hk [.int a1] (c_X7_edges hk.loc hk.inj hfl F a0 a1 ha0 σ h23) gL_isGraph_X7_edges rfl ⟨rfl, by decide +kernel, by decide +kernel, by decide +kernel⟩ ⟨Nat.le_of_ble_eq_true rfl, Nat.le_of_ble_eq_true rfl⟩ ha0.cell.1 (ha0.cell.2 _) rfl rfl rfl (Nat.le_of_ble_eq_true rfl) ⟨by show cs + 1 ≤ 188; omega, by show ss + 6 ≤ 1378; omega⟩ dL_isGraph_200 (fun X hX => by cases hX) (fun v hv => ?_)
    cases hv
    show Z K (cs + 1) (ss + 6) 203 [(0, .ref (eA (kZ K) a0)), (1, .int a1), (2, .long a2), (5, .int a5), (7, .int a7)] [.int x21] s22
    refine Z_iload hk 3 dL_isGraph_203 rfl ?_
    refine Z_icmp_ne hk (tgt := 221) dL_isGraph_205 (by decide) (fun c24 => ?_) (fun c24 => ?_)
    · have h := if_yes h c24
      refine Z_aload_n hk 0 dL_isGraph_208 rfl rfl ?_
      refine Z_iload_n hk 1 dL_isGraph_209 rfl rfl ?_
      refine Z_lload_n hk 2 dL_isGraph_210 rfl rfl ?_
      obtain ⟨x25, s26, h27, h⟩ := bd_ok h
      refine ZX_callT 3 hk [.ref (eA (kZ K) a0), .int a1, .long a2] (c_L_isRefined hk.loc hk.inj hfl F w hw a0 a1 a2 ha0 s22 h27) gL_isGraph_L_isRefined rfl ⟨by decide +kernel, by decide +kernel, by decide +kernel⟩ ⟨Nat.le_of_ble_eq_true rfl, Nat.le_of_ble_eq_true rfl⟩ rfl rfl (Nat.le_of_ble_eq_true rfl) ⟨by show (cs + 1) + 20 ≤ 188; omega, by show (ss + 6) + 124 ≤ 1378; omega⟩ dL_isGraph_211 (fun X hX => by cases hX) (fun v hv => ?_)
      cases hv
      show Z K (cs + 21) (ss + 130) 214 [(0, .ref (eA (kZ K) a0)), (1, .int a1), (2, .long a2), (5, .int a5), (7, .int a7)] [.int x25] s26
      refine Z_if_eq hk (tgt := 221) dL_isGraph_214 (by decide) (fun c28 => ?_) (fun c28 => ?_)
      · have h := if_yes h c28
        refine Z_sub [] rfl ?_
        exact w_L_isGraph_221 hk hfl hnx hq hw (cs + 21) (ss + 130) (by omega) (by omega) F s26 h
      · have h := if_no h c28
        refine Z_iconst hk dL_isGraph_217 zc_iconst_1 ?_
        refine Z_goto hk (tgt := 222) dL_isGraph_218 (by decide) ?_
        cases h
        exact ZG_zret hk (by decide) hq ⟨by show (cs + 21) + 0 ≤ 188; omega, by show (ss + 130) + 0 ≤ 1378; omega⟩ dL_isGraph_222
    · have h := if_no h c24
      refine Z_sub [] rfl ?_
      exact w_L_isGraph_221 hk hfl hnx hq hw (cs + 1) (ss + 6) (by omega) (by omega) F s22 h
set_option maxRecDepth 100000 in
set_option maxHeartbeats 4000000 in
theorem w_L_isGraph_50 {K : zK} {w : Nat} (hk : zIs K RL cL_isGraph 11 wsL_isGraph (some .boolean) r_L_isGraph) (hfl : (kL K).stackTraces = false) (hnx : zNX K) {r0 : Int32} {τ0 : zST} (hq : zQG K (.inr (some (.int r0))) τ0) (hw : eN (kZ K) = w) (F : Nat) : ∀ (n : Nat) (cs ss : Nat) (hb1 : cs + 6 * n + 21 ≤ 188) (hb2 : ss + 36 * n + 130 ≤ 1378) (a0 : Nat) (a1 : Int32) (a2 : Int64) (a4 : Int32) (a5 : Int32) (a6 : Int32) (a7 : Int32) (a8 : Int32) (ha0 : atCanonCote (kZ K) a0) (σ : zST), m_L_isGraph_50 F w n a0 a1 a2 a4 a5 a6 a7 a8 σ = some (r0, τ0) → Z K cs ss 50 [(0, .ref (eA (kZ K) a0)), (1, .int a1), (2, .long a2), (4, .int a4), (5, .int a5), (6, .int a6), (7, .int a7), (8, .int a8)] [] σ := by
  intro n
  induction n with
  | zero => intro cs ss hb1 hb2 a0 a1 a2 a4 a5 a6 a7 a8 ha0 σ h; cases h
  | succ n ih0 =>
    intro cs ss hb1 hb2 a0 a1 a2 a4 a5 a6 a7 a8 ha0 σ h
    have ih := ih0 (cs + 6) (ss + 36) (by omega) (by omega)
    rw [m_L_isGraph_50] at h
    refine Z_iload hk 7 dL_isGraph_50 rfl ?_
    refine Z_iload hk 3 dL_isGraph_52 rfl ?_
    refine Z_icmp_ge hk (tgt := 193) dL_isGraph_54 (by decide) (fun c18 => ?_) (fun c18 => ?_)
    · have h := if_yes h c18
      refine Z_sub [0, 1, 2, 4, 6] rfl ?_
      exact w_L_isGraph_193 hk hfl hnx hq hw cs ss (by omega) (by omega) F a0 a1 a2 a5 a7 ha0 σ h
    · have h := if_no h c18
      refine Z_iload hk 6 dL_isGraph_57 rfl ?_
      refine Z_if_eq hk (tgt := 193) dL_isGraph_59 (by decide) (fun c19 => ?_) (fun c19 => ?_)
      · have h := if_yes h c19
        refine Z_sub [0, 1, 2, 4, 6] rfl ?_
        exact w_L_isGraph_193 hk hfl hnx hq hw cs ss (by omega) (by omega) F a0 a1 a2 a5 a7 ha0 σ h
      · have h := if_no h c19
        refine Z_iconst hk dL_isGraph_62 zc_iconst_0 ?_
        refine Z_istore hk (lv' := [(9, .int 0), (0, .ref (eA (kZ K) a0)), (1, .int a1), (2, .long a2), (4, .int a4), (5, .int a5), (6, .int a6), (7, .int a7), (8, .int a8)]) dL_isGraph_63 (by decide) rfl ?_
        refine Z_iconst hk dL_isGraph_65 zc_iconst_0 ?_
        refine Z_istore hk (lv' := [(10, .int 0), (9, .int 0), (0, .ref (eA (kZ K) a0)), (1, .int a1), (2, .long a2), (4, .int a4), (5, .int a5), (6, .int a6), (7, .int a7), (8, .int a8)]) dL_isGraph_66 (by decide) rfl ?_
        refine Z_sub [2, 3, 4, 5, 6, 7, 9, 1, 0] rfl ?_
        exact w_L_isGraph_68 hk hfl hnx hq hw cs ss (cs + 6) (ss + 36) (by omega) (by omega) (by omega) (by omega) F (m_L_isGraph_50 F w n) ih F a0 a1 a2 a4 a5 a6 a8 0 0 ha0 σ h
set_option maxRecDepth 100000 in
set_option maxHeartbeats 4000000 in
theorem w_L_isGraph_45 {K : zK} {w : Nat} (hk : zIs K RL cL_isGraph 11 wsL_isGraph (some .boolean) r_L_isGraph) (hfl : (kL K).stackTraces = false) (hnx : zNX K) {r0 : Int32} {τ0 : zST} (hq : zQG K (.inr (some (.int r0))) τ0) (hw : eN (kZ K) = w) (cs ss : Nat) (hb1 : cs + 63 ≤ 188) (hb2 : ss + 382 ≤ 1378) (F : Nat) (a0 : Nat) (a1 : Int32) (a2 : Int64) (a4 : Int32) (a5 : Int32) (a6 : Int32) (t0 : Int32) (ha0 : atCanonCote (kZ K) a0) (σ : zST) (h : m_L_isGraph_45 F w a0 a1 a2 a4 a5 a6 t0 σ = some (r0, τ0)) : Z K cs ss 45 [(0, .ref (eA (kZ K) a0)), (1, .int a1), (2, .long a2), (4, .int a4), (5, .int a5), (6, .int a6)] [.int t0] σ := by
  unfold m_L_isGraph_45 at h
  refine Z_istore hk (lv' := [(7, .int t0), (0, .ref (eA (kZ K) a0)), (1, .int a1), (2, .long a2), (4, .int a4), (5, .int a5), (6, .int a6)]) dL_isGraph_45 (by decide) rfl ?_
  refine Z_iconst hk dL_isGraph_47 zc_iconst_0 ?_
  refine Z_istore hk (lv' := [(8, .int 0), (7, .int t0), (0, .ref (eA (kZ K) a0)), (1, .int a1), (2, .long a2), (4, .int a4), (5, .int a5), (6, .int a6)]) dL_isGraph_48 (by decide) rfl ?_
  refine Z_sub [2, 3, 4, 5, 6, 7, 1, 0] rfl ?_
  exact w_L_isGraph_50 hk hfl hnx hq hw F 7 cs ss (by omega) (by omega) a0 a1 a2 a4 a5 a6 t0 0 ha0 σ h
set_option maxRecDepth 100000 in
set_option maxHeartbeats 4000000 in
theorem w_L_isGraph_44 {K : zK} {w : Nat} (hk : zIs K RL cL_isGraph 11 wsL_isGraph (some .boolean) r_L_isGraph) (hfl : (kL K).stackTraces = false) (hnx : zNX K) {r0 : Int32} {τ0 : zST} (hq : zQG K (.inr (some (.int r0))) τ0) (hw : eN (kZ K) = w) (cs ss : Nat) (hb1 : cs + 63 ≤ 188) (hb2 : ss + 382 ≤ 1378) (F : Nat) (a0 : Nat) (a1 : Int32) (a2 : Int64) (a4 : Int32) (a5 : Int32) (a6 : Int32) (ha0 : atCanonCote (kZ K) a0) (σ : zST) (h : m_L_isGraph_44 F w a0 a1 a2 a4 a5 a6 σ = some (r0, τ0)) : Z K cs ss 44 [(0, .ref (eA (kZ K) a0)), (1, .int a1), (2, .long a2), (4, .int a4), (5, .int a5), (6, .int a6)] [] σ := by
  unfold m_L_isGraph_44 at h
  refine Z_iconst hk dL_isGraph_44 zc_iconst_0 ?_
  refine Z_sub [0, 1, 2, 3, 4, 5] rfl ?_
  exact w_L_isGraph_45 hk hfl hnx hq hw cs ss (by omega) (by omega) F a0 a1 a2 a4 a5 a6 0 ha0 σ h
set_option maxRecDepth 100000 in
set_option maxHeartbeats 4000000 in
theorem w_L_isGraph {K : zK} {w : Nat} (hk : zIs K RL cL_isGraph 11 wsL_isGraph (some .boolean) r_L_isGraph) (hfl : (kL K).stackTraces = false) (hnx : zNX K) {r0 : Int32} {τ0 : zST} (hq : zQG K (.inr (some (.int r0))) τ0) (hw : eN (kZ K) = w) (F : Nat) (a0 : Nat) (a1 : Int32) (a2 : Int64) (ha0 : atCanonCote (kZ K) a0) (σ : zST) (h : m_L_isGraph F w a0 a1 a2 σ = some (r0, τ0)) : Z K 0 0 0 [(0, .ref (eA (kZ K) a0)), (1, .int a1), (2, .long a2)] [] σ := by
  unfold m_L_isGraph at h
  refine Z_lload_n hk 2 dL_isGraph_0 rfl rfl ?_
  obtain ⟨x1, s2, h3, h⟩ := bd_ok h
  refine Z_callT 1 hk [.long a2] (c_L_size hk.loc hk.inj F a2 σ h3) gL_isGraph_L_size rfl ⟨rfl, rfl⟩ (by decide +kernel) ⟨Nat.le_of_ble_eq_true rfl, Nat.le_of_ble_eq_true rfl⟩ rfl rfl (Nat.le_of_ble_eq_true rfl) ⟨by show 0 + 0 ≤ 188; omega, by show 0 + 0 ≤ 1378; omega⟩ dL_isGraph_1 ?_
  show Z K 0 0 4 [(0, .ref (eA (kZ K) a0)), (1, .int a1), (2, .long a2)] [.int x1] s2
  refine Z_istore hk (lv' := [(4, .int x1), (0, .ref (eA (kZ K) a0)), (1, .int a1), (2, .long a2)]) dL_isGraph_4 (by decide) rfl ?_
  refine Z_iconst hk dL_isGraph_6 zc_iconst_0 ?_
  refine Z_istore hk (lv' := [(5, .int 0), (4, .int x1), (0, .ref (eA (kZ K) a0)), (1, .int a1), (2, .long a2)]) dL_isGraph_7 (by decide) rfl ?_
  refine Z_lload_n hk 4 dL_isGraph_9 rfl rfl ?_
  obtain ⟨x4, s5, h6, h⟩ := bd_ok h
  refine ZX_callT 1 hk [.long a2] (c_L_least hk.loc hk.inj hfl F w hw a2 s2 h6) gL_isGraph_L_least rfl ⟨by decide +kernel, by decide +kernel, by decide +kernel⟩ ⟨Nat.le_of_ble_eq_true rfl, Nat.le_of_ble_eq_true rfl⟩ rfl rfl (Nat.le_of_ble_eq_true rfl) ⟨by show 0 + 122 ≤ 188; omega, by show 0 + 976 ≤ 1378; omega⟩ dL_isGraph_10 (fun X hX => by cases hX) (fun v hv => ?_)
  cases hv
  show Z K 122 976 13 [(5, .int 0), (4, .int x1), (0, .ref (eA (kZ K) a0)), (1, .int a1), (2, .long a2)] [.int x4] s5
  refine Z_istore hk (lv' := [(6, .int x4), (5, .int 0), (4, .int x1), (0, .ref (eA (kZ K) a0)), (1, .int a1), (2, .long a2)]) dL_isGraph_13 (by decide) rfl ?_
  refine Z_aload_n hk 3 dL_isGraph_15 rfl rfl ?_
  refine Z_iload_n hk 4 dL_isGraph_16 rfl rfl ?_
  obtain ⟨x7, s8, h9, h⟩ := br_ok h
  refine ZX_callV 1 hk [.int a1] (c_X7_size hk.loc hk.inj hfl F a0 a1 ha0 s5 h9) gL_isGraph_X7_size rfl ⟨rfl, by decide +kernel, by decide +kernel, by decide +kernel⟩ ⟨Nat.le_of_ble_eq_true rfl, Nat.le_of_ble_eq_true rfl⟩ ha0.cell.1 (ha0.cell.2 _) rfl rfl rfl (Nat.le_of_ble_eq_true rfl) ⟨by show 122 + 1 ≤ 188; omega, by show 976 + 6 ≤ 1378; omega⟩ dL_isGraph_17 (fun X hX => by cases hX) (fun v hv => ?_)
  cases hv
  show Z K 123 982 20 [(6, .int x4), (5, .int 0), (4, .int x1), (0, .ref (eA (kZ K) a0)), (1, .int a1), (2, .long a2)] [.int x7] s8
  refine Z_iload hk 2 dL_isGraph_20 rfl ?_
  refine Z_icmp_ne hk (tgt := 44) dL_isGraph_22 (by decide) (fun c10 => ?_) (fun c10 => ?_)
  · have h := if_yes h c10
    refine Z_aload_n hk 3 dL_isGraph_25 rfl rfl ?_
    refine Z_iload_n hk 4 dL_isGraph_26 rfl rfl ?_
    obtain ⟨x11, s12, h13, h⟩ := br_ok h
    refine ZX_callV 1 hk [.int a1] (c_X7_form hk.loc hk.inj hfl F a0 a1 ha0 s8 h13) gL_isGraph_X7_form rfl ⟨rfl, by decide +kernel, by decide +kernel, by decide +kernel⟩ ⟨Nat.le_of_ble_eq_true rfl, Nat.le_of_ble_eq_true rfl⟩ ha0.cell.1 (ha0.cell.2 _) rfl rfl rfl (Nat.le_of_ble_eq_true rfl) ⟨by show 123 + 1 ≤ 188; omega, by show 982 + 6 ≤ 1378; omega⟩ dL_isGraph_27 (fun X hX => by cases hX) (fun v hv => ?_)
    cases hv
    show Z K 124 988 30 [(6, .int x4), (5, .int 0), (4, .int x1), (0, .ref (eA (kZ K) a0)), (1, .int a1), (2, .long a2)] [.long x11] s12
    refine Z_lload_n hk 5 dL_isGraph_30 rfl rfl ?_
    refine Z_iload hk 0 dL_isGraph_31 rfl ?_
    obtain ⟨x14, s15, h16, h⟩ := bd_ok h
    refine ZX_callT 2 hk [.long a2, .int x4] (c_L_put hk.loc hk.inj hfl F w hw a2 x4 s12 h16) gL_isGraph_L_put rfl ⟨by decide +kernel, by decide +kernel, by decide +kernel⟩ ⟨Nat.le_of_ble_eq_true rfl, Nat.le_of_ble_eq_true rfl⟩ rfl rfl (Nat.le_of_ble_eq_true rfl) ⟨by show 124 + 1 ≤ 188; omega, by show 988 + 8 ≤ 1378; omega⟩ dL_isGraph_33 (fun X hX => by cases hX) (fun v hv => ?_)
    cases hv
    show Z K 125 996 36 [(6, .int x4), (5, .int 0), (4, .int x1), (0, .ref (eA (kZ K) a0)), (1, .int a1), (2, .long a2)] [.long x14, .long x11] s15
    refine Z_lcmp hk dL_isGraph_36 ?_
    refine Z_if_ne hk (tgt := 44) dL_isGraph_37 (by decide) (fun c17 => ?_) (fun c17 => ?_)
    · have h := if_yes h c17
      refine Z_iconst hk dL_isGraph_40 zc_iconst_1 ?_
      refine Z_goto hk (tgt := 45) dL_isGraph_41 (by decide) ?_
      refine Z_sub [3, 4, 5, 2, 1, 0] rfl ?_
      exact w_L_isGraph_45 hk hfl hnx hq hw 125 996 (by omega) (by omega) F a0 a1 a2 x1 0 x4 1 ha0 s15 h
    · have h := if_no h c17
      refine Z_sub [3, 4, 5, 2, 1, 0] rfl ?_
      exact w_L_isGraph_44 hk hfl hnx hq hw 125 996 (by omega) (by omega) F a0 a1 a2 x1 0 x4 ha0 s15 h
  · have h := if_no h c10
    refine Z_sub [3, 4, 5, 2, 1, 0] rfl ?_
    exact w_L_isGraph_44 hk hfl hnx hq hw 123 982 (by omega) (by omega) F a0 a1 a2 x1 0 x4 ha0 s8 h
theorem c_L_isGraph {l : Launch} {E : zE} (hL : eL E) (hJ : eJ E) (hfl : l.stackTraces = false) (F w : Nat) (hw : eN E = w) (a0 : Nat) (a1 : Int32) (a2 : Int64) (ha0 : atCanonCote E a0) (σ : zST) {r0 : Int32} {τ0 : zST} (h : m_L_isGraph F w a0 a1 a2 σ = some (r0, τ0)) : CtX l yL_isGraph wsL_isGraph r_L_isGraph E [.ref (eA E a0), .int a1, .long a2] σ (.inr (some (.int r0))) τ0 := by
  refine CtX_of (by decide) rfl hL hJ (Nat.le_of_ble_eq_true rfl) (fun K hE hl hk hnx hq => ?_)
  subst hE
  subst hl
  exact w_L_isGraph hk hfl hnx (zQG.of hq) hw F a0 a1 a2 ha0 σ h
end
