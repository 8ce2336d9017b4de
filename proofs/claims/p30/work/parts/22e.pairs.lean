-- CanonCoteLaw.arePairs (LCanonCote;[JII)Z
section
theorem dL_arePairs_0 : decode cL_arePairs 0 = .ok (.aload_n 1, 1) := by decide +kernel
theorem dL_arePairs_1 : decode cL_arePairs 1 = .ok (.iload_n 2, 1) := by decide +kernel
theorem dL_arePairs_2 : decode cL_arePairs 2 = .ok (.laload, 1) := by decide +kernel
theorem dL_arePairs_3 : decode cL_arePairs 3 = .ok (.aload_n 1, 1) := by decide +kernel
theorem dL_arePairs_4 : decode cL_arePairs 4 = .ok (.iload_n 3, 1) := by decide +kernel
theorem dL_arePairs_5 : decode cL_arePairs 5 = .ok (.laload, 1) := by decide +kernel
theorem dL_arePairs_6 : decode cL_arePairs 6 = .ok (.invokestatic 94, 3) := by decide +kernel
theorem dL_arePairs_9 : decode cL_arePairs 9 = .ok (.istore 4, 2) := by decide +kernel
theorem dL_arePairs_11 : decode cL_arePairs 11 = .ok (.aload_n 0, 1) := by decide +kernel
theorem dL_arePairs_12 : decode cL_arePairs 12 = .ok (.iload_n 2, 1) := by decide +kernel
theorem dL_arePairs_13 : decode cL_arePairs 13 = .ok (.iload_n 3, 1) := by decide +kernel
theorem dL_arePairs_14 : decode cL_arePairs 14 = .ok (.invokevirtual 98, 3) := by decide +kernel
theorem dL_arePairs_17 : decode cL_arePairs 17 = .ok (.iload 4, 2) := by decide +kernel
theorem dL_arePairs_19 : decode cL_arePairs 19 = .ok (.ifCond .lt 7, 3) := by decide +kernel
theorem dL_arePairs_22 : decode cL_arePairs 22 = .ok (.iconst 1, 1) := by decide +kernel
theorem dL_arePairs_23 : decode cL_arePairs 23 = .ok (.goto 4, 3) := by decide +kernel
theorem dL_arePairs_26 : decode cL_arePairs 26 = .ok (.iconst 0, 1) := by decide +kernel
theorem dL_arePairs_27 : decode cL_arePairs 27 = .ok (.if_icmp .ne 7, 3) := by decide +kernel
theorem dL_arePairs_30 : decode cL_arePairs 30 = .ok (.iconst 1, 1) := by decide +kernel
theorem dL_arePairs_31 : decode cL_arePairs 31 = .ok (.goto 4, 3) := by decide +kernel
theorem dL_arePairs_34 : decode cL_arePairs 34 = .ok (.iconst 0, 1) := by decide +kernel
theorem dL_arePairs_35 : decode cL_arePairs 35 = .ok (.istore 5, 2) := by decide +kernel
theorem dL_arePairs_37 : decode cL_arePairs 37 = .ok (.iconst 0, 1) := by decide +kernel
theorem dL_arePairs_38 : decode cL_arePairs 38 = .ok (.istore 6, 2) := by decide +kernel
theorem dL_arePairs_40 : decode cL_arePairs 40 = .ok (.iload 6, 2) := by decide +kernel
theorem dL_arePairs_42 : decode cL_arePairs 42 = .ok (.aload_n 1, 1) := by decide +kernel
theorem dL_arePairs_43 : decode cL_arePairs 43 = .ok (.iload_n 2, 1) := by decide +kernel
theorem dL_arePairs_44 : decode cL_arePairs 44 = .ok (.laload, 1) := by decide +kernel
theorem dL_arePairs_45 : decode cL_arePairs 45 = .ok (.invokestatic 23, 3) := by decide +kernel
theorem dL_arePairs_48 : decode cL_arePairs 48 = .ok (.if_icmp .ge 54, 3) := by decide +kernel
theorem dL_arePairs_51 : decode cL_arePairs 51 = .ok (.iload 5, 2) := by decide +kernel
theorem dL_arePairs_53 : decode cL_arePairs 53 = .ok (.ifCond .eq 49, 3) := by decide +kernel
theorem dL_arePairs_56 : decode cL_arePairs 56 = .ok (.aload_n 0, 1) := by decide +kernel
theorem dL_arePairs_57 : decode cL_arePairs 57 = .ok (.iload_n 2, 1) := by decide +kernel
theorem dL_arePairs_58 : decode cL_arePairs 58 = .ok (.iload_n 3, 1) := by decide +kernel
theorem dL_arePairs_59 : decode cL_arePairs 59 = .ok (.iload 6, 2) := by decide +kernel
theorem dL_arePairs_61 : decode cL_arePairs 61 = .ok (.invokevirtual 102, 3) := by decide +kernel
theorem dL_arePairs_64 : decode cL_arePairs 64 = .ok (.iload 4, 2) := by decide +kernel
theorem dL_arePairs_66 : decode cL_arePairs 66 = .ok (.ifCond .ge 7, 3) := by decide +kernel
theorem dL_arePairs_69 : decode cL_arePairs 69 = .ok (.iconst (-1), 1) := by decide +kernel
theorem dL_arePairs_70 : decode cL_arePairs 70 = .ok (.goto 16, 3) := by decide +kernel
theorem dL_arePairs_73 : decode cL_arePairs 73 = .ok (.aload_n 1, 1) := by decide +kernel
theorem dL_arePairs_74 : decode cL_arePairs 74 = .ok (.iload_n 2, 1) := by decide +kernel
theorem dL_arePairs_75 : decode cL_arePairs 75 = .ok (.laload, 1) := by decide +kernel
theorem dL_arePairs_76 : decode cL_arePairs 76 = .ok (.invokestatic 23, 3) := by decide +kernel
theorem dL_arePairs_79 : decode cL_arePairs 79 = .ok (.iload 4, 2) := by decide +kernel
theorem dL_arePairs_81 : decode cL_arePairs 81 = .ok (.iload 6, 2) := by decide +kernel
theorem dL_arePairs_83 : decode cL_arePairs 83 = .ok (.invokestatic 27, 3) := by decide +kernel
theorem dL_arePairs_86 : decode cL_arePairs 86 = .ok (.if_icmp .ne 7, 3) := by decide +kernel
theorem dL_arePairs_89 : decode cL_arePairs 89 = .ok (.iconst 1, 1) := by decide +kernel
theorem dL_arePairs_90 : decode cL_arePairs 90 = .ok (.goto 4, 3) := by decide +kernel
theorem dL_arePairs_93 : decode cL_arePairs 93 = .ok (.iconst 0, 1) := by decide +kernel
theorem dL_arePairs_94 : decode cL_arePairs 94 = .ok (.istore 5, 2) := by decide +kernel
theorem dL_arePairs_96 : decode cL_arePairs 96 = .ok (.iinc 6 1, 3) := by decide +kernel
theorem dL_arePairs_99 : decode cL_arePairs 99 = .ok (.goto (-59), 3) := by decide +kernel
theorem dL_arePairs_102 : decode cL_arePairs 102 = .ok (.iconst 0, 1) := by decide +kernel
theorem dL_arePairs_103 : decode cL_arePairs 103 = .ok (.istore 6, 2) := by decide +kernel
theorem dL_arePairs_105 : decode cL_arePairs 105 = .ok (.iconst 0, 1) := by decide +kernel
theorem dL_arePairs_106 : decode cL_arePairs 106 = .ok (.istore 7, 2) := by decide +kernel
theorem dL_arePairs_108 : decode cL_arePairs 108 = .ok (.iload 7, 2) := by decide +kernel
theorem dL_arePairs_110 : decode cL_arePairs 110 = .ok (.iconst 1, 1) := by decide +kernel
theorem dL_arePairs_111 : decode cL_arePairs 111 = .ok (.aload_n 1, 1) := by decide +kernel
theorem dL_arePairs_112 : decode cL_arePairs 112 = .ok (.iload_n 3, 1) := by decide +kernel
theorem dL_arePairs_113 : decode cL_arePairs 113 = .ok (.laload, 1) := by decide +kernel
theorem dL_arePairs_114 : decode cL_arePairs 114 = .ok (.invokestatic 23, 3) := by decide +kernel
theorem dL_arePairs_117 : decode cL_arePairs 117 = .ok (.ishl, 1) := by decide +kernel
theorem dL_arePairs_118 : decode cL_arePairs 118 = .ok (.if_icmp .ge 54, 3) := by decide +kernel
theorem dL_arePairs_121 : decode cL_arePairs 121 = .ok (.aload_n 1, 1) := by decide +kernel
theorem dL_arePairs_122 : decode cL_arePairs 122 = .ok (.iload_n 3, 1) := by decide +kernel
theorem dL_arePairs_123 : decode cL_arePairs 123 = .ok (.laload, 1) := by decide +kernel
theorem dL_arePairs_124 : decode cL_arePairs 124 = .ok (.iload 7, 2) := by decide +kernel
theorem dL_arePairs_126 : decode cL_arePairs 126 = .ok (.invokestatic 103, 3) := by decide +kernel
theorem dL_arePairs_129 : decode cL_arePairs 129 = .ok (.lstore 8, 2) := by decide +kernel
theorem dL_arePairs_131 : decode cL_arePairs 131 = .ok (.iload 6, 2) := by decide +kernel
theorem dL_arePairs_133 : decode cL_arePairs 133 = .ok (.lload 8, 2) := by decide +kernel
theorem dL_arePairs_135 : decode cL_arePairs 135 = .ok (.invokestatic 23, 3) := by decide +kernel
theorem dL_arePairs_138 : decode cL_arePairs 138 = .ok (.aload_n 1, 1) := by decide +kernel
theorem dL_arePairs_139 : decode cL_arePairs 139 = .ok (.iload_n 2, 1) := by decide +kernel
theorem dL_arePairs_140 : decode cL_arePairs 140 = .ok (.laload, 1) := by decide +kernel
theorem dL_arePairs_141 : decode cL_arePairs 141 = .ok (.invokestatic 23, 3) := by decide +kernel
theorem dL_arePairs_144 : decode cL_arePairs 144 = .ok (.if_icmp .ne 18, 3) := by decide +kernel
theorem dL_arePairs_147 : decode cL_arePairs 147 = .ok (.lload 8, 2) := by decide +kernel
theorem dL_arePairs_149 : decode cL_arePairs 149 = .ok (.aload_n 1, 1) := by decide +kernel
theorem dL_arePairs_150 : decode cL_arePairs 150 = .ok (.iload_n 2, 1) := by decide +kernel
theorem dL_arePairs_151 : decode cL_arePairs 151 = .ok (.laload, 1) := by decide +kernel
theorem dL_arePairs_152 : decode cL_arePairs 152 = .ok (.invokestatic 94, 3) := by decide +kernel
theorem dL_arePairs_155 : decode cL_arePairs 155 = .ok (.ifCond .lt 7, 3) := by decide +kernel
theorem dL_arePairs_158 : decode cL_arePairs 158 = .ok (.iconst 1, 1) := by decide +kernel
theorem dL_arePairs_159 : decode cL_arePairs 159 = .ok (.goto 4, 3) := by decide +kernel
theorem dL_arePairs_162 : decode cL_arePairs 162 = .ok (.iconst 0, 1) := by decide +kernel
theorem dL_arePairs_163 : decode cL_arePairs 163 = .ok (.iadd, 1) := by decide +kernel
theorem dL_arePairs_164 : decode cL_arePairs 164 = .ok (.istore 6, 2) := by decide +kernel
theorem dL_arePairs_166 : decode cL_arePairs 166 = .ok (.iinc 7 1, 3) := by decide +kernel
theorem dL_arePairs_169 : decode cL_arePairs 169 = .ok (.goto (-61), 3) := by decide +kernel
theorem dL_arePairs_172 : decode cL_arePairs 172 = .ok (.iload 5, 2) := by decide +kernel
theorem dL_arePairs_174 : decode cL_arePairs 174 = .ok (.ifCond .eq 18, 3) := by decide +kernel
theorem dL_arePairs_177 : decode cL_arePairs 177 = .ok (.aload_n 0, 1) := by decide +kernel
theorem dL_arePairs_178 : decode cL_arePairs 178 = .ok (.iload_n 2, 1) := by decide +kernel
theorem dL_arePairs_179 : decode cL_arePairs 179 = .ok (.iload_n 3, 1) := by decide +kernel
theorem dL_arePairs_180 : decode cL_arePairs 180 = .ok (.invokevirtual 106, 3) := by decide +kernel
theorem dL_arePairs_183 : decode cL_arePairs 183 = .ok (.iload 6, 2) := by decide +kernel
theorem dL_arePairs_185 : decode cL_arePairs 185 = .ok (.if_icmp .ne 7, 3) := by decide +kernel
theorem dL_arePairs_188 : decode cL_arePairs 188 = .ok (.iconst 1, 1) := by decide +kernel
theorem dL_arePairs_189 : decode cL_arePairs 189 = .ok (.goto 4, 3) := by decide +kernel
theorem dL_arePairs_192 : decode cL_arePairs 192 = .ok (.iconst 0, 1) := by decide +kernel
theorem dL_arePairs_193 : decode cL_arePairs 193 = .ok (.ireturn, 1) := by decide +kernel
set_option maxRecDepth 20000 in
theorem ggL_arePairs_L_first : GoodIn wsL_arePairs wsL_first := goodIn_r _ [4, 5, 6, 7, 3, 8, 9, 10, 11, 12, 13, 14, 15, 16, 17, 18, 19, 20, 21, 22, 23, 24, 25, 26, 27, 28, 29, 30, 31, 32] (by decide +kernel) (by decide +kernel)
set_option maxRecDepth 20000 in
theorem gL_arePairs_L_first : GoodIn wsL_arePairs (va_wsS RL 94 yL_first wsL_first) := goodIn_app (goodIn_of _ (by decide +kernel)) ggL_arePairs_L_first
set_option maxRecDepth 20000 in
theorem ggL_arePairs_X7_areAlike : GoodIn wsL_arePairs wsX7_areAlike := goodIn_ca (goodIn_r _ [37, 38, 39, 40, 36, 41, 42, 43, 44, 45, 46, 47, 48, 49, 50, 51, 52, 53, 54, 55, 56, 57, 58, 59, 60, 61, 62, 63, 64, 65, 66, 67, 68, 69, 70, 71, 72, 73, 74, 75, 76, 77, 78, 79, 80, 81, 82, 83, 84, 85, 86, 87, 88, 89, 90, 91, 92, 93, 94, 95, 96, 97, 98, 99, 100, 101, 102, 103, 104, 105, 106, 107, 108, 109, 110, 111, 112, 113, 114, 115, 116, 117, 118, 119, 190, 191, 192, 193, 194, 195, 196, 197, 198, 199, 200, 201, 202, 203, 204, 205] (by decide +kernel) (by decide +kernel)) (goodIn_sub (fun _ h => List.mem_cons_of_mem _ (List.mem_append_right _ h)) (by decide +kernel))
set_option maxRecDepth 20000 in
theorem gL_arePairs_X7_areAlike : GoodIn wsL_arePairs (wsV RL 98 RX7 yX7_areAlike wsX7_areAlike) := goodIn_app (goodIn_of _ (by decide +kernel)) ggL_arePairs_X7_areAlike
set_option maxRecDepth 20000 in
theorem ggL_arePairs_L_size : GoodIn wsL_arePairs wsL_size := goodIn_r _ [8] (by decide +kernel) (by decide +kernel)
set_option maxRecDepth 20000 in
theorem gL_arePairs_L_size : GoodIn wsL_arePairs (va_wsS RL 23 yL_size wsL_size) := goodIn_app (goodIn_of _ (by decide +kernel)) ggL_arePairs_L_size
set_option maxRecDepth 20000 in
theorem ggL_arePairs_X7_image : GoodIn wsL_arePairs wsX7_image := goodIn_ca (goodIn_r _ [123, 124, 38, 39, 40, 36, 41, 42, 43, 44, 125, 126, 127, 45, 46, 47, 48, 49, 50, 51, 52, 53, 54, 55, 56, 57, 58, 59, 60, 61, 62, 63, 64, 65, 66, 67, 68, 69, 70, 71, 72, 73, 74, 75, 76, 77, 78, 79, 80, 81, 82, 83, 84, 85, 86, 87, 88, 89, 90, 91, 92, 93, 94, 95, 96, 97, 98, 99, 100, 101, 102, 103, 104, 105, 106, 107, 108, 109, 110, 111, 112, 113, 114, 115, 116, 117, 118, 119, 128, 129, 130, 131, 132, 133, 134, 135, 136, 137, 138, 139, 140, 141, 142, 143, 144, 145, 146, 147, 148, 149, 150, 151, 152, 153, 154, 155, 156, 157, 158, 159, 160, 161, 162, 163, 164, 165, 166, 167, 168, 169, 190, 191, 192, 193, 194, 195, 206, 207, 208, 203, 204, 205, 196, 197, 198, 199, 200, 201, 202, 209, 210, 211, 212, 213] (by decide +kernel) (by decide +kernel)) (goodIn_sub (fun _ h => List.mem_cons_of_mem _ (List.mem_append_right _ h)) (by decide +kernel))
set_option maxRecDepth 20000 in
theorem gL_arePairs_X7_image : GoodIn wsL_arePairs (wsV RL 102 RX7 yX7_image wsX7_image) := goodIn_app (goodIn_of _ (by decide +kernel)) ggL_arePairs_X7_image
set_option maxRecDepth 20000 in
theorem ggL_arePairs_L_image : GoodIn wsL_arePairs wsL_image := goodIn_r _ [18, 9, 10, 3, 11] (by decide +kernel) (by decide +kernel)
set_option maxRecDepth 20000 in
theorem gL_arePairs_L_image : GoodIn wsL_arePairs (va_wsS RL 27 yL_image wsL_image) := goodIn_app (goodIn_of _ (by decide +kernel)) ggL_arePairs_L_image
set_option maxRecDepth 20000 in
theorem ggL_arePairs_L_part : GoodIn wsL_arePairs wsL_part := goodIn_r _ [172, 6, 7, 3, 8, 19, 20, 21, 22, 23, 24, 25, 26, 27, 28, 29, 30, 31, 32] (by decide +kernel) (by decide +kernel)
set_option maxRecDepth 20000 in
theorem gL_arePairs_L_part : GoodIn wsL_arePairs (va_wsS RL 103 yL_part wsL_part) := goodIn_app (goodIn_of _ (by decide +kernel)) ggL_arePairs_L_part
set_option maxRecDepth 20000 in
theorem ggL_arePairs_X7_copies : GoodIn wsL_arePairs wsX7_copies := goodIn_ca (goodIn_r _ [176, 177, 38, 39, 40, 36, 41, 42, 43, 44, 49, 50, 51, 52, 53, 54, 55, 56, 57, 58, 59, 60, 61, 62, 63, 64, 65, 66, 67, 68, 69, 70, 71, 72, 73, 74, 75, 76, 77, 78, 79, 80, 81, 82, 83, 84, 85, 86, 87, 88, 89, 90, 91, 92, 93, 94, 95, 96, 97, 98, 99, 100, 101, 102, 103, 104, 105, 106, 107, 108, 109, 110, 111, 112, 113, 114, 115, 116, 117, 118, 119, 178, 179, 180, 181, 182, 153, 154, 183, 184, 185, 186, 187, 188, 189, 203, 204, 205, 190, 191, 192, 193, 194, 195, 196, 197, 198, 199, 200, 201, 202] (by decide +kernel) (by decide +kernel)) (goodIn_sub (fun _ h => List.mem_cons_of_mem _ (List.mem_append_right _ h)) (by decide +kernel))
set_option maxRecDepth 20000 in
theorem gL_arePairs_X7_copies : GoodIn wsL_arePairs (wsV RL 106 RX7 yX7_copies wsX7_copies) := goodIn_app (goodIn_of _ (by decide +kernel)) ggL_arePairs_X7_copies
def r_L_arePairs : Room := { frames := 17, cells := 4451, slots := 35562, locals := 421 }
set_option maxRecDepth 100000 in
set_option maxHeartbeats 4000000 in
theorem w_L_arePairs_94 {K : zK} {w : Nat} (hk : zIs K RL cL_arePairs 10 wsL_arePairs (some .boolean) r_L_arePairs) (hfl : (kL K).stackTraces = false) (hnx : zNX K) {r0 : Int32} {τ0 : zST} (hq : zQG K (.inr (some (.int r0))) τ0) (hw : eN (kZ K) = w) (cs ss : Nat) (C S : Nat) (hr1 : cs + 0 ≤ C) (hr2 : ss + 0 ≤ S) (hb1 : cs + 0 ≤ 4451) (hb2 : ss + 0 ≤ 35562) (F : Nat) (k40 : Nat → Nat → Int32 → Int32 → Int32 → Int32 → Int32 → zST → Option (Int32 × zST)) (hk40 : ∀ (a0 : Nat) (a1 : Nat) (a2 : Int32) (a3 : Int32) (a4 : Int32) (a5 : Int32) (a6 : Int32) (ha0 : atCanonCote (kZ K) a0) (ha1 : aJ (kZ K) a1 4) (σ : zST), k40 a0 a1 a2 a3 a4 a5 a6 σ = some (r0, τ0) → Z K C S 40 [(0, .ref (eA (kZ K) a0)), (1, .ref (eA (kZ K) a1)), (2, .int a2), (3, .int a3), (4, .int a4), (5, .int a5), (6, .int a6)] [] σ) (a0 : Nat) (a1 : Nat) (a2 : Int32) (a3 : Int32) (a4 : Int32) (a6 : Int32) (t0 : Int32) (ha0 : atCanonCote (kZ K) a0) (ha1 : aJ (kZ K) a1 4) (σ : zST) (h : m_L_arePairs_94 F w k40 a0 a1 a2 a3 a4 a6 t0 σ = some (r0, τ0)) : Z K cs ss 94 [(0, .ref (eA (kZ K) a0)), (1, .ref (eA (kZ K) a1)), (2, .int a2), (3, .int a3), (4, .int a4), (6, .int a6)] [.int t0] σ := by
  unfold m_L_arePairs_94 at h
  refine Z_istore hk (lv' := [(5, .int t0), (0, .ref (eA (kZ K) a0)), (1, .ref (eA (kZ K) a1)), (2, .int a2), (3, .int a3), (4, .int a4), (6, .int a6)]) dL_arePairs_94 (by decide) rfl ?_
  obtain ⟨x72, e73, h⟩ := nm_get h
  refine Z_iinc hk 6 (v := x72) (lv' := [(6, .int x72), (5, .int t0), (0, .ref (eA (kZ K) a0)), (1, .ref (eA (kZ K) a1)), (2, .int a2), (3, .int a3), (4, .int a4)]) dL_arePairs_96 rfl (by rw [zc_iinc_1]; exact e73) (by decide) rfl ?_
  refine Z_goto hk (tgt := 40) dL_arePairs_99 (by decide) ?_
  refine Z_sub [2, 3, 4, 5, 6, 1, 0] rfl ?_
  refine Z_widen (cs' := C) (ss' := S) (by omega) (by omega) ?_
  exact hk40 a0 a1 a2 a3 a4 t0 x72 ha0 ha1 σ h
set_option maxRecDepth 100000 in
set_option maxHeartbeats 4000000 in
theorem w_L_arePairs_86 {K : zK} {w : Nat} (hk : zIs K RL cL_arePairs 10 wsL_arePairs (some .boolean) r_L_arePairs) (hfl : (kL K).stackTraces = false) (hnx : zNX K) {r0 : Int32} {τ0 : zST} (hq : zQG K (.inr (some (.int r0))) τ0) (hw : eN (kZ K) = w) (cs ss : Nat) (C S : Nat) (hr1 : cs + 0 ≤ C) (hr2 : ss + 0 ≤ S) (hb1 : cs + 0 ≤ 4451) (hb2 : ss + 0 ≤ 35562) (F : Nat) (k40 : Nat → Nat → Int32 → Int32 → Int32 → Int32 → Int32 → zST → Option (Int32 × zST)) (hk40 : ∀ (a0 : Nat) (a1 : Nat) (a2 : Int32) (a3 : Int32) (a4 : Int32) (a5 : Int32) (a6 : Int32) (ha0 : atCanonCote (kZ K) a0) (ha1 : aJ (kZ K) a1 4) (σ : zST), k40 a0 a1 a2 a3 a4 a5 a6 σ = some (r0, τ0) → Z K C S 40 [(0, .ref (eA (kZ K) a0)), (1, .ref (eA (kZ K) a1)), (2, .int a2), (3, .int a3), (4, .int a4), (5, .int a5), (6, .int a6)] [] σ) (a0 : Nat) (a1 : Nat) (a2 : Int32) (a3 : Int32) (a4 : Int32) (a6 : Int32) (t0 : Int32) (t1 : Int32) (ha0 : atCanonCote (kZ K) a0) (ha1 : aJ (kZ K) a1 4) (σ : zST) (h : m_L_arePairs_86 F w k40 a0 a1 a2 a3 a4 a6 t0 t1 σ = some (r0, τ0)) : Z K cs ss 86 [(0, .ref (eA (kZ K) a0)), (1, .ref (eA (kZ K) a1)), (2, .int a2), (3, .int a3), (4, .int a4), (6, .int a6)] [.int t0, .int t1] σ := by
  unfold m_L_arePairs_86 at h
  refine Z_icmp_ne hk (tgt := 93) dL_arePairs_86 (by decide) (fun c36 => ?_) (fun c36 => ?_)
  · have h := if_yes h c36
    refine Z_iconst hk dL_arePairs_89 zc_iconst_1 ?_
    refine Z_goto hk (tgt := 94) dL_arePairs_90 (by decide) ?_
    refine Z_sub [0, 1, 2, 3, 4, 5] rfl ?_
    exact w_L_arePairs_94 hk hfl hnx hq hw cs ss C S (by omega) (by omega) (by omega) (by omega) F k40 hk40 a0 a1 a2 a3 a4 a6 1 ha0 ha1 σ h
  · have h := if_no h c36
    refine Z_iconst hk dL_arePairs_93 zc_iconst_0 ?_
    refine Z_sub [0, 1, 2, 3, 4, 5] rfl ?_
    exact w_L_arePairs_94 hk hfl hnx hq hw cs ss C S (by omega) (by omega) (by omega) (by omega) F k40 hk40 a0 a1 a2 a3 a4 a6 0 ha0 ha1 σ h
set_option maxRecDepth 100000 in
set_option maxHeartbeats 4000000 in
theorem w_L_arePairs_163 {K : zK} {w : Nat} (hk : zIs K RL cL_arePairs 10 wsL_arePairs (some .boolean) r_L_arePairs) (hfl : (kL K).stackTraces = false) (hnx : zNX K) {r0 : Int32} {τ0 : zST} (hq : zQG K (.inr (some (.int r0))) τ0) (hw : eN (kZ K) = w) (cs ss : Nat) (C S : Nat) (hr1 : cs + 0 ≤ C) (hr2 : ss + 0 ≤ S) (hb1 : cs + 0 ≤ 4451) (hb2 : ss + 0 ≤ 35562) (F : Nat) (k108 : Nat → Nat → Int32 → Int32 → Int32 → Int32 → Int32 → zST → Option (Int32 × zST)) (hk108 : ∀ (a0 : Nat) (a1 : Nat) (a2 : Int32) (a3 : Int32) (a5 : Int32) (a6 : Int32) (a7 : Int32) (ha0 : atCanonCote (kZ K) a0) (ha1 : aJ (kZ K) a1 4) (σ : zST), k108 a0 a1 a2 a3 a5 a6 a7 σ = some (r0, τ0) → Z K C S 108 [(0, .ref (eA (kZ K) a0)), (1, .ref (eA (kZ K) a1)), (2, .int a2), (3, .int a3), (5, .int a5), (6, .int a6), (7, .int a7)] [] σ) (a0 : Nat) (a1 : Nat) (a2 : Int32) (a3 : Int32) (a5 : Int32) (a7 : Int32) (t0 : Int32) (t1 : Int32) (ha0 : atCanonCote (kZ K) a0) (ha1 : aJ (kZ K) a1 4) (σ : zST) (h : m_L_arePairs_163 F w k108 a0 a1 a2 a3 a5 a7 t0 t1 σ = some (r0, τ0)) : Z K cs ss 163 [(0, .ref (eA (kZ K) a0)), (1, .ref (eA (kZ K) a1)), (2, .int a2), (3, .int a3), (5, .int a5), (7, .int a7)] [.int t0, .int t1] σ := by
  unfold m_L_arePairs_163 at h
  refine Z_iadd hk dL_arePairs_163 ?_
  obtain ⟨x74, e75, h⟩ := nm_get h
  refine Z_eqI e75 ?_
  refine Z_istore hk (lv' := [(6, .int x74), (0, .ref (eA (kZ K) a0)), (1, .ref (eA (kZ K) a1)), (2, .int a2), (3, .int a3), (5, .int a5), (7, .int a7)]) dL_arePairs_164 (by decide) rfl ?_
  obtain ⟨x76, e77, h⟩ := nm_get h
  refine Z_iinc hk 6 (v := x76) (lv' := [(7, .int x76), (6, .int x74), (0, .ref (eA (kZ K) a0)), (1, .ref (eA (kZ K) a1)), (2, .int a2), (3, .int a3), (5, .int a5)]) dL_arePairs_166 rfl (by rw [zc_iinc_1]; exact e77) (by decide) rfl ?_
  refine Z_goto hk (tgt := 108) dL_arePairs_169 (by decide) ?_
  refine Z_sub [2, 3, 4, 5, 6, 1, 0] rfl ?_
  refine Z_widen (cs' := C) (ss' := S) (by omega) (by omega) ?_
  exact hk108 a0 a1 a2 a3 a5 x74 x76 ha0 ha1 σ h
set_option maxRecDepth 100000 in
set_option maxHeartbeats 4000000 in
theorem w_L_arePairs_162 {K : zK} {w : Nat} (hk : zIs K RL cL_arePairs 10 wsL_arePairs (some .boolean) r_L_arePairs) (hfl : (kL K).stackTraces = false) (hnx : zNX K) {r0 : Int32} {τ0 : zST} (hq : zQG K (.inr (some (.int r0))) τ0) (hw : eN (kZ K) = w) (cs ss : Nat) (C S : Nat) (hr1 : cs + 0 ≤ C) (hr2 : ss + 0 ≤ S) (hb1 : cs + 0 ≤ 4451) (hb2 : ss + 0 ≤ 35562) (F : Nat) (k108 : Nat → Nat → Int32 → Int32 → Int32 → Int32 → Int32 → zST → Option (Int32 × zST)) (hk108 : ∀ (a0 : Nat) (a1 : Nat) (a2 : Int32) (a3 : Int32) (a5 : Int32) (a6 : Int32) (a7 : Int32) (ha0 : atCanonCote (kZ K) a0) (ha1 : aJ (kZ K) a1 4) (σ : zST), k108 a0 a1 a2 a3 a5 a6 a7 σ = some (r0, τ0) → Z K C S 108 [(0, .ref (eA (kZ K) a0)), (1, .ref (eA (kZ K) a1)), (2, .int a2), (3, .int a3), (5, .int a5), (6, .int a6), (7, .int a7)] [] σ) (a0 : Nat) (a1 : Nat) (a2 : Int32) (a3 : Int32) (a5 : Int32) (a7 : Int32) (t0 : Int32) (ha0 : atCanonCote (kZ K) a0) (ha1 : aJ (kZ K) a1 4) (σ : zST) (h : m_L_arePairs_162 F w k108 a0 a1 a2 a3 a5 a7 t0 σ = some (r0, τ0)) : Z K cs ss 162 [(0, .ref (eA (kZ K) a0)), (1, .ref (eA (kZ K) a1)), (2, .int a2), (3, .int a3), (5, .int a5), (7, .int a7)] [.int t0] σ := by
  unfold m_L_arePairs_162 at h
  refine Z_iconst hk dL_arePairs_162 zc_iconst_0 ?_
  refine Z_sub [0, 1, 2, 3, 4, 5] rfl ?_
  exact w_L_arePairs_163 hk hfl hnx hq hw cs ss C S (by omega) (by omega) (by omega) (by omega) F k108 hk108 a0 a1 a2 a3 a5 a7 0 t0 ha0 ha1 σ h
set_option maxRecDepth 100000 in
set_option maxHeartbeats 4000000 in
theorem w_L_arePairs_192 {K : zK} {w : Nat} (hk : zIs K RL cL_arePairs 10 wsL_arePairs (some .boolean) r_L_arePairs) (hfl : (kL K).stackTraces = false) (hnx : zNX K) {r0 : Int32} {τ0 : zST} (hq : zQG K (.inr (some (.int r0))) τ0) (hw : eN (kZ K) = w) (cs ss : Nat) (hb1 : cs + 0 ≤ 4451) (hb2 : ss + 0 ≤ 35562) (F : Nat)  (σ : zST) (h : m_L_arePairs_192 F w σ = some (r0, τ0)) : Z K cs ss 192 [] [] σ := by
  unfold m_L_arePairs_192 at h
  refine Z_iconst hk dL_arePairs_192 zc_iconst_0 ?_
  cases h
  exact ZG_zret hk (by decide) hq ⟨by show cs + 0 ≤ 4451; omega, by show ss + 0 ≤ 35562; omega⟩ dL_arePairs_193
set_option maxRecDepth 100000 in
set_option maxHeartbeats 4000000 in
theorem w_L_arePairs_108 {K : zK} {w : Nat} (hk : zIs K RL cL_arePairs 10 wsL_arePairs (some .boolean) r_L_arePairs) (hfl : (kL K).stackTraces = false) (hnx : zNX K) {r0 : Int32} {τ0 : zST} (hq : zQG K (.inr (some (.int r0))) τ0) (hw : eN (kZ K) = w) (F : Nat) : ∀ (n : Nat) (cs ss : Nat) (hb1 : cs + 123 * n + 123 ≤ 4451) (hb2 : ss + 984 * n + 984 ≤ 35562) (a0 : Nat) (a1 : Nat) (a2 : Int32) (a3 : Int32) (a5 : Int32) (a6 : Int32) (a7 : Int32) (ha0 : atCanonCote (kZ K) a0) (ha1 : aJ (kZ K) a1 4) (σ : zST), m_L_arePairs_108 F w n a0 a1 a2 a3 a5 a6 a7 σ = some (r0, τ0) → Z K cs ss 108 [(0, .ref (eA (kZ K) a0)), (1, .ref (eA (kZ K) a1)), (2, .int a2), (3, .int a3), (5, .int a5), (6, .int a6), (7, .int a7)] [] σ := by
  intro n
  induction n with
  | zero => intro cs ss hb1 hb2 a0 a1 a2 a3 a5 a6 a7 ha0 ha1 σ h; cases h
  | succ n ih0 =>
    intro cs ss hb1 hb2 a0 a1 a2 a3 a5 a6 a7 ha0 ha1 σ h
    have ih := ih0 (cs + 123) (ss + 984) (by omega) (by omega)
    rw [m_L_arePairs_108] at h
    refine Z_iload hk 6 dL_arePairs_108 rfl ?_
    refine Z_iconst hk dL_arePairs_110 zc_iconst_1 ?_
    refine Z_aload_n hk 1 dL_arePairs_111 rfl rfl ?_
    refine Z_iload_n hk 3 dL_arePairs_112 rfl rfl ?_
    obtain ⟨i39, x37, e38, h⟩ := ldL_get h
    refine Z_lald hk ha1 i39 dL_arePairs_113 ?_
    refine Z_eqL e38 ?_
    obtain ⟨x40, s41, h42, h⟩ := bd_ok h
    refine Z_callT 1 hk [.long x37] (c_L_size hk.loc hk.inj F x37 σ h42) gL_arePairs_L_size rfl ⟨rfl, rfl⟩ (by decide +kernel) ⟨Nat.le_of_ble_eq_true rfl, Nat.le_of_ble_eq_true rfl⟩ rfl rfl (Nat.le_of_ble_eq_true rfl) ⟨by show cs + 0 ≤ 4451; omega, by show ss + 0 ≤ 35562; omega⟩ dL_arePairs_114 ?_
    show Z K cs ss 117 [(0, .ref (eA (kZ K) a0)), (1, .ref (eA (kZ K) a1)), (2, .int a2), (3, .int a3), (5, .int a5), (6, .int a6), (7, .int a7)] [.int x40, .int 1, .int a7] s41
    refine Z_ishl hk dL_arePairs_117 ?_
    refine Z_icmp_ge hk (tgt := 172) dL_arePairs_118 (by decide) (fun c43 => ?_) (fun c43 => ?_)
    · have h := if_yes h c43
      refine Z_iload hk 4 dL_arePairs_172 rfl ?_
      refine Z_if_eq hk (tgt := 192) dL_arePairs_174 (by decide) (fun c44 => ?_) (fun c44 => ?_)
      · have h := if_yes h c44
        refine Z_sub [] rfl ?_
        exact w_L_arePairs_192 hk hfl hnx hq hw cs ss (by omega) (by omega) F s41 h
      · have h := if_no h c44
        refine Z_aload_n hk 0 dL_arePairs_177 rfl rfl ?_
        refine Z_iload_n hk 2 dL_arePairs_178 rfl rfl ?_
        refine Z_iload_n hk 3 dL_arePairs_179 rfl rfl ?_
        obtain ⟨x45, s46, h47, h⟩ := br_ok h
        refine ZX_callV 2 hk [.int a2, .int a3] (c_X7_copies hk.loc hk.inj hfl F a0 a2 a3 ha0 s41 h47) gL_arePairs_X7_copies rfl ⟨rfl, by decide +kernel, by decide +kernel, by decide +kernel⟩ ⟨Nat.le_of_ble_eq_true rfl, Nat.le_of_ble_eq_true rfl⟩ ha0.cell.1 (ha0.cell.2 _) rfl rfl rfl (Nat.le_of_ble_eq_true rfl) ⟨by show cs + 2 ≤ 4451; omega, by show ss + 12 ≤ 35562; omega⟩ dL_arePairs_180 (fun X hX => by cases hX) (fun v hv => ?_)
        cases hv
        show Z K (cs + 2) (ss + 12) 183 [(0, .ref (eA (kZ K) a0)), (1, .ref (eA (kZ K) a1)), (2, .int a2), (3, .int a3), (5, .int a5), (6, .int a6), (7, .int a7)] [.int x45] s46
        refine Z_iload hk 5 dL_arePairs_183 rfl ?_
        refine Z_icmp_ne hk (tgt := 192) dL_arePairs_185 (by decide) (fun c48 => ?_) (fun c48 => ?_)
        · have h := if_yes h c48
          refine Z_iconst hk dL_arePairs_188 zc_iconst_1 ?_
          refine Z_goto hk (tgt := 193) dL_arePairs_189 (by decide) ?_
          cases h
          exact ZG_zret hk (by decide) hq ⟨by show (cs + 2) + 0 ≤ 4451; omega, by show (ss + 12) + 0 ≤ 35562; omega⟩ dL_arePairs_193
        · have h := if_no h c48
          refine Z_sub [] rfl ?_
          exact w_L_arePairs_192 hk hfl hnx hq hw (cs + 2) (ss + 12) (by omega) (by omega) F s46 h
    · have h := if_no h c43
      refine Z_aload_n hk 1 dL_arePairs_121 rfl rfl ?_
      refine Z_iload_n hk 3 dL_arePairs_122 rfl rfl ?_
      obtain ⟨i51, x49, e50, h⟩ := ldL_get h
      refine Z_lald hk ha1 i51 dL_arePairs_123 ?_
      refine Z_eqL e50 ?_
      refine Z_iload hk 6 dL_arePairs_124 rfl ?_
      obtain ⟨x52, s53, h54, h⟩ := bd_ok h
      refine Z_callT 2 hk [.long x49, .int a7] (c_L_part hk.loc hk.inj F x49 a7 s41 h54) gL_arePairs_L_part rfl ⟨rfl, rfl⟩ (by decide +kernel) ⟨Nat.le_of_ble_eq_true rfl, Nat.le_of_ble_eq_true rfl⟩ rfl rfl (Nat.le_of_ble_eq_true rfl) ⟨by show cs + 0 ≤ 4451; omega, by show ss + 0 ≤ 35562; omega⟩ dL_arePairs_126 ?_
      show Z K cs ss 129 [(0, .ref (eA (kZ K) a0)), (1, .ref (eA (kZ K) a1)), (2, .int a2), (3, .int a3), (5, .int a5), (6, .int a6), (7, .int a7)] [.long x52] s53
      refine Z_lstore hk (lv' := [(8, .long x52), (0, .ref (eA (kZ K) a0)), (1, .ref (eA (kZ K) a1)), (2, .int a2), (3, .int a3), (5, .int a5), (6, .int a6), (7, .int a7)]) dL_arePairs_129 (by decide) rfl ?_
      refine Z_iload hk 6 dL_arePairs_131 rfl ?_
      refine Z_lload hk 0 dL_arePairs_133 rfl ?_
      obtain ⟨x55, s56, h57, h⟩ := bd_ok h
      refine Z_callT 1 hk [.long x52] (c_L_size hk.loc hk.inj F x52 s53 h57) gL_arePairs_L_size rfl ⟨rfl, rfl⟩ (by decide +kernel) ⟨Nat.le_of_ble_eq_true rfl, Nat.le_of_ble_eq_true rfl⟩ rfl rfl (Nat.le_of_ble_eq_true rfl) ⟨by show cs + 0 ≤ 4451; omega, by show ss + 0 ≤ 35562; omega⟩ dL_arePairs_135 ?_
      show Z K cs ss 138 [(8, .long x52), (0, .ref (eA (kZ K) a0)), (1, .ref (eA (kZ K) a1)), (2, .int a2), (3, .int a3), (5, .int a5), (6, .int a6), (7, .int a7)] [.int x55, .int a6] s56
      refine Z_aload_n hk 2 dL_arePairs_138 rfl rfl ?_
      refine Z_iload_n hk 3 dL_arePairs_139 rfl rfl ?_
      obtain ⟨i60, x58, e59, h⟩ := ldL_get h
      refine Z_lald hk ha1 i60 dL_arePairs_140 ?_
      refine Z_eqL e59 ?_
      obtain ⟨x61, s62, h63, h⟩ := bd_ok h
      refine Z_callT 1 hk [.long x58] (c_L_size hk.loc hk.inj F x58 s56 h63) gL_arePairs_L_size rfl ⟨rfl, rfl⟩ (by decide +kernel) ⟨Nat.le_of_ble_eq_true rfl, Nat.le_of_ble_eq_true rfl⟩ rfl rfl (Nat.le_of_ble_eq_true rfl) ⟨by show cs + 0 ≤ 4451; omega, by show ss + 0 ≤ 35562; omega⟩ dL_arePairs_141 ?_
      show Z K cs ss 144 [(8, .long x52), (0, .ref (eA (kZ K) a0)), (1, .ref (eA (kZ K) a1)), (2, .int a2), (3, .int a3), (5, .int a5), (6, .int a6), (7, .int a7)] [.int x61, .int x55, .int a6] s62
      refine Z_icmp_ne hk (tgt := 162) dL_arePairs_144 (by decide) (fun c64 => ?_) (fun c64 => ?_)
      · have h := if_yes h c64
        refine Z_lload hk 0 dL_arePairs_147 rfl ?_
        refine Z_aload_n hk 2 dL_arePairs_149 rfl rfl ?_
        refine Z_iload_n hk 3 dL_arePairs_150 rfl rfl ?_
        obtain ⟨i67, x65, e66, h⟩ := ldL_get h
        refine Z_lald hk ha1 i67 dL_arePairs_151 ?_
        refine Z_eqL e66 ?_
        obtain ⟨x68, s69, h70, h⟩ := bd_ok h
        refine ZX_callT 2 hk [.long x52, .long x65] (c_L_first hk.loc hk.inj hfl F w hw x52 x65 s62 h70) gL_arePairs_L_first rfl ⟨by decide +kernel, by decide +kernel, by decide +kernel⟩ ⟨Nat.le_of_ble_eq_true rfl, Nat.le_of_ble_eq_true rfl⟩ rfl rfl (Nat.le_of_ble_eq_true rfl) ⟨by show cs + 123 ≤ 4451; omega, by show ss + 984 ≤ 35562; omega⟩ dL_arePairs_152 (fun X hX => by cases hX) (fun v hv => ?_)
        cases hv
        show Z K (cs + 123) (ss + 984) 155 [(8, .long x52), (0, .ref (eA (kZ K) a0)), (1, .ref (eA (kZ K) a1)), (2, .int a2), (3, .int a3), (5, .int a5), (6, .int a6), (7, .int a7)] [.int x68, .int a6] s69
        refine Z_if_lt hk (tgt := 162) dL_arePairs_155 (by decide) (fun c71 => ?_) (fun c71 => ?_)
        · have h := if_yes h c71
          refine Z_sub [1, 2, 3, 4, 5, 7] rfl ?_
          exact w_L_arePairs_162 hk hfl hnx hq hw (cs + 123) (ss + 984) (cs + 123) (ss + 984) (by omega) (by omega) (by omega) (by omega) F (m_L_arePairs_108 F w n) ih a0 a1 a2 a3 a5 a7 a6 ha0 ha1 s69 h
        · have h := if_no h c71
          refine Z_iconst hk dL_arePairs_158 zc_iconst_1 ?_
          refine Z_goto hk (tgt := 163) dL_arePairs_159 (by decide) ?_
          refine Z_sub [1, 2, 3, 4, 5, 7] rfl ?_
          exact w_L_arePairs_163 hk hfl hnx hq hw (cs + 123) (ss + 984) (cs + 123) (ss + 984) (by omega) (by omega) (by omega) (by omega) F (m_L_arePairs_108 F w n) ih a0 a1 a2 a3 a5 a7 1 a6 ha0 ha1 s69 h
      · have h := if_no h c64
        refine Z_sub [1, 2, 3, 4, 5, 7] rfl ?_
        exact w_L_arePairs_162 hk hfl hnx hq hw cs ss (cs + 123) (ss + 984) (by omega) (by omega) (by omega) (by omega) F (m_L_arePairs_108 F w n) ih a0 a1 a2 a3 a5 a7 a6 ha0 ha1 s62 h
set_option maxRecDepth 100000 in
set_option maxHeartbeats 4000000 in
theorem w_L_arePairs_102 {K : zK} {w : Nat} (hk : zIs K RL cL_arePairs 10 wsL_arePairs (some .boolean) r_L_arePairs) (hfl : (kL K).stackTraces = false) (hnx : zNX K) {r0 : Int32} {τ0 : zST} (hq : zQG K (.inr (some (.int r0))) τ0) (hw : eN (kZ K) = w) (cs ss : Nat) (hb1 : cs + 4305 ≤ 4451) (hb2 : ss + 34440 ≤ 35562) (F : Nat) (a0 : Nat) (a1 : Nat) (a2 : Int32) (a3 : Int32) (a5 : Int32) (ha0 : atCanonCote (kZ K) a0) (ha1 : aJ (kZ K) a1 4) (σ : zST) (h : m_L_arePairs_102 F w a0 a1 a2 a3 a5 σ = some (r0, τ0)) : Z K cs ss 102 [(0, .ref (eA (kZ K) a0)), (1, .ref (eA (kZ K) a1)), (2, .int a2), (3, .int a3), (5, .int a5)] [] σ := by
  unfold m_L_arePairs_102 at h
  refine Z_iconst hk dL_arePairs_102 zc_iconst_0 ?_
  refine Z_istore hk (lv' := [(6, .int 0), (0, .ref (eA (kZ K) a0)), (1, .ref (eA (kZ K) a1)), (2, .int a2), (3, .int a3), (5, .int a5)]) dL_arePairs_103 (by decide) rfl ?_
  refine Z_iconst hk dL_arePairs_105 zc_iconst_0 ?_
  refine Z_istore hk (lv' := [(7, .int 0), (6, .int 0), (0, .ref (eA (kZ K) a0)), (1, .ref (eA (kZ K) a1)), (2, .int a2), (3, .int a3), (5, .int a5)]) dL_arePairs_106 (by decide) rfl ?_
  refine Z_sub [2, 3, 4, 5, 6, 1, 0] rfl ?_
  exact w_L_arePairs_108 hk hfl hnx hq hw F 34 cs ss (by omega) (by omega) a0 a1 a2 a3 a5 0 0 ha0 ha1 σ h
set_option maxRecDepth 100000 in
set_option maxHeartbeats 4000000 in
theorem w_L_arePairs_40 {K : zK} {w : Nat} (hk : zIs K RL cL_arePairs 10 wsL_arePairs (some .boolean) r_L_arePairs) (hfl : (kL K).stackTraces = false) (hnx : zNX K) {r0 : Int32} {τ0 : zST} (hq : zQG K (.inr (some (.int r0))) τ0) (hw : eN (kZ K) = w) (F : Nat) : ∀ (n : Nat) (cs ss : Nat) (hb1 : cs + 3 * n + 4305 ≤ 4451) (hb2 : ss + 18 * n + 34440 ≤ 35562) (a0 : Nat) (a1 : Nat) (a2 : Int32) (a3 : Int32) (a4 : Int32) (a5 : Int32) (a6 : Int32) (ha0 : atCanonCote (kZ K) a0) (ha1 : aJ (kZ K) a1 4) (σ : zST), m_L_arePairs_40 F w n a0 a1 a2 a3 a4 a5 a6 σ = some (r0, τ0) → Z K cs ss 40 [(0, .ref (eA (kZ K) a0)), (1, .ref (eA (kZ K) a1)), (2, .int a2), (3, .int a3), (4, .int a4), (5, .int a5), (6, .int a6)] [] σ := by
  intro n
  induction n with
  | zero => intro cs ss hb1 hb2 a0 a1 a2 a3 a4 a5 a6 ha0 ha1 σ h; cases h
  | succ n ih0 =>
    intro cs ss hb1 hb2 a0 a1 a2 a3 a4 a5 a6 ha0 ha1 σ h
    have ih := ih0 (cs + 3) (ss + 18) (by omega) (by omega)
    rw [m_L_arePairs_40] at h
    refine Z_iload hk 6 dL_arePairs_40 rfl ?_
    refine Z_aload_n hk 1 dL_arePairs_42 rfl rfl ?_
    refine Z_iload_n hk 2 dL_arePairs_43 rfl rfl ?_
    obtain ⟨i17, x15, e16, h⟩ := ldL_get h
    refine Z_lald hk ha1 i17 dL_arePairs_44 ?_
    refine Z_eqL e16 ?_
    obtain ⟨x18, s19, h20, h⟩ := bd_ok h
    refine Z_callT 1 hk [.long x15] (c_L_size hk.loc hk.inj F x15 σ h20) gL_arePairs_L_size rfl ⟨rfl, rfl⟩ (by decide +kernel) ⟨Nat.le_of_ble_eq_true rfl, Nat.le_of_ble_eq_true rfl⟩ rfl rfl (Nat.le_of_ble_eq_true rfl) ⟨by show cs + 0 ≤ 4451; omega, by show ss + 0 ≤ 35562; omega⟩ dL_arePairs_45 ?_
    show Z K cs ss 48 [(0, .ref (eA (kZ K) a0)), (1, .ref (eA (kZ K) a1)), (2, .int a2), (3, .int a3), (4, .int a4), (5, .int a5), (6, .int a6)] [.int x18, .int a6] s19
    refine Z_icmp_ge hk (tgt := 102) dL_arePairs_48 (by decide) (fun c21 => ?_) (fun c21 => ?_)
    · have h := if_yes h c21
      refine Z_sub [0, 1, 2, 3, 5] rfl ?_
      exact w_L_arePairs_102 hk hfl hnx hq hw cs ss (by omega) (by omega) F a0 a1 a2 a3 a5 ha0 ha1 s19 h
    · have h := if_no h c21
      refine Z_iload hk 5 dL_arePairs_51 rfl ?_
      refine Z_if_eq hk (tgt := 102) dL_arePairs_53 (by decide) (fun c22 => ?_) (fun c22 => ?_)
      · have h := if_yes h c22
        refine Z_sub [0, 1, 2, 3, 5] rfl ?_
        exact w_L_arePairs_102 hk hfl hnx hq hw cs ss (by omega) (by omega) F a0 a1 a2 a3 a5 ha0 ha1 s19 h
      · have h := if_no h c22
        refine Z_aload_n hk 0 dL_arePairs_56 rfl rfl ?_
        refine Z_iload_n hk 2 dL_arePairs_57 rfl rfl ?_
        refine Z_iload_n hk 3 dL_arePairs_58 rfl rfl ?_
        refine Z_iload hk 6 dL_arePairs_59 rfl ?_
        obtain ⟨x23, s24, h25, h⟩ := br_ok h
        refine ZX_callV 3 hk [.int a2, .int a3, .int a6] (c_X7_image hk.loc hk.inj hfl F a0 a2 a3 a6 ha0 s19 h25) gL_arePairs_X7_image rfl ⟨rfl, by decide +kernel, by decide +kernel, by decide +kernel⟩ ⟨Nat.le_of_ble_eq_true rfl, Nat.le_of_ble_eq_true rfl⟩ ha0.cell.1 (ha0.cell.2 _) rfl rfl rfl (Nat.le_of_ble_eq_true rfl) ⟨by show cs + 3 ≤ 4451; omega, by show ss + 18 ≤ 35562; omega⟩ dL_arePairs_61 (fun X hX => by cases hX) (fun v hv => ?_)
        cases hv
        show Z K (cs + 3) (ss + 18) 64 [(0, .ref (eA (kZ K) a0)), (1, .ref (eA (kZ K) a1)), (2, .int a2), (3, .int a3), (4, .int a4), (5, .int a5), (6, .int a6)] [.int x23] s24
        refine Z_iload hk 4 dL_arePairs_64 rfl ?_
        refine Z_if_ge hk (tgt := 73) dL_arePairs_66 (by decide) (fun c26 => ?_) (fun c26 => ?_)
        · have h := if_yes h c26
          refine Z_aload_n hk 1 dL_arePairs_73 rfl rfl ?_
          refine Z_iload_n hk 2 dL_arePairs_74 rfl rfl ?_
          obtain ⟨i29, x27, e28, h⟩ := ldL_get h
          refine Z_lald hk ha1 i29 dL_arePairs_75 ?_
          refine Z_eqL e28 ?_
          obtain ⟨x30, s31, h32, h⟩ := bd_ok h
          refine Z_callT 1 hk [.long x27] (c_L_size hk.loc hk.inj F x27 s24 h32) gL_arePairs_L_size rfl ⟨rfl, rfl⟩ (by decide +kernel) ⟨Nat.le_of_ble_eq_true rfl, Nat.le_of_ble_eq_true rfl⟩ rfl rfl (Nat.le_of_ble_eq_true rfl) ⟨by show (cs + 3) + 0 ≤ 4451; omega, by show (ss + 18) + 0 ≤ 35562; omega⟩ dL_arePairs_76 ?_
          show Z K (cs + 3) (ss + 18) 79 [(0, .ref (eA (kZ K) a0)), (1, .ref (eA (kZ K) a1)), (2, .int a2), (3, .int a3), (4, .int a4), (5, .int a5), (6, .int a6)] [.int x30, .int x23] s31
          refine Z_iload hk 4 dL_arePairs_79 rfl ?_
          refine Z_iload hk 6 dL_arePairs_81 rfl ?_
          obtain ⟨x33, s34, h35, h⟩ := bd_ok h
          refine Z_callT 3 hk [.int x30, .int a4, .int a6] (c_L_image hk.loc hk.inj F x30 a4 a6 s31 h35) gL_arePairs_L_image rfl ⟨rfl, rfl⟩ (by decide +kernel) ⟨Nat.le_of_ble_eq_true rfl, Nat.le_of_ble_eq_true rfl⟩ rfl rfl (Nat.le_of_ble_eq_true rfl) ⟨by show (cs + 3) + 0 ≤ 4451; omega, by show (ss + 18) + 0 ≤ 35562; omega⟩ dL_arePairs_83 ?_
          show Z K (cs + 3) (ss + 18) 86 [(0, .ref (eA (kZ K) a0)), (1, .ref (eA (kZ K) a1)), (2, .int a2), (3, .int a3), (4, .int a4), (5, .int a5), (6, .int a6)] [.int x33, .int x23] s34
          refine Z_sub [0, 1, 2, 3, 4, 6] rfl ?_
          exact w_L_arePairs_86 hk hfl hnx hq hw (cs + 3) (ss + 18) (cs + 3) (ss + 18) (by omega) (by omega) (by omega) (by omega) F (m_L_arePairs_40 F w n) ih a0 a1 a2 a3 a4 a6 x33 x23 ha0 ha1 s34 h
        · have h := if_no h c26
          refine Z_iconst hk dL_arePairs_69 zc_iconst_m1 ?_
          refine Z_goto hk (tgt := 86) dL_arePairs_70 (by decide) ?_
          refine Z_sub [0, 1, 2, 3, 4, 6] rfl ?_
          exact w_L_arePairs_86 hk hfl hnx hq hw (cs + 3) (ss + 18) (cs + 3) (ss + 18) (by omega) (by omega) (by omega) (by omega) F (m_L_arePairs_40 F w n) ih a0 a1 a2 a3 a4 a6 (-1) x23 ha0 ha1 s24 h
set_option maxRecDepth 100000 in
set_option maxHeartbeats 4000000 in
theorem w_L_arePairs_35 {K : zK} {w : Nat} (hk : zIs K RL cL_arePairs 10 wsL_arePairs (some .boolean) r_L_arePairs) (hfl : (kL K).stackTraces = false) (hnx : zNX K) {r0 : Int32} {τ0 : zST} (hq : zQG K (.inr (some (.int r0))) τ0) (hw : eN (kZ K) = w) (cs ss : Nat) (hb1 : cs + 4326 ≤ 4451) (hb2 : ss + 34566 ≤ 35562) (F : Nat) (a0 : Nat) (a1 : Nat) (a2 : Int32) (a3 : Int32) (a4 : Int32) (t0 : Int32) (ha0 : atCanonCote (kZ K) a0) (ha1 : aJ (kZ K) a1 4) (σ : zST) (h : m_L_arePairs_35 F w a0 a1 a2 a3 a4 t0 σ = some (r0, τ0)) : Z K cs ss 35 [(0, .ref (eA (kZ K) a0)), (1, .ref (eA (kZ K) a1)), (2, .int a2), (3, .int a3), (4, .int a4)] [.int t0] σ := by
  unfold m_L_arePairs_35 at h
  refine Z_istore hk (lv' := [(5, .int t0), (0, .ref (eA (kZ K) a0)), (1, .ref (eA (kZ K) a1)), (2, .int a2), (3, .int a3), (4, .int a4)]) dL_arePairs_35 (by decide) rfl ?_
  refine Z_iconst hk dL_arePairs_37 zc_iconst_0 ?_
  refine Z_istore hk (lv' := [(6, .int 0), (5, .int t0), (0, .ref (eA (kZ K) a0)), (1, .ref (eA (kZ K) a1)), (2, .int a2), (3, .int a3), (4, .int a4)]) dL_arePairs_38 (by decide) rfl ?_
  refine Z_sub [2, 3, 4, 5, 6, 1, 0] rfl ?_
  exact w_L_arePairs_40 hk hfl hnx hq hw F 7 cs ss (by omega) (by omega) a0 a1 a2 a3 a4 t0 0 ha0 ha1 σ h
set_option maxRecDepth 100000 in
set_option maxHeartbeats 4000000 in
theorem w_L_arePairs_27 {K : zK} {w : Nat} (hk : zIs K RL cL_arePairs 10 wsL_arePairs (some .boolean) r_L_arePairs) (hfl : (kL K).stackTraces = false) (hnx : zNX K) {r0 : Int32} {τ0 : zST} (hq : zQG K (.inr (some (.int r0))) τ0) (hw : eN (kZ K) = w) (cs ss : Nat) (hb1 : cs + 4326 ≤ 4451) (hb2 : ss + 34566 ≤ 35562) (F : Nat) (a0 : Nat) (a1 : Nat) (a2 : Int32) (a3 : Int32) (a4 : Int32) (t0 : Int32) (t1 : Int32) (ha0 : atCanonCote (kZ K) a0) (ha1 : aJ (kZ K) a1 4) (σ : zST) (h : m_L_arePairs_27 F w a0 a1 a2 a3 a4 t0 t1 σ = some (r0, τ0)) : Z K cs ss 27 [(0, .ref (eA (kZ K) a0)), (1, .ref (eA (kZ K) a1)), (2, .int a2), (3, .int a3), (4, .int a4)] [.int t0, .int t1] σ := by
  unfold m_L_arePairs_27 at h
  refine Z_icmp_ne hk (tgt := 34) dL_arePairs_27 (by decide) (fun c14 => ?_) (fun c14 => ?_)
  · have h := if_yes h c14
    refine Z_iconst hk dL_arePairs_30 zc_iconst_1 ?_
    refine Z_goto hk (tgt := 35) dL_arePairs_31 (by decide) ?_
    refine Z_sub [0, 1, 2, 3, 4] rfl ?_
    exact w_L_arePairs_35 hk hfl hnx hq hw cs ss (by omega) (by omega) F a0 a1 a2 a3 a4 1 ha0 ha1 σ h
  · have h := if_no h c14
    refine Z_iconst hk dL_arePairs_34 zc_iconst_0 ?_
    refine Z_sub [0, 1, 2, 3, 4] rfl ?_
    exact w_L_arePairs_35 hk hfl hnx hq hw cs ss (by omega) (by omega) F a0 a1 a2 a3 a4 0 ha0 ha1 σ h
set_option maxRecDepth 100000 in
set_option maxHeartbeats 4000000 in
theorem w_L_arePairs {K : zK} {w : Nat} (hk : zIs K RL cL_arePairs 10 wsL_arePairs (some .boolean) r_L_arePairs) (hfl : (kL K).stackTraces = false) (hnx : zNX K) {r0 : Int32} {τ0 : zST} (hq : zQG K (.inr (some (.int r0))) τ0) (hw : eN (kZ K) = w) (F : Nat) (a0 : Nat) (a1 : Nat) (a2 : Int32) (a3 : Int32) (ha0 : atCanonCote (kZ K) a0) (ha1 : aJ (kZ K) a1 4) (σ : zST) (h : m_L_arePairs F w a0 a1 a2 a3 σ = some (r0, τ0)) : Z K 0 0 0 [(0, .ref (eA (kZ K) a0)), (1, .ref (eA (kZ K) a1)), (2, .int a2), (3, .int a3)] [] σ := by
  unfold m_L_arePairs at h
  refine Z_aload_n hk 1 dL_arePairs_0 rfl rfl ?_
  refine Z_iload_n hk 2 dL_arePairs_1 rfl rfl ?_
  obtain ⟨i3, x1, e2, h⟩ := ldL_get h
  refine Z_lald hk ha1 i3 dL_arePairs_2 ?_
  refine Z_eqL e2 ?_
  refine Z_aload_n hk 1 dL_arePairs_3 rfl rfl ?_
  refine Z_iload_n hk 3 dL_arePairs_4 rfl rfl ?_
  obtain ⟨i6, x4, e5, h⟩ := ldL_get h
  refine Z_lald hk ha1 i6 dL_arePairs_5 ?_
  refine Z_eqL e5 ?_
  obtain ⟨x7, s8, h9, h⟩ := bd_ok h
  refine ZX_callT 2 hk [.long x1, .long x4] (c_L_first hk.loc hk.inj hfl F w hw x1 x4 σ h9) gL_arePairs_L_first rfl ⟨by decide +kernel, by decide +kernel, by decide +kernel⟩ ⟨Nat.le_of_ble_eq_true rfl, Nat.le_of_ble_eq_true rfl⟩ rfl rfl (Nat.le_of_ble_eq_true rfl) ⟨by show 0 + 123 ≤ 4451; omega, by show 0 + 984 ≤ 35562; omega⟩ dL_arePairs_6 (fun X hX => by cases hX) (fun v hv => ?_)
  cases hv
  show Z K 123 984 9 [(0, .ref (eA (kZ K) a0)), (1, .ref (eA (kZ K) a1)), (2, .int a2), (3, .int a3)] [.int x7] s8
  refine Z_istore hk (lv' := [(4, .int x7), (0, .ref (eA (kZ K) a0)), (1, .ref (eA (kZ K) a1)), (2, .int a2), (3, .int a3)]) dL_arePairs_9 (by decide) rfl ?_
  refine Z_aload_n hk 1 dL_arePairs_11 rfl rfl ?_
  refine Z_iload_n hk 3 dL_arePairs_12 rfl rfl ?_
  refine Z_iload_n hk 4 dL_arePairs_13 rfl rfl ?_
  obtain ⟨x10, s11, h12, h⟩ := br_ok h
  refine ZX_callV 2 hk [.int a2, .int a3] (c_X7_areAlike hk.loc hk.inj hfl F a0 a2 a3 ha0 s8 h12) gL_arePairs_X7_areAlike rfl ⟨rfl, by decide +kernel, by decide +kernel, by decide +kernel⟩ ⟨Nat.le_of_ble_eq_true rfl, Nat.le_of_ble_eq_true rfl⟩ ha0.cell.1 (ha0.cell.2 _) rfl rfl rfl (Nat.le_of_ble_eq_true rfl) ⟨by show 123 + 2 ≤ 4451; omega, by show 984 + 12 ≤ 35562; omega⟩ dL_arePairs_14 (fun X hX => by cases hX) (fun v hv => ?_)
  cases hv
  show Z K 125 996 17 [(4, .int x7), (0, .ref (eA (kZ K) a0)), (1, .ref (eA (kZ K) a1)), (2, .int a2), (3, .int a3)] [.int x10] s11
  refine Z_iload hk 0 dL_arePairs_17 rfl ?_
  refine Z_if_lt hk (tgt := 26) dL_arePairs_19 (by decide) (fun c13 => ?_) (fun c13 => ?_)
  · have h := if_yes h c13
    refine Z_iconst hk dL_arePairs_26 zc_iconst_0 ?_
    refine Z_sub [1, 2, 3, 4, 0] rfl ?_
    exact w_L_arePairs_27 hk hfl hnx hq hw 125 996 (by omega) (by omega) F a0 a1 a2 a3 x7 0 x10 ha0 ha1 s11 h
  · have h := if_no h c13
    refine Z_iconst hk dL_arePairs_22 zc_iconst_1 ?_
    refine Z_goto hk (tgt := 27) dL_arePairs_23 (by decide) ?_
    refine Z_sub [1, 2, 3, 4, 0] rfl ?_
    exact w_L_arePairs_27 hk hfl hnx hq hw 125 996 (by omega) (by omega) F a0 a1 a2 a3 x7 1 x10 ha0 ha1 s11 h
theorem c_L_arePairs {l : Launch} {E : zE} (hL : eL E) (hJ : eJ E) (hfl : l.stackTraces = false) (F w : Nat) (hw : eN E = w) (a0 : Nat) (a1 : Nat) (a2 : Int32) (a3 : Int32) (ha0 : atCanonCote E a0) (ha1 : aJ E a1 4) (σ : zST) {r0 : Int32} {τ0 : zST} (h : m_L_arePairs F w a0 a1 a2 a3 σ = some (r0, τ0)) : CtX l yL_arePairs wsL_arePairs r_L_arePairs E [.ref (eA E a0), .ref (eA E a1), .int a2, .int a3] σ (.inr (some (.int r0))) τ0 := by
  refine CtX_of (by decide) rfl hL hJ (Nat.le_of_ble_eq_true rfl) (fun K hE hl hk hnx hq => ?_)
  subst hE
  subst hl
  exact w_L_arePairs hk hfl hnx (zQG.of hq) hw F a0 a1 a2 a3 ha0 ha1 σ h
end
