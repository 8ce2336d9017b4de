-- CanonCoteLaw.isTurned (LCanonCote;IJ)Z
section
theorem dL_isTurned_0 : decode cL_isTurned 0 = .ok (.lload_n 2, 1) := by decide +kernel
theorem dL_isTurned_1 : decode cL_isTurned 1 = .ok (.invokestatic 23, 3) := by decide +kernel
theorem dL_isTurned_4 : decode cL_isTurned 4 = .ok (.istore 4, 2) := by decide +kernel
theorem dL_isTurned_6 : decode cL_isTurned 6 = .ok (.iconst 0, 1) := by decide +kernel
theorem dL_isTurned_7 : decode cL_isTurned 7 = .ok (.istore 5, 2) := by decide +kernel
theorem dL_isTurned_9 : decode cL_isTurned 9 = .ok (.bipush 8, 2) := by decide +kernel
theorem dL_isTurned_11 : decode cL_isTurned 11 = .ok (.newarray .int, 2) := by decide +kernel
theorem dL_isTurned_13 : decode cL_isTurned 13 = .ok (.astore 6, 2) := by decide +kernel
theorem dL_isTurned_15 : decode cL_isTurned 15 = .ok (.iconst 0, 1) := by decide +kernel
theorem dL_isTurned_16 : decode cL_isTurned 16 = .ok (.istore 7, 2) := by decide +kernel
theorem dL_isTurned_18 : decode cL_isTurned 18 = .ok (.iload 7, 2) := by decide +kernel
theorem dL_isTurned_20 : decode cL_isTurned 20 = .ok (.iload 4, 2) := by decide +kernel
theorem dL_isTurned_22 : decode cL_isTurned 22 = .ok (.invokestatic 19, 3) := by decide +kernel
theorem dL_isTurned_25 : decode cL_isTurned 25 = .ok (.if_icmp .ge 82, 3) := by decide +kernel
theorem dL_isTurned_28 : decode cL_isTurned 28 = .ok (.lload_n 2, 1) := by decide +kernel
theorem dL_isTurned_29 : decode cL_isTurned 29 = .ok (.iload 7, 2) := by decide +kernel
theorem dL_isTurned_31 : decode cL_isTurned 31 = .ok (.invokestatic 43, 3) := by decide +kernel
theorem dL_isTurned_34 : decode cL_isTurned 34 = .ok (.lload_n 2, 1) := by decide +kernel
theorem dL_isTurned_35 : decode cL_isTurned 35 = .ok (.lcmp, 1) := by decide +kernel
theorem dL_isTurned_36 : decode cL_isTurned 36 = .ok (.ifCond .ne 7, 3) := by decide +kernel
theorem dL_isTurned_39 : decode cL_isTurned 39 = .ok (.iconst 1, 1) := by decide +kernel
theorem dL_isTurned_40 : decode cL_isTurned 40 = .ok (.goto 4, 3) := by decide +kernel
theorem dL_isTurned_43 : decode cL_isTurned 43 = .ok (.iconst 0, 1) := by decide +kernel
theorem dL_isTurned_44 : decode cL_isTurned 44 = .ok (.istore 8, 2) := by decide +kernel
theorem dL_isTurned_46 : decode cL_isTurned 46 = .ok (.iload 5, 2) := by decide +kernel
theorem dL_isTurned_48 : decode cL_isTurned 48 = .ok (.iload 8, 2) := by decide +kernel
theorem dL_isTurned_50 : decode cL_isTurned 50 = .ok (.ifCond .eq 7, 3) := by decide +kernel
theorem dL_isTurned_53 : decode cL_isTurned 53 = .ok (.iconst 1, 1) := by decide +kernel
theorem dL_isTurned_54 : decode cL_isTurned 54 = .ok (.goto 4, 3) := by decide +kernel
theorem dL_isTurned_57 : decode cL_isTurned 57 = .ok (.iconst 0, 1) := by decide +kernel
theorem dL_isTurned_58 : decode cL_isTurned 58 = .ok (.iadd, 1) := by decide +kernel
theorem dL_isTurned_59 : decode cL_isTurned 59 = .ok (.istore 5, 2) := by decide +kernel
theorem dL_isTurned_61 : decode cL_isTurned 61 = .ok (.iconst 0, 1) := by decide +kernel
theorem dL_isTurned_62 : decode cL_isTurned 62 = .ok (.istore 9, 2) := by decide +kernel
theorem dL_isTurned_64 : decode cL_isTurned 64 = .ok (.iload 9, 2) := by decide +kernel
theorem dL_isTurned_66 : decode cL_isTurned 66 = .ok (.iload 4, 2) := by decide +kernel
theorem dL_isTurned_68 : decode cL_isTurned 68 = .ok (.if_icmp .ge 33, 3) := by decide +kernel
theorem dL_isTurned_71 : decode cL_isTurned 71 = .ok (.iload 8, 2) := by decide +kernel
theorem dL_isTurned_73 : decode cL_isTurned 73 = .ok (.ifCond .eq 28, 3) := by decide +kernel
theorem dL_isTurned_76 : decode cL_isTurned 76 = .ok (.aload 6, 2) := by decide +kernel
theorem dL_isTurned_78 : decode cL_isTurned 78 = .ok (.iload 9, 2) := by decide +kernel
theorem dL_isTurned_80 : decode cL_isTurned 80 = .ok (.dup2, 1) := by decide +kernel
theorem dL_isTurned_81 : decode cL_isTurned 81 = .ok (.iaload, 1) := by decide +kernel
theorem dL_isTurned_82 : decode cL_isTurned 82 = .ok (.iconst 1, 1) := by decide +kernel
theorem dL_isTurned_83 : decode cL_isTurned 83 = .ok (.iload 4, 2) := by decide +kernel
theorem dL_isTurned_85 : decode cL_isTurned 85 = .ok (.iload 7, 2) := by decide +kernel
theorem dL_isTurned_87 : decode cL_isTurned 87 = .ok (.iload 9, 2) := by decide +kernel
theorem dL_isTurned_89 : decode cL_isTurned 89 = .ok (.invokestatic 27, 3) := by decide +kernel
theorem dL_isTurned_92 : decode cL_isTurned 92 = .ok (.ishl, 1) := by decide +kernel
theorem dL_isTurned_93 : decode cL_isTurned 93 = .ok (.ior, 1) := by decide +kernel
theorem dL_isTurned_94 : decode cL_isTurned 94 = .ok (.iastore, 1) := by decide +kernel
theorem dL_isTurned_95 : decode cL_isTurned 95 = .ok (.iinc 9 1, 3) := by decide +kernel
theorem dL_isTurned_98 : decode cL_isTurned 98 = .ok (.goto (-34), 3) := by decide +kernel
theorem dL_isTurned_101 : decode cL_isTurned 101 = .ok (.iinc 7 1, 3) := by decide +kernel
theorem dL_isTurned_104 : decode cL_isTurned 104 = .ok (.goto (-86), 3) := by decide +kernel
theorem dL_isTurned_107 : decode cL_isTurned 107 = .ok (.iconst 0, 1) := by decide +kernel
theorem dL_isTurned_108 : decode cL_isTurned 108 = .ok (.istore 7, 2) := by decide +kernel
theorem dL_isTurned_110 : decode cL_isTurned 110 = .ok (.aload_n 0, 1) := by decide +kernel
theorem dL_isTurned_111 : decode cL_isTurned 111 = .ok (.iload_n 1, 1) := by decide +kernel
theorem dL_isTurned_112 : decode cL_isTurned 112 = .ok (.invokevirtual 85, 3) := by decide +kernel
theorem dL_isTurned_115 : decode cL_isTurned 115 = .ok (.iload 5, 2) := by decide +kernel
theorem dL_isTurned_117 : decode cL_isTurned 117 = .ok (.if_icmp .ne 7, 3) := by decide +kernel
theorem dL_isTurned_120 : decode cL_isTurned 120 = .ok (.iconst 1, 1) := by decide +kernel
theorem dL_isTurned_121 : decode cL_isTurned 121 = .ok (.goto 4, 3) := by decide +kernel
theorem dL_isTurned_124 : decode cL_isTurned 124 = .ok (.iconst 0, 1) := by decide +kernel
theorem dL_isTurned_125 : decode cL_isTurned 125 = .ok (.istore 8, 2) := by decide +kernel
theorem dL_isTurned_127 : decode cL_isTurned 127 = .ok (.iconst 0, 1) := by decide +kernel
theorem dL_isTurned_128 : decode cL_isTurned 128 = .ok (.istore 9, 2) := by decide +kernel
theorem dL_isTurned_130 : decode cL_isTurned 130 = .ok (.iload 9, 2) := by decide +kernel
theorem dL_isTurned_132 : decode cL_isTurned 132 = .ok (.iload 4, 2) := by decide +kernel
theorem dL_isTurned_134 : decode cL_isTurned 134 = .ok (.if_icmp .ge 59, 3) := by decide +kernel
theorem dL_isTurned_137 : decode cL_isTurned 137 = .ok (.iload 7, 2) := by decide +kernel
theorem dL_isTurned_139 : decode cL_isTurned 139 = .ok (.aload 6, 2) := by decide +kernel
theorem dL_isTurned_141 : decode cL_isTurned 141 = .ok (.iload 9, 2) := by decide +kernel
theorem dL_isTurned_143 : decode cL_isTurned 143 = .ok (.iaload, 1) := by decide +kernel
theorem dL_isTurned_144 : decode cL_isTurned 144 = .ok (.iconst 1, 1) := by decide +kernel
theorem dL_isTurned_145 : decode cL_isTurned 145 = .ok (.iload 9, 2) := by decide +kernel
theorem dL_isTurned_147 : decode cL_isTurned 147 = .ok (.ishl, 1) := by decide +kernel
theorem dL_isTurned_148 : decode cL_isTurned 148 = .ok (.irem, 1) := by decide +kernel
theorem dL_isTurned_149 : decode cL_isTurned 149 = .ok (.ifCond .ne 7, 3) := by decide +kernel
theorem dL_isTurned_152 : decode cL_isTurned 152 = .ok (.iconst 1, 1) := by decide +kernel
theorem dL_isTurned_153 : decode cL_isTurned 153 = .ok (.goto 4, 3) := by decide +kernel
theorem dL_isTurned_156 : decode cL_isTurned 156 = .ok (.iconst 0, 1) := by decide +kernel
theorem dL_isTurned_157 : decode cL_isTurned 157 = .ok (.iadd, 1) := by decide +kernel
theorem dL_isTurned_158 : decode cL_isTurned 158 = .ok (.istore 7, 2) := by decide +kernel
theorem dL_isTurned_160 : decode cL_isTurned 160 = .ok (.iload 8, 2) := by decide +kernel
theorem dL_isTurned_162 : decode cL_isTurned 162 = .ok (.ifCond .eq 22, 3) := by decide +kernel
theorem dL_isTurned_165 : decode cL_isTurned 165 = .ok (.aload_n 0, 1) := by decide +kernel
theorem dL_isTurned_166 : decode cL_isTurned 166 = .ok (.iload_n 1, 1) := by decide +kernel
theorem dL_isTurned_167 : decode cL_isTurned 167 = .ok (.iload 9, 2) := by decide +kernel
theorem dL_isTurned_169 : decode cL_isTurned 169 = .ok (.invokevirtual 88, 3) := by decide +kernel
theorem dL_isTurned_172 : decode cL_isTurned 172 = .ok (.aload 6, 2) := by decide +kernel
theorem dL_isTurned_174 : decode cL_isTurned 174 = .ok (.iload 9, 2) := by decide +kernel
theorem dL_isTurned_176 : decode cL_isTurned 176 = .ok (.iaload, 1) := by decide +kernel
theorem dL_isTurned_177 : decode cL_isTurned 177 = .ok (.if_icmp .ne 7, 3) := by decide +kernel
theorem dL_isTurned_180 : decode cL_isTurned 180 = .ok (.iconst 1, 1) := by decide +kernel
theorem dL_isTurned_181 : decode cL_isTurned 181 = .ok (.goto 4, 3) := by decide +kernel
theorem dL_isTurned_184 : decode cL_isTurned 184 = .ok (.iconst 0, 1) := by decide +kernel
theorem dL_isTurned_185 : decode cL_isTurned 185 = .ok (.istore 8, 2) := by decide +kernel
theorem dL_isTurned_187 : decode cL_isTurned 187 = .ok (.iinc 9 1, 3) := by decide +kernel
theorem dL_isTurned_190 : decode cL_isTurned 190 = .ok (.goto (-60), 3) := by decide +kernel
theorem dL_isTurned_193 : decode cL_isTurned 193 = .ok (.iload 8, 2) := by decide +kernel
theorem dL_isTurned_195 : decode cL_isTurned 195 = .ok (.ifCond .eq 17, 3) := by decide +kernel
theorem dL_isTurned_198 : decode cL_isTurned 198 = .ok (.aload_n 0, 1) := by decide +kernel
theorem dL_isTurned_199 : decode cL_isTurned 199 = .ok (.iload_n 1, 1) := by decide +kernel
theorem dL_isTurned_200 : decode cL_isTurned 200 = .ok (.invokevirtual 91, 3) := by decide +kernel
theorem dL_isTurned_203 : decode cL_isTurned 203 = .ok (.iload 7, 2) := by decide +kernel
theorem dL_isTurned_205 : decode cL_isTurned 205 = .ok (.if_icmp .ne 7, 3) := by decide +kernel
theorem dL_isTurned_208 : decode cL_isTurned 208 = .ok (.iconst 1, 1) := by decide +kernel
theorem dL_isTurned_209 : decode cL_isTurned 209 = .ok (.goto 4, 3) := by decide +kernel
theorem dL_isTurned_212 : decode cL_isTurned 212 = .ok (.iconst 0, 1) := by decide +kernel
theorem dL_isTurned_213 : decode cL_isTurned 213 = .ok (.ireturn, 1) := by decide +kernel
set_option maxRecDepth 20000 in
theorem ggL_isTurned_L_size : GoodIn wsL_isTurned wsL_size := goodIn_r _ [5] (by decide +kernel) (by decide +kernel)
set_option maxRecDepth 20000 in
theorem gL_isTurned_L_size : GoodIn wsL_isTurned (va_wsS RL 23 yL_size wsL_size) := goodIn_app (goodIn_of _ (by decide +kernel)) ggL_isTurned_L_size
set_option maxRecDepth 20000 in
theorem ggL_isTurned_L_maps : GoodIn wsL_isTurned wsL_maps := goodIn_r _ [8] (by decide +kernel) (by decide +kernel)
set_option maxRecDepth 20000 in
theorem gL_isTurned_L_maps : GoodIn wsL_isTurned (va_wsS RL 19 yL_maps wsL_maps) := goodIn_app (goodIn_of _ (by decide +kernel)) ggL_isTurned_L_maps
set_option maxRecDepth 20000 in
theorem ggL_isTurned_L_put : GoodIn wsL_isTurned wsL_put := goodIn_r _ [11, 1, 2, 3, 4, 5, 12, 13, 14, 6, 7, 8, 15, 16, 17, 18, 19, 20, 21, 22, 23, 24, 25, 26, 27, 28] (by decide +kernel) (by decide +kernel)
set_option maxRecDepth 20000 in
theorem gL_isTurned_L_put : GoodIn wsL_isTurned (va_wsS RL 43 yL_put wsL_put) := goodIn_app (goodIn_of _ (by decide +kernel)) ggL_isTurned_L_put
set_option maxRecDepth 20000 in
theorem ggL_isTurned_L_image : GoodIn wsL_isTurned wsL_image := goodIn_r _ [14, 6, 7, 4, 8] (by decide +kernel) (by decide +kernel)
set_option maxRecDepth 20000 in
theorem gL_isTurned_L_image : GoodIn wsL_isTurned (va_wsS RL 27 yL_image wsL_image) := goodIn_app (goodIn_of _ (by decide +kernel)) ggL_isTurned_L_image
set_option maxRecDepth 20000 in
theorem ggL_isTurned_X7_symmetries : GoodIn wsL_isTurned wsX7_symmetries := goodIn_ca (goodIn_r _ [33, 34, 35, 36, 37, 32, 38, 39, 40, 41, 42, 43, 44, 45, 46, 47, 48, 49, 50, 51, 52, 53, 54, 55, 56, 57, 58, 59, 60, 61, 62, 63, 64, 65, 66, 67, 68, 69, 70, 71, 72, 73, 74, 75, 76, 77, 78, 79, 80, 81, 82, 83, 84, 85, 86, 87, 88, 89, 90, 91, 92, 93, 94, 95, 96, 97, 98, 99, 100, 101, 102, 103, 123, 124, 125, 126, 127, 128, 129, 130, 131, 132, 133, 134, 135, 136, 137, 138] (by decide +kernel) (by decide +kernel)) (goodIn_sub (fun _ h => List.mem_cons_of_mem _ (List.mem_append_right _ h)) (by decide +kernel))
set_option maxRecDepth 20000 in
theorem gL_isTurned_X7_symmetries : GoodIn wsL_isTurned (wsV RL 85 RX7 yX7_symmetries wsX7_symmetries) := goodIn_app (goodIn_of _ (by decide +kernel)) ggL_isTurned_X7_symmetries
set_option maxRecDepth 20000 in
theorem ggL_isTurned_X7_orbit : GoodIn wsL_isTurned wsX7_orbit := goodIn_ca (goodIn_r _ [107, 34, 35, 36, 37, 32, 38, 39, 40, 41, 108, 109, 110, 42, 43, 44, 45, 46, 47, 48, 49, 50, 51, 52, 53, 54, 55, 56, 57, 58, 59, 60, 61, 62, 63, 64, 65, 66, 67, 68, 69, 70, 71, 72, 73, 74, 75, 76, 77, 78, 79, 80, 81, 82, 83, 84, 85, 86, 87, 88, 89, 90, 91, 92, 93, 94, 95, 96, 97, 98, 99, 100, 111, 112, 113, 114, 115, 116, 117, 123, 124, 125, 126, 127, 128, 129, 130, 131, 132, 133, 134, 135, 136, 137, 138] (by decide +kernel) (by decide +kernel)) (goodIn_sub (fun _ h => List.mem_cons_of_mem _ (List.mem_append_right _ h)) (by decide +kernel))
set_option maxRecDepth 20000 in
theorem gL_isTurned_X7_orbit : GoodIn wsL_isTurned (wsV RL 88 RX7 yX7_orbit wsX7_orbit) := goodIn_app (goodIn_of _ (by decide +kernel)) ggL_isTurned_X7_orbit
set_option maxRecDepth 20000 in
theorem ggL_isTurned_X7_orbits : GoodIn wsL_isTurned wsX7_orbits := goodIn_ca (goodIn_r _ [121, 34, 35, 36, 37, 32, 38, 39, 40, 41, 42, 43, 44, 45, 46, 47, 48, 49, 50, 51, 52, 53, 54, 55, 56, 57, 58, 59, 60, 61, 62, 63, 64, 65, 66, 67, 68, 69, 70, 71, 72, 73, 74, 75, 76, 77, 78, 79, 80, 81, 82, 83, 84, 85, 86, 87, 88, 89, 90, 91, 92, 93, 94, 95, 96, 97, 98, 99, 100, 111, 112, 113, 114, 115, 116, 117, 122, 123, 124, 125, 126, 127, 128, 129, 130, 131, 132, 133, 134, 135, 136, 137, 138] (by decide +kernel) (by decide +kernel)) (goodIn_sub (fun _ h => List.mem_cons_of_mem _ (List.mem_append_right _ h)) (by decide +kernel))
set_option maxRecDepth 20000 in
theorem gL_isTurned_X7_orbits : GoodIn wsL_isTurned (wsV RL 91 RX7 yX7_orbits wsX7_orbits) := goodIn_app (goodIn_of _ (by decide +kernel)) ggL_isTurned_X7_orbits
theorem wd_L_isTurned_0 : Cond.arrayClass .int ∈ wsL_isTurned := by decide +kernel
def r_L_isTurned : Room := { frames := 15, cells := 140, slots := 1086, locals := 377 }
set_option maxRecDepth 100000 in
set_option maxHeartbeats 4000000 in
theorem w_L_isTurned_101 {K : zK} {w : Nat} (hk : zIs K RL cL_isTurned 10 wsL_isTurned (some .boolean) r_L_isTurned) (hfl : (kL K).stackTraces = false) (hnx : zNX K) {r0 : Int32} {τ0 : zST} (hq : zQG K (.inr (some (.int r0))) τ0) (hw : eN (kZ K) = (w + 1)) (cs ss : Nat) (C S : Nat) (hr1 : cs + 0 ≤ C) (hr2 : ss + 0 ≤ S) (hb1 : cs + 0 ≤ 140) (hb2 : ss + 0 ≤ 1086) (F : Nat) (k18 : Nat → Int32 → Int64 → Int32 → Int32 → Nat → Int32 → zST → Option (Int32 × zST)) (hk18 : ∀ (a0 : Nat) (a1 : Int32) (a2 : Int64) (a4 : Int32) (a5 : Int32) (a6 : Nat) (a7 : Int32) (ha0 : atCanonCote (kZ K) a0) (ha6 : aI (kZ K) a6 8) (σ : zST), k18 a0 a1 a2 a4 a5 a6 a7 σ = some (r0, τ0) → Z K C S 18 [(0, .ref (eA (kZ K) a0)), (1, .int a1), (2, .long a2), (4, .int a4), (5, .int a5), (6, .ref (eA (kZ K) a6)), (7, .int a7)] [] σ) (a0 : Nat) (a1 : Int32) (a2 : Int64) (a4 : Int32) (a5 : Int32) (a6 : Nat) (a7 : Int32) (ha0 : atCanonCote (kZ K) a0) (ha6 : aI (kZ K) a6 8) (σ : zST) (h : m_L_isTurned_101 F w k18 a0 a1 a2 a4 a5 a6 a7 σ = some (r0, τ0)) : Z K cs ss 101 [(0, .ref (eA (kZ K) a0)), (1, .int a1), (2, .long a2), (4, .int a4), (5, .int a5), (6, .ref (eA (kZ K) a6)), (7, .int a7)] [] σ := by
  unfold m_L_isTurned_101 at h
  obtain ⟨x57, e58, h⟩ := nm_get h
  refine Z_iinc hk 6 (v := x57) (lv' := [(7, .int x57), (0, .ref (eA (kZ K) a0)), (1, .int a1), (2, .long a2), (4, .int a4), (5, .int a5), (6, .ref (eA (kZ K) a6))]) dL_isTurned_101 rfl (by rw [zc_iinc_1]; exact e58) (by decide) rfl ?_
  refine Z_goto hk (tgt := 18) dL_isTurned_104 (by decide) ?_
  refine Z_sub [1, 2, 3, 4, 5, 6, 0] rfl ?_
  refine Z_widen (cs' := C) (ss' := S) (by omega) (by omega) ?_
  exact hk18 a0 a1 a2 a4 a5 a6 x57 ha0 ha6 σ h
set_option maxRecDepth 100000 in
set_option maxHeartbeats 4000000 in
theorem w_L_isTurned_64 {K : zK} {w : Nat} (hk : zIs K RL cL_isTurned 10 wsL_isTurned (some .boolean) r_L_isTurned) (hfl : (kL K).stackTraces = false) (hnx : zNX K) {r0 : Int32} {τ0 : zST} (hq : zQG K (.inr (some (.int r0))) τ0) (hw : eN (kZ K) = (w + 1)) (cs ss : Nat) (C S : Nat) (hr1 : cs + 0 ≤ C) (hr2 : ss + 0 ≤ S) (hb1 : cs + 0 ≤ 140) (hb2 : ss + 0 ≤ 1086) (F : Nat) (k18 : Nat → Int32 → Int64 → Int32 → Int32 → Nat → Int32 → zST → Option (Int32 × zST)) (hk18 : ∀ (a0 : Nat) (a1 : Int32) (a2 : Int64) (a4 : Int32) (a5 : Int32) (a6 : Nat) (a7 : Int32) (ha0 : atCanonCote (kZ K) a0) (ha6 : aI (kZ K) a6 8) (σ : zST), k18 a0 a1 a2 a4 a5 a6 a7 σ = some (r0, τ0) → Z K C S 18 [(0, .ref (eA (kZ K) a0)), (1, .int a1), (2, .long a2), (4, .int a4), (5, .int a5), (6, .ref (eA (kZ K) a6)), (7, .int a7)] [] σ) : ∀ (n : Nat) (a0 : Nat) (a1 : Int32) (a2 : Int64) (a4 : Int32) (a5 : Int32) (a6 : Nat) (a7 : Int32) (a8 : Int32) (a9 : Int32) (ha0 : atCanonCote (kZ K) a0) (ha6 : aI (kZ K) a6 8) (σ : zST), m_L_isTurned_64 F w k18 n a0 a1 a2 a4 a5 a6 a7 a8 a9 σ = some (r0, τ0) → Z K cs ss 64 [(0, .ref (eA (kZ K) a0)), (1, .int a1), (2, .long a2), (4, .int a4), (5, .int a5), (6, .ref (eA (kZ K) a6)), (7, .int a7), (8, .int a8), (9, .int a9)] [] σ := by
  intro n
  induction n with
  | zero => intro a0 a1 a2 a4 a5 a6 a7 a8 a9 ha0 ha6 σ h; cases h
  | succ n ih =>
    intro a0 a1 a2 a4 a5 a6 a7 a8 a9 ha0 ha6 σ h
    rw [m_L_isTurned_64] at h
    refine Z_iload hk 8 dL_isTurned_64 rfl ?_
    refine Z_iload hk 3 dL_isTurned_66 rfl ?_
    refine Z_icmp_ge hk (tgt := 101) dL_isTurned_68 (by decide) (fun c42 => ?_) (fun c42 => ?_)
    · have h := if_yes h c42
      refine Z_sub [0, 1, 2, 3, 4, 5, 6] rfl ?_
      exact w_L_isTurned_101 hk hfl hnx hq hw cs ss C S (by omega) (by omega) (by omega) (by omega) F k18 hk18 a0 a1 a2 a4 a5 a6 a7 ha0 ha6 σ h
    · have h := if_no h c42
      refine Z_iload hk 7 dL_isTurned_71 rfl ?_
      refine Z_if_eq hk (tgt := 101) dL_isTurned_73 (by decide) (fun c43 => ?_) (fun c43 => ?_)
      · have h := if_yes h c43
        refine Z_sub [0, 1, 2, 3, 4, 5, 6] rfl ?_
        exact w_L_isTurned_101 hk hfl hnx hq hw cs ss C S (by omega) (by omega) (by omega) (by omega) F k18 hk18 a0 a1 a2 a4 a5 a6 a7 ha0 ha6 σ h
      · have h := if_no h c43
        refine Z_aload hk 5 dL_isTurned_76 rfl ?_
        refine Z_iload hk 8 dL_isTurned_78 rfl ?_
        refine Z_dup2 hk dL_isTurned_80 rfl rfl ?_
        obtain ⟨i46, x44, e45, h⟩ := ldI_get h
        refine Z_iald hk ha6 i46 dL_isTurned_81 ?_
        refine Z_eqI e45 ?_
        refine Z_iconst hk dL_isTurned_82 zc_iconst_1 ?_
        refine Z_iload hk 3 dL_isTurned_83 rfl ?_
        refine Z_iload hk 6 dL_isTurned_85 rfl ?_
        refine Z_iload hk 8 dL_isTurned_87 rfl ?_
        obtain ⟨x47, s48, h49, h⟩ := bd_ok h
        refine Z_callT 3 hk [.int a4, .int a7, .int a9] (c_L_image hk.loc hk.inj F a4 a7 a9 σ h49) gL_isTurned_L_image rfl ⟨rfl, rfl⟩ (by decide +kernel) ⟨Nat.le_of_ble_eq_true rfl, Nat.le_of_ble_eq_true rfl⟩ rfl rfl (Nat.le_of_ble_eq_true rfl) ⟨by show cs + 0 ≤ 140; omega, by show ss + 0 ≤ 1086; omega⟩ dL_isTurned_89 ?_
        show Z K cs ss 92 [(0, .ref (eA (kZ K) a0)), (1, .int a1), (2, .long a2), (4, .int a4), (5, .int a5), (6, .ref (eA (kZ K) a6)), (7, .int a7), (8, .int a8), (9, .int a9)] [.int x47, .int 1, .int x44, .int a9, .ref (eA (kZ K) a6)] s48
        refine Z_ishl hk dL_isTurned_92 ?_
        refine Z_ior hk dL_isTurned_93 ?_
        obtain ⟨i52, s50, e51, h⟩ := stI_get h
        refine Z_iast hk ha6 i52 dL_isTurned_94 ?_
        refine Z_eqS e51 ?_
        obtain ⟨x53, e54, h⟩ := nm_get h
        refine Z_iinc hk 8 (v := x53) (lv' := [(9, .int x53), (0, .ref (eA (kZ K) a0)), (1, .int a1), (2, .long a2), (4, .int a4), (5, .int a5), (6, .ref (eA (kZ K) a6)), (7, .int a7), (8, .int a8)]) dL_isTurned_95 rfl (by rw [zc_iinc_1]; exact e54) (by decide) rfl ?_
        refine Z_goto hk (tgt := 64) dL_isTurned_98 (by decide) ?_
        refine Z_sub [1, 2, 3, 4, 5, 6, 7, 8, 0] rfl ?_
        exact ih a0 a1 a2 a4 a5 a6 a7 a8 x53 ha0 ha6 s50 h
set_option maxRecDepth 100000 in
set_option maxHeartbeats 4000000 in
theorem w_L_isTurned_58 {K : zK} {w : Nat} (hk : zIs K RL cL_isTurned 10 wsL_isTurned (some .boolean) r_L_isTurned) (hfl : (kL K).stackTraces = false) (hnx : zNX K) {r0 : Int32} {τ0 : zST} (hq : zQG K (.inr (some (.int r0))) τ0) (hw : eN (kZ K) = (w + 1)) (cs ss : Nat) (C S : Nat) (hr1 : cs + 0 ≤ C) (hr2 : ss + 0 ≤ S) (hb1 : cs + 0 ≤ 140) (hb2 : ss + 0 ≤ 1086) (F : Nat) (k18 : Nat → Int32 → Int64 → Int32 → Int32 → Nat → Int32 → zST → Option (Int32 × zST)) (hk18 : ∀ (a0 : Nat) (a1 : Int32) (a2 : Int64) (a4 : Int32) (a5 : Int32) (a6 : Nat) (a7 : Int32) (ha0 : atCanonCote (kZ K) a0) (ha6 : aI (kZ K) a6 8) (σ : zST), k18 a0 a1 a2 a4 a5 a6 a7 σ = some (r0, τ0) → Z K C S 18 [(0, .ref (eA (kZ K) a0)), (1, .int a1), (2, .long a2), (4, .int a4), (5, .int a5), (6, .ref (eA (kZ K) a6)), (7, .int a7)] [] σ) (a0 : Nat) (a1 : Int32) (a2 : Int64) (a4 : Int32) (a6 : Nat) (a7 : Int32) (a8 : Int32) (t0 : Int32) (t1 : Int32) (ha0 : atCanonCote (kZ K) a0) (ha6 : aI (kZ K) a6 8) (σ : zST) (h : m_L_isTurned_58 F w k18 a0 a1 a2 a4 a6 a7 a8 t0 t1 σ = some (r0, τ0)) : Z K cs ss 58 [(0, .ref (eA (kZ K) a0)), (1, .int a1), (2, .long a2), (4, .int a4), (6, .ref (eA (kZ K) a6)), (7, .int a7), (8, .int a8)] [.int t0, .int t1] σ := by
  unfold m_L_isTurned_58 at h
  refine Z_iadd hk dL_isTurned_58 ?_
  obtain ⟨x30, e31, h⟩ := nm_get h
  refine Z_eqI e31 ?_
  refine Z_istore hk (lv' := [(5, .int x30), (0, .ref (eA (kZ K) a0)), (1, .int a1), (2, .long a2), (4, .int a4), (6, .ref (eA (kZ K) a6)), (7, .int a7), (8, .int a8)]) dL_isTurned_59 (by decide) rfl ?_
  refine Z_iconst hk dL_isTurned_61 zc_iconst_0 ?_
  refine Z_istore hk (lv' := [(9, .int 0), (5, .int x30), (0, .ref (eA (kZ K) a0)), (1, .int a1), (2, .long a2), (4, .int a4), (6, .ref (eA (kZ K) a6)), (7, .int a7), (8, .int a8)]) dL_isTurned_62 (by decide) rfl ?_
  refine Z_sub [2, 3, 4, 5, 1, 6, 7, 8, 0] rfl ?_
  exact w_L_isTurned_64 hk hfl hnx hq hw cs ss C S (by omega) (by omega) (by omega) (by omega) F k18 hk18 F a0 a1 a2 a4 x30 a6 a7 a8 0 ha0 ha6 σ h
set_option maxRecDepth 100000 in
set_option maxHeartbeats 4000000 in
theorem w_L_isTurned_44 {K : zK} {w : Nat} (hk : zIs K RL cL_isTurned 10 wsL_isTurned (some .boolean) r_L_isTurned) (hfl : (kL K).stackTraces = false) (hnx : zNX K) {r0 : Int32} {τ0 : zST} (hq : zQG K (.inr (some (.int r0))) τ0) (hw : eN (kZ K) = (w + 1)) (cs ss : Nat) (C S : Nat) (hr1 : cs + 0 ≤ C) (hr2 : ss + 0 ≤ S) (hb1 : cs + 0 ≤ 140) (hb2 : ss + 0 ≤ 1086) (F : Nat) (k18 : Nat → Int32 → Int64 → Int32 → Int32 → Nat → Int32 → zST → Option (Int32 × zST)) (hk18 : ∀ (a0 : Nat) (a1 : Int32) (a2 : Int64) (a4 : Int32) (a5 : Int32) (a6 : Nat) (a7 : Int32) (ha0 : atCanonCote (kZ K) a0) (ha6 : aI (kZ K) a6 8) (σ : zST), k18 a0 a1 a2 a4 a5 a6 a7 σ = some (r0, τ0) → Z K C S 18 [(0, .ref (eA (kZ K) a0)), (1, .int a1), (2, .long a2), (4, .int a4), (5, .int a5), (6, .ref (eA (kZ K) a6)), (7, .int a7)] [] σ) (a0 : Nat) (a1 : Int32) (a2 : Int64) (a4 : Int32) (a5 : Int32) (a6 : Nat) (a7 : Int32) (t0 : Int32) (ha0 : atCanonCote (kZ K) a0) (ha6 : aI (kZ K) a6 8) (σ : zST) (h : m_L_isTurned_44 F w k18 a0 a1 a2 a4 a5 a6 a7 t0 σ = some (r0, τ0)) : Z K cs ss 44 [(0, .ref (eA (kZ K) a0)), (1, .int a1), (2, .long a2), (4, .int a4), (5, .int a5), (6, .ref (eA (kZ K) a6)), (7, .int a7)] [.int t0] σ := by
  unfold m_L_isTurned_44 at h
  refine Z_istore hk (lv' := [(8, .int t0), (0, .ref (eA (kZ K) a0)), (1, .int a1), (2, .long a2), (4, .int a4), (5, .int a5), (6, .ref (eA (kZ K) a6)), (7, .int a7)]) dL_isTurned_44 (by decide) rfl ?_
  refine Z_iload hk 5 dL_isTurned_46 rfl ?_
  refine Z_iload hk 0 dL_isTurned_48 rfl ?_
  refine Z_if_eq hk (tgt := 57) dL_isTurned_50 (by decide) (fun c18 => ?_) (fun c18 => ?_)
  · have h := if_yes h c18
    refine Z_iconst hk dL_isTurned_57 zc_iconst_0 ?_
    refine Z_sub [1, 2, 3, 4, 6, 7, 0] rfl ?_
    exact w_L_isTurned_58 hk hfl hnx hq hw cs ss C S (by omega) (by omega) (by omega) (by omega) F k18 hk18 a0 a1 a2 a4 a6 a7 t0 0 a5 ha0 ha6 σ h
  · have h := if_no h c18
    refine Z_iconst hk dL_isTurned_53 zc_iconst_1 ?_
    refine Z_goto hk (tgt := 58) dL_isTurned_54 (by decide) ?_
    refine Z_sub [1, 2, 3, 4, 6, 7, 0] rfl ?_
    exact w_L_isTurned_58 hk hfl hnx hq hw cs ss C S (by omega) (by omega) (by omega) (by omega) F k18 hk18 a0 a1 a2 a4 a6 a7 t0 1 a5 ha0 ha6 σ h
set_option maxRecDepth 100000 in
set_option maxHeartbeats 4000000 in
theorem w_L_isTurned_185 {K : zK} {w : Nat} (hk : zIs K RL cL_isTurned 10 wsL_isTurned (some .boolean) r_L_isTurned) (hfl : (kL K).stackTraces = false) (hnx : zNX K) {r0 : Int32} {τ0 : zST} (hq : zQG K (.inr (some (.int r0))) τ0) (hw : eN (kZ K) = (w + 1)) (cs ss : Nat) (C S : Nat) (hr1 : cs + 0 ≤ C) (hr2 : ss + 0 ≤ S) (hb1 : cs + 0 ≤ 140) (hb2 : ss + 0 ≤ 1086) (F : Nat) (k130 : Nat → Int32 → Int32 → Nat → Int32 → Int32 → Int32 → zST → Option (Int32 × zST)) (hk130 : ∀ (a0 : Nat) (a1 : Int32) (a4 : Int32) (a6 : Nat) (a7 : Int32) (a8 : Int32) (a9 : Int32) (ha0 : atCanonCote (kZ K) a0) (ha6 : aI (kZ K) a6 8) (σ : zST), k130 a0 a1 a4 a6 a7 a8 a9 σ = some (r0, τ0) → Z K C S 130 [(0, .ref (eA (kZ K) a0)), (1, .int a1), (4, .int a4), (6, .ref (eA (kZ K) a6)), (7, .int a7), (8, .int a8), (9, .int a9)] [] σ) (a0 : Nat) (a1 : Int32) (a4 : Int32) (a6 : Nat) (a7 : Int32) (a9 : Int32) (t0 : Int32) (ha0 : atCanonCote (kZ K) a0) (ha6 : aI (kZ K) a6 8) (σ : zST) (h : m_L_isTurned_185 F w k130 a0 a1 a4 a6 a7 a9 t0 σ = some (r0, τ0)) : Z K cs ss 185 [(0, .ref (eA (kZ K) a0)), (1, .int a1), (4, .int a4), (6, .ref (eA (kZ K) a6)), (7, .int a7), (9, .int a9)] [.int t0] σ := by
  unfold m_L_isTurned_185 at h
  refine Z_istore hk (lv' := [(8, .int t0), (0, .ref (eA (kZ K) a0)), (1, .int a1), (4, .int a4), (6, .ref (eA (kZ K) a6)), (7, .int a7), (9, .int a9)]) dL_isTurned_185 (by decide) rfl ?_
  obtain ⟨x55, e56, h⟩ := nm_get h
  refine Z_iinc hk 6 (v := x55) (lv' := [(9, .int x55), (8, .int t0), (0, .ref (eA (kZ K) a0)), (1, .int a1), (4, .int a4), (6, .ref (eA (kZ K) a6)), (7, .int a7)]) dL_isTurned_187 rfl (by rw [zc_iinc_1]; exact e56) (by decide) rfl ?_
  refine Z_goto hk (tgt := 130) dL_isTurned_190 (by decide) ?_
  refine Z_sub [2, 3, 4, 5, 6, 1, 0] rfl ?_
  refine Z_widen (cs' := C) (ss' := S) (by omega) (by omega) ?_
  exact hk130 a0 a1 a4 a6 a7 t0 x55 ha0 ha6 σ h
set_option maxRecDepth 100000 in
set_option maxHeartbeats 4000000 in
theorem w_L_isTurned_184 {K : zK} {w : Nat} (hk : zIs K RL cL_isTurned 10 wsL_isTurned (some .boolean) r_L_isTurned) (hfl : (kL K).stackTraces = false) (hnx : zNX K) {r0 : Int32} {τ0 : zST} (hq : zQG K (.inr (some (.int r0))) τ0) (hw : eN (kZ K) = (w + 1)) (cs ss : Nat) (C S : Nat) (hr1 : cs + 0 ≤ C) (hr2 : ss + 0 ≤ S) (hb1 : cs + 0 ≤ 140) (hb2 : ss + 0 ≤ 1086) (F : Nat) (k130 : Nat → Int32 → Int32 → Nat → Int32 → Int32 → Int32 → zST → Option (Int32 × zST)) (hk130 : ∀ (a0 : Nat) (a1 : Int32) (a4 : Int32) (a6 : Nat) (a7 : Int32) (a8 : Int32) (a9 : Int32) (ha0 : atCanonCote (kZ K) a0) (ha6 : aI (kZ K) a6 8) (σ : zST), k130 a0 a1 a4 a6 a7 a8 a9 σ = some (r0, τ0) → Z K C S 130 [(0, .ref (eA (kZ K) a0)), (1, .int a1), (4, .int a4), (6, .ref (eA (kZ K) a6)), (7, .int a7), (8, .int a8), (9, .int a9)] [] σ) (a0 : Nat) (a1 : Int32) (a4 : Int32) (a6 : Nat) (a7 : Int32) (a9 : Int32) (ha0 : atCanonCote (kZ K) a0) (ha6 : aI (kZ K) a6 8) (σ : zST) (h : m_L_isTurned_184 F w k130 a0 a1 a4 a6 a7 a9 σ = some (r0, τ0)) : Z K cs ss 184 [(0, .ref (eA (kZ K) a0)), (1, .int a1), (4, .int a4), (6, .ref (eA (kZ K) a6)), (7, .int a7), (9, .int a9)] [] σ := by
  unfold m_L_isTurned_184 at h
  refine Z_iconst hk dL_isTurned_184 zc_iconst_0 ?_
  refine Z_sub [0, 1, 2, 3, 4, 5] rfl ?_
  exact w_L_isTurned_185 hk hfl hnx hq hw cs ss C S (by omega) (by omega) (by omega) (by omega) F k130 hk130 a0 a1 a4 a6 a7 a9 0 ha0 ha6 σ h
set_option maxRecDepth 100000 in
set_option maxHeartbeats 4000000 in
theorem w_L_isTurned_157 {K : zK} {w : Nat} (hk : zIs K RL cL_isTurned 10 wsL_isTurned (some .boolean) r_L_isTurned) (hfl : (kL K).stackTraces = false) (hnx : zNX K) {r0 : Int32} {τ0 : zST} (hq : zQG K (.inr (some (.int r0))) τ0) (hw : eN (kZ K) = (w + 1)) (cs ss : Nat) (C S : Nat) (hr1 : cs + 2 ≤ C) (hr2 : ss + 12 ≤ S) (hb1 : cs + 2 ≤ 140) (hb2 : ss + 12 ≤ 1086) (F : Nat) (k130 : Nat → Int32 → Int32 → Nat → Int32 → Int32 → Int32 → zST → Option (Int32 × zST)) (hk130 : ∀ (a0 : Nat) (a1 : Int32) (a4 : Int32) (a6 : Nat) (a7 : Int32) (a8 : Int32) (a9 : Int32) (ha0 : atCanonCote (kZ K) a0) (ha6 : aI (kZ K) a6 8) (σ : zST), k130 a0 a1 a4 a6 a7 a8 a9 σ = some (r0, τ0) → Z K C S 130 [(0, .ref (eA (kZ K) a0)), (1, .int a1), (4, .int a4), (6, .ref (eA (kZ K) a6)), (7, .int a7), (8, .int a8), (9, .int a9)] [] σ) (a0 : Nat) (a1 : Int32) (a4 : Int32) (a6 : Nat) (a8 : Int32) (a9 : Int32) (t0 : Int32) (t1 : Int32) (ha0 : atCanonCote (kZ K) a0) (ha6 : aI (kZ K) a6 8) (σ : zST) (h : m_L_isTurned_157 F w k130 a0 a1 a4 a6 a8 a9 t0 t1 σ = some (r0, τ0)) : Z K cs ss 157 [(0, .ref (eA (kZ K) a0)), (1, .int a1), (4, .int a4), (6, .ref (eA (kZ K) a6)), (8, .int a8), (9, .int a9)] [.int t0, .int t1] σ := by
  unfold m_L_isTurned_157 at h
  refine Z_iadd hk dL_isTurned_157 ?_
  obtain ⟨x32, e33, h⟩ := nm_get h
  refine Z_eqI e33 ?_
  refine Z_istore hk (lv' := [(7, .int x32), (0, .ref (eA (kZ K) a0)), (1, .int a1), (4, .int a4), (6, .ref (eA (kZ K) a6)), (8, .int a8), (9, .int a9)]) dL_isTurned_158 (by decide) rfl ?_
  refine Z_iload hk 5 dL_isTurned_160 rfl ?_
  refine Z_if_eq hk (tgt := 184) dL_isTurned_162 (by decide) (fun c34 => ?_) (fun c34 => ?_)
  · have h := if_yes h c34
    refine Z_sub [1, 2, 3, 4, 0, 6] rfl ?_
    exact w_L_isTurned_184 hk hfl hnx hq hw cs ss C S (by omega) (by omega) (by omega) (by omega) F k130 hk130 a0 a1 a4 a6 x32 a9 ha0 ha6 σ h
  · have h := if_no h c34
    refine Z_aload_n hk 1 dL_isTurned_165 rfl rfl ?_
    refine Z_iload_n hk 2 dL_isTurned_166 rfl rfl ?_
    refine Z_iload hk 6 dL_isTurned_167 rfl ?_
    obtain ⟨x35, s36, h37, h⟩ := br_ok h
    refine ZX_callV 2 hk [.int a1, .int a9] (c_X7_orbit hk.loc hk.inj hfl F a0 a1 a9 ha0 σ h37) gL_isTurned_X7_orbit rfl ⟨rfl, by decide +kernel, by decide +kernel, by decide +kernel⟩ ⟨Nat.le_of_ble_eq_true rfl, Nat.le_of_ble_eq_true rfl⟩ ha0.cell.1 (ha0.cell.2 _) rfl rfl rfl (Nat.le_of_ble_eq_true rfl) ⟨by show cs + 2 ≤ 140; omega, by show ss + 12 ≤ 1086; omega⟩ dL_isTurned_169 (fun X hX => by cases hX) (fun v hv => ?_)
    cases hv
    show Z K (cs + 2) (ss + 12) 172 [(7, .int x32), (0, .ref (eA (kZ K) a0)), (1, .int a1), (4, .int a4), (6, .ref (eA (kZ K) a6)), (8, .int a8), (9, .int a9)] [.int x35] s36
    refine Z_aload hk 4 dL_isTurned_172 rfl ?_
    refine Z_iload hk 6 dL_isTurned_174 rfl ?_
    obtain ⟨i40, x38, e39, h⟩ := ldI_get h
    refine Z_iald hk ha6 i40 dL_isTurned_176 ?_
    refine Z_eqI e39 ?_
    refine Z_icmp_ne hk (tgt := 184) dL_isTurned_177 (by decide) (fun c41 => ?_) (fun c41 => ?_)
    · have h := if_yes h c41
      refine Z_iconst hk dL_isTurned_180 zc_iconst_1 ?_
      refine Z_goto hk (tgt := 185) dL_isTurned_181 (by decide) ?_
      refine Z_sub [1, 2, 3, 4, 0, 6] rfl ?_
      exact w_L_isTurned_185 hk hfl hnx hq hw (cs + 2) (ss + 12) C S (by omega) (by omega) (by omega) (by omega) F k130 hk130 a0 a1 a4 a6 x32 a9 1 ha0 ha6 s36 h
    · have h := if_no h c41
      refine Z_sub [1, 2, 3, 4, 0, 6] rfl ?_
      exact w_L_isTurned_184 hk hfl hnx hq hw (cs + 2) (ss + 12) C S (by omega) (by omega) (by omega) (by omega) F k130 hk130 a0 a1 a4 a6 x32 a9 ha0 ha6 s36 h
set_option maxRecDepth 100000 in
set_option maxHeartbeats 4000000 in
theorem w_L_isTurned_212 {K : zK} {w : Nat} (hk : zIs K RL cL_isTurned 10 wsL_isTurned (some .boolean) r_L_isTurned) (hfl : (kL K).stackTraces = false) (hnx : zNX K) {r0 : Int32} {τ0 : zST} (hq : zQG K (.inr (some (.int r0))) τ0) (hw : eN (kZ K) = (w + 1)) (cs ss : Nat) (hb1 : cs + 0 ≤ 140) (hb2 : ss + 0 ≤ 1086) (F : Nat)  (σ : zST) (h : m_L_isTurned_212 F w σ = some (r0, τ0)) : Z K cs ss 212 [] [] σ := by
  unfold m_L_isTurned_212 at h
  refine Z_iconst hk dL_isTurned_212 zc_iconst_0 ?_
  cases h
  exact ZG_zret hk (by decide) hq ⟨by show cs + 0 ≤ 140; omega, by show ss + 0 ≤ 1086; omega⟩ dL_isTurned_213
set_option maxRecDepth 100000 in
set_option maxHeartbeats 4000000 in
theorem w_L_isTurned_130 {K : zK} {w : Nat} (hk : zIs K RL cL_isTurned 10 wsL_isTurned (some .boolean) r_L_isTurned) (hfl : (kL K).stackTraces = false) (hnx : zNX K) {r0 : Int32} {τ0 : zST} (hq : zQG K (.inr (some (.int r0))) τ0) (hw : eN (kZ K) = (w + 1)) (F : Nat) : ∀ (n : Nat) (cs ss : Nat) (hb1 : cs + 2 * n + 2 ≤ 140) (hb2 : ss + 12 * n + 12 ≤ 1086) (a0 : Nat) (a1 : Int32) (a4 : Int32) (a6 : Nat) (a7 : Int32) (a8 : Int32) (a9 : Int32) (ha0 : atCanonCote (kZ K) a0) (ha6 : aI (kZ K) a6 8) (σ : zST), m_L_isTurned_130 F w n a0 a1 a4 a6 a7 a8 a9 σ = some (r0, τ0) → Z K cs ss 130 [(0, .ref (eA (kZ K) a0)), (1, .int a1), (4, .int a4), (6, .ref (eA (kZ K) a6)), (7, .int a7), (8, .int a8), (9, .int a9)] [] σ := by
  intro n
  induction n with
  | zero => intro cs ss hb1 hb2 a0 a1 a4 a6 a7 a8 a9 ha0 ha6 σ h; cases h
  | succ n ih0 =>
    intro cs ss hb1 hb2 a0 a1 a4 a6 a7 a8 a9 ha0 ha6 σ h
    have ih := ih0 (cs + 2) (ss + 12) (by omega) (by omega)
    rw [m_L_isTurned_130] at h
    refine Z_iload hk 6 dL_isTurned_130 rfl ?_
    refine Z_iload hk 2 dL_isTurned_132 rfl ?_
    refine Z_icmp_ge hk (tgt := 193) dL_isTurned_134 (by decide) (fun c19 => ?_) (fun c19 => ?_)
    · have h := if_yes h c19
      refine Z_iload hk 5 dL_isTurned_193 rfl ?_
      refine Z_if_eq hk (tgt := 212) dL_isTurned_195 (by decide) (fun c20 => ?_) (fun c20 => ?_)
      · have h := if_yes h c20
        refine Z_sub [] rfl ?_
        exact w_L_isTurned_212 hk hfl hnx hq hw cs ss (by omega) (by omega) F σ h
      · have h := if_no h c20
        refine Z_aload_n hk 0 dL_isTurned_198 rfl rfl ?_
        refine Z_iload_n hk 1 dL_isTurned_199 rfl rfl ?_
        obtain ⟨x21, s22, h23, h⟩ := br_ok h
        refine ZX_callV 1 hk [.int a1] (c_X7_orbits hk.loc hk.inj hfl F a0 a1 ha0 σ h23) gL_isTurned_X7_orbits rfl ⟨rfl, by decide +kernel, by decide +kernel, by decide +kernel⟩ ⟨Nat.le_of_ble_eq_true rfl, Nat.le_of_ble_eq_true rfl⟩ ha0.cell.1 (ha0.cell.2 _) rfl rfl rfl (Nat.le_of_ble_eq_true rfl) ⟨by show cs + 1 ≤ 140; omega, by show ss + 6 ≤ 1086; omega⟩ dL_isTurned_200 (fun X hX => by cases hX) (fun v hv => ?_)
        cases hv
        show Z K (cs + 1) (ss + 6) 203 [(0, .ref (eA (kZ K) a0)), (1, .int a1), (4, .int a4), (6, .ref (eA (kZ K) a6)), (7, .int a7), (8, .int a8), (9, .int a9)] [.int x21] s22
        refine Z_iload hk 4 dL_isTurned_203 rfl ?_
        refine Z_icmp_ne hk (tgt := 212) dL_isTurned_205 (by decide) (fun c24 => ?_) (fun c24 => ?_)
        · have h := if_yes h c24
          refine Z_iconst hk dL_isTurned_208 zc_iconst_1 ?_
          refine Z_goto hk (tgt := 213) dL_isTurned_209 (by decide) ?_
          cases h
          exact ZG_zret hk (by decide) hq ⟨by show (cs + 1) + 0 ≤ 140; omega, by show (ss + 6) + 0 ≤ 1086; omega⟩ dL_isTurned_213
        · have h := if_no h c24
          refine Z_sub [] rfl ?_
          exact w_L_isTurned_212 hk hfl hnx hq hw (cs + 1) (ss + 6) (by omega) (by omega) F s22 h
    · have h := if_no h c19
      refine Z_iload hk 4 dL_isTurned_137 rfl ?_
      refine Z_aload hk 3 dL_isTurned_139 rfl ?_
      refine Z_iload hk 6 dL_isTurned_141 rfl ?_
      obtain ⟨i27, x25, e26, h⟩ := ldI_get h
      refine Z_iald hk ha6 i27 dL_isTurned_143 ?_
      refine Z_eqI e26 ?_
      refine Z_iconst hk dL_isTurned_144 zc_iconst_1 ?_
      refine Z_iload hk 6 dL_isTurned_145 rfl ?_
      refine Z_ishl hk dL_isTurned_147 ?_
      obtain ⟨z28, h⟩ := gd_some h
      refine Z_irem hk dL_isTurned_148 z28 ?_
      refine Z_if_ne hk (tgt := 156) dL_isTurned_149 (by decide) (fun c29 => ?_) (fun c29 => ?_)
      · have h := if_yes h c29
        refine Z_iconst hk dL_isTurned_152 zc_iconst_1 ?_
        refine Z_goto hk (tgt := 157) dL_isTurned_153 (by decide) ?_
        refine Z_sub [0, 1, 2, 3, 5, 6] rfl ?_
        exact w_L_isTurned_157 hk hfl hnx hq hw cs ss (cs + 2) (ss + 12) (by omega) (by omega) (by omega) (by omega) F (m_L_isTurned_130 F w n) ih a0 a1 a4 a6 a8 a9 1 a7 ha0 ha6 σ h
      · have h := if_no h c29
        refine Z_iconst hk dL_isTurned_156 zc_iconst_0 ?_
        refine Z_sub [0, 1, 2, 3, 5, 6] rfl ?_
        exact w_L_isTurned_157 hk hfl hnx hq hw cs ss (cs + 2) (ss + 12) (by omega) (by omega) (by omega) (by omega) F (m_L_isTurned_130 F w n) ih a0 a1 a4 a6 a8 a9 0 a7 ha0 ha6 σ h
set_option maxRecDepth 100000 in
set_option maxHeartbeats 4000000 in
theorem w_L_isTurned_125 {K : zK} {w : Nat} (hk : zIs K RL cL_isTurned 10 wsL_isTurned (some .boolean) r_L_isTurned) (hfl : (kL K).stackTraces = false) (hnx : zNX K) {r0 : Int32} {τ0 : zST} (hq : zQG K (.inr (some (.int r0))) τ0) (hw : eN (kZ K) = (w + 1)) (cs ss : Nat) (hb1 : cs + 16 ≤ 140) (hb2 : ss + 96 ≤ 1086) (F : Nat) (a0 : Nat) (a1 : Int32) (a4 : Int32) (a6 : Nat) (a7 : Int32) (t0 : Int32) (ha0 : atCanonCote (kZ K) a0) (ha6 : aI (kZ K) a6 8) (σ : zST) (h : m_L_isTurned_125 F w a0 a1 a4 a6 a7 t0 σ = some (r0, τ0)) : Z K cs ss 125 [(0, .ref (eA (kZ K) a0)), (1, .int a1), (4, .int a4), (6, .ref (eA (kZ K) a6)), (7, .int a7)] [.int t0] σ := by
  unfold m_L_isTurned_125 at h
  refine Z_istore hk (lv' := [(8, .int t0), (0, .ref (eA (kZ K) a0)), (1, .int a1), (4, .int a4), (6, .ref (eA (kZ K) a6)), (7, .int a7)]) dL_isTurned_125 (by decide) rfl ?_
  refine Z_iconst hk dL_isTurned_127 zc_iconst_0 ?_
  refine Z_istore hk (lv' := [(9, .int 0), (8, .int t0), (0, .ref (eA (kZ K) a0)), (1, .int a1), (4, .int a4), (6, .ref (eA (kZ K) a6)), (7, .int a7)]) dL_isTurned_128 (by decide) rfl ?_
  refine Z_sub [2, 3, 4, 5, 6, 1, 0] rfl ?_
  exact w_L_isTurned_130 hk hfl hnx hq hw F 7 cs ss (by omega) (by omega) a0 a1 a4 a6 a7 t0 0 ha0 ha6 σ h
set_option maxRecDepth 100000 in
set_option maxHeartbeats 4000000 in
theorem w_L_isTurned_18 {K : zK} {w : Nat} (hk : zIs K RL cL_isTurned 10 wsL_isTurned (some .boolean) r_L_isTurned) (hfl : (kL K).stackTraces = false) (hnx : zNX K) {r0 : Int32} {τ0 : zST} (hq : zQG K (.inr (some (.int r0))) τ0) (hw : eN (kZ K) = (w + 1)) (F : Nat) : ∀ (n : Nat) (cs ss : Nat) (hb1 : cs + 1 * n + 17 ≤ 140) (hb2 : ss + 8 * n + 102 ≤ 1086) (a0 : Nat) (a1 : Int32) (a2 : Int64) (a4 : Int32) (a5 : Int32) (a6 : Nat) (a7 : Int32) (ha0 : atCanonCote (kZ K) a0) (ha6 : aI (kZ K) a6 8) (σ : zST), m_L_isTurned_18 F w n a0 a1 a2 a4 a5 a6 a7 σ = some (r0, τ0) → Z K cs ss 18 [(0, .ref (eA (kZ K) a0)), (1, .int a1), (2, .long a2), (4, .int a4), (5, .int a5), (6, .ref (eA (kZ K) a6)), (7, .int a7)] [] σ := by
  intro n
  induction n with
  | zero => intro cs ss hb1 hb2 a0 a1 a2 a4 a5 a6 a7 ha0 ha6 σ h; cases h
  | succ n ih0 =>
    intro cs ss hb1 hb2 a0 a1 a2 a4 a5 a6 a7 ha0 ha6 σ h
    have ih := ih0 (cs + 1) (ss + 8) (by omega) (by omega)
    rw [m_L_isTurned_18] at h
    refine Z_iload hk 6 dL_isTurned_18 rfl ?_
    refine Z_iload hk 3 dL_isTurned_20 rfl ?_
    obtain ⟨x6, s7, h8, h⟩ := bd_ok h
    refine Z_callT 1 hk [.int a4] (c_L_maps hk.loc hk.inj F a4 σ h8) gL_isTurned_L_maps rfl ⟨rfl, rfl⟩ (by decide +kernel) ⟨Nat.le_of_ble_eq_true rfl, Nat.le_of_ble_eq_true rfl⟩ rfl rfl (Nat.le_of_ble_eq_true rfl) ⟨by show cs + 0 ≤ 140; omega, by show ss + 0 ≤ 1086; omega⟩ dL_isTurned_22 ?_
    show Z K cs ss 25 [(0, .ref (eA (kZ K) a0)), (1, .int a1), (2, .long a2), (4, .int a4), (5, .int a5), (6, .ref (eA (kZ K) a6)), (7, .int a7)] [.int x6, .int a7] s7
    refine Z_icmp_ge hk (tgt := 107) dL_isTurned_25 (by decide) (fun c9 => ?_) (fun c9 => ?_)
    · have h := if_yes h c9
      refine Z_iconst hk dL_isTurned_107 zc_iconst_0 ?_
      refine Z_istore hk (lv' := [(7, .int 0), (0, .ref (eA (kZ K) a0)), (1, .int a1), (2, .long a2), (4, .int a4), (5, .int a5), (6, .ref (eA (kZ K) a6))]) dL_isTurned_108 (by decide) rfl ?_
      refine Z_aload_n hk 1 dL_isTurned_110 rfl rfl ?_
      refine Z_iload_n hk 2 dL_isTurned_111 rfl rfl ?_
      obtain ⟨x10, s11, h12, h⟩ := br_ok h
      refine ZX_callV 1 hk [.int a1] (c_X7_symmetries hk.loc hk.inj hfl F a0 a1 ha0 s7 h12) gL_isTurned_X7_symmetries rfl ⟨rfl, by decide +kernel, by decide +kernel, by decide +kernel⟩ ⟨Nat.le_of_ble_eq_true rfl, Nat.le_of_ble_eq_true rfl⟩ ha0.cell.1 (ha0.cell.2 _) rfl rfl rfl (Nat.le_of_ble_eq_true rfl) ⟨by show cs + 1 ≤ 140; omega, by show ss + 6 ≤ 1086; omega⟩ dL_isTurned_112 (fun X hX => by cases hX) (fun v hv => ?_)
      cases hv
      show Z K (cs + 1) (ss + 6) 115 [(7, .int 0), (0, .ref (eA (kZ K) a0)), (1, .int a1), (2, .long a2), (4, .int a4), (5, .int a5), (6, .ref (eA (kZ K) a6))] [.int x10] s11
      refine Z_iload hk 5 dL_isTurned_115 rfl ?_
      refine Z_icmp_ne hk (tgt := 124) dL_isTurned_117 (by decide) (fun c13 => ?_) (fun c13 => ?_)
      · have h := if_yes h c13
        refine Z_iconst hk dL_isTurned_120 zc_iconst_1 ?_
        refine Z_goto hk (tgt := 125) dL_isTurned_121 (by decide) ?_
        refine Z_sub [1, 2, 4, 6, 0] rfl ?_
        exact w_L_isTurned_125 hk hfl hnx hq hw (cs + 1) (ss + 6) (by omega) (by omega) F a0 a1 a4 a6 0 1 ha0 ha6 s11 h
      · have h := if_no h c13
        refine Z_iconst hk dL_isTurned_124 zc_iconst_0 ?_
        refine Z_sub [1, 2, 4, 6, 0] rfl ?_
        exact w_L_isTurned_125 hk hfl hnx hq hw (cs + 1) (ss + 6) (by omega) (by omega) F a0 a1 a4 a6 0 0 ha0 ha6 s11 h
    · have h := if_no h c9
      refine Z_lload_n hk 2 dL_isTurned_28 rfl rfl ?_
      refine Z_iload hk 6 dL_isTurned_29 rfl ?_
      obtain ⟨x14, s15, h16, h⟩ := bd_ok h
      refine ZX_callT 2 hk [.long a2, .int a7] (c_L_put hk.loc hk.inj hfl F (w + 1) hw a2 a7 s7 h16) gL_isTurned_L_put rfl ⟨by decide +kernel, by decide +kernel, by decide +kernel⟩ ⟨Nat.le_of_ble_eq_true rfl, Nat.le_of_ble_eq_true rfl⟩ rfl rfl (Nat.le_of_ble_eq_true rfl) ⟨by show cs + 1 ≤ 140; omega, by show ss + 8 ≤ 1086; omega⟩ dL_isTurned_31 (fun X hX => by cases hX) (fun v hv => ?_)
      cases hv
      show Z K (cs + 1) (ss + 8) 34 [(0, .ref (eA (kZ K) a0)), (1, .int a1), (2, .long a2), (4, .int a4), (5, .int a5), (6, .ref (eA (kZ K) a6)), (7, .int a7)] [.long x14] s15
      refine Z_lload_n hk 2 dL_isTurned_34 rfl rfl ?_
      refine Z_lcmp hk dL_isTurned_35 ?_
      refine Z_if_ne hk (tgt := 43) dL_isTurned_36 (by decide) (fun c17 => ?_) (fun c17 => ?_)
      · have h := if_yes h c17
        refine Z_iconst hk dL_isTurned_39 zc_iconst_1 ?_
        refine Z_goto hk (tgt := 44) dL_isTurned_40 (by decide) ?_
        refine Z_sub [0, 1, 2, 3, 4, 5, 6] rfl ?_
        exact w_L_isTurned_44 hk hfl hnx hq hw (cs + 1) (ss + 8) (cs + 1) (ss + 8) (by omega) (by omega) (by omega) (by omega) F (m_L_isTurned_18 F w n) ih a0 a1 a2 a4 a5 a6 a7 1 ha0 ha6 s15 h
      · have h := if_no h c17
        refine Z_iconst hk dL_isTurned_43 zc_iconst_0 ?_
        refine Z_sub [0, 1, 2, 3, 4, 5, 6] rfl ?_
        exact w_L_isTurned_44 hk hfl hnx hq hw (cs + 1) (ss + 8) (cs + 1) (ss + 8) (by omega) (by omega) (by omega) (by omega) F (m_L_isTurned_18 F w n) ih a0 a1 a2 a4 a5 a6 a7 0 ha0 ha6 s15 h
set_option maxRecDepth 100000 in
set_option maxHeartbeats 4000000 in
theorem w_L_isTurned_13 {K : zK} {w : Nat} (hk : zIs K RL cL_isTurned 10 wsL_isTurned (some .boolean) r_L_isTurned) (hfl : (kL K).stackTraces = false) (hnx : zNX K) {r0 : Int32} {τ0 : zST} (hq : zQG K (.inr (some (.int r0))) τ0) (hw : eN (kZ K) = (w + 1)) (cs ss : Nat) (hb1 : cs + 139 ≤ 140) (hb2 : ss + 1078 ≤ 1086) (F : Nat) (a0 : Nat) (a1 : Int32) (a2 : Int64) (a4 : Int32) (a5 : Int32) (t0 : Nat) (ha0 : atCanonCote (kZ K) a0) (ht0 : aI (kZ K) t0 8) (σ : zST) (h : m_L_isTurned_13 F w a0 a1 a2 a4 a5 t0 σ = some (r0, τ0)) : Z K cs ss 13 [(0, .ref (eA (kZ K) a0)), (1, .int a1), (2, .long a2), (4, .int a4), (5, .int a5)] [.ref (eA (kZ K) t0)] σ := by
  unfold m_L_isTurned_13 at h
  refine Z_astore hk (lv' := [(6, .ref (eA (kZ K) t0)), (0, .ref (eA (kZ K) a0)), (1, .int a1), (2, .long a2), (4, .int a4), (5, .int a5)]) dL_isTurned_13 (by decide) rfl ?_
  refine Z_iconst hk dL_isTurned_15 zc_iconst_0 ?_
  refine Z_istore hk (lv' := [(7, .int 0), (6, .ref (eA (kZ K) t0)), (0, .ref (eA (kZ K) a0)), (1, .int a1), (2, .long a2), (4, .int a4), (5, .int a5)]) dL_isTurned_16 (by decide) rfl ?_
  refine Z_sub [2, 3, 4, 5, 6, 1, 0] rfl ?_
  exact w_L_isTurned_18 hk hfl hnx hq hw F 122 cs ss (by omega) (by omega) a0 a1 a2 a4 a5 t0 0 ha0 ht0 σ h
set_option maxRecDepth 100000 in
set_option maxHeartbeats 4000000 in
theorem w_L_isTurned {K : zK} {w : Nat} (hk : zIs K RL cL_isTurned 10 wsL_isTurned (some .boolean) r_L_isTurned) (hfl : (kL K).stackTraces = false) (hnx : zNX K) {r0 : Int32} {τ0 : zST} (hq : zQG K (.inr (some (.int r0))) τ0) (hw : eN (kZ K) = w) (F : Nat) (a0 : Nat) (a1 : Int32) (a2 : Int64) (ha0 : atCanonCote (kZ K) a0) (σ : zST) (h : m_L_isTurned F w a0 a1 a2 σ = some (r0, τ0)) : Z K 0 0 0 [(0, .ref (eA (kZ K) a0)), (1, .int a1), (2, .long a2)] [] σ := by
  unfold m_L_isTurned at h
  refine Z_lload_n hk 2 dL_isTurned_0 rfl rfl ?_
  obtain ⟨x1, s2, h3, h⟩ := bd_ok h
  refine Z_callT 1 hk [.long a2] (c_L_size hk.loc hk.inj F a2 σ h3) gL_isTurned_L_size rfl ⟨rfl, rfl⟩ (by decide +kernel) ⟨Nat.le_of_ble_eq_true rfl, Nat.le_of_ble_eq_true rfl⟩ rfl rfl (Nat.le_of_ble_eq_true rfl) ⟨by show 0 + 0 ≤ 140; omega, by show 0 + 0 ≤ 1086; omega⟩ dL_isTurned_1 ?_
  show Z K 0 0 4 [(0, .ref (eA (kZ K) a0)), (1, .int a1), (2, .long a2)] [.int x1] s2
  refine Z_istore hk (lv' := [(4, .int x1), (0, .ref (eA (kZ K) a0)), (1, .int a1), (2, .long a2)]) dL_isTurned_4 (by decide) rfl ?_
  refine Z_iconst hk dL_isTurned_6 zc_iconst_0 ?_
  refine Z_istore hk (lv' := [(5, .int 0), (4, .int x1), (0, .ref (eA (kZ K) a0)), (1, .int a1), (2, .long a2)]) dL_isTurned_7 (by decide) rfl ?_
  refine Z_bipush hk dL_isTurned_9 zc_bipush_8 ?_
  obtain ⟨s4, e5, h⟩ := nm_get h
  refine Z_newI hk hw (N := 8) wd_L_isTurned_0 (by decide) (by decide +kernel) (Nat.le_of_ble_eq_true rfl) ⟨by show 0 + 1 ≤ 140; omega, by show 0 + 8 ≤ 1086; omega⟩ dL_isTurned_11 (fun K1 hk1 hX1 hw1 haN hl1 hnx1 hq1 => ?_)
  rw [← hX1.ad ha0.cell.1]
  replace ha0 := hX1.atCanonCote ha0
  refine Z_eqS e5 ?_
  rw [← hl1] at hfl
  have hnx := hnx1 hnx
  have hq := hq1 _ _ hq
  have hk := hk1
  have hw : eN (kZ K1) = (w + 1) := hw1
  refine Z_sub [2, 3, 4, 1, 0] rfl ?_
  exact w_L_isTurned_13 hk hfl hnx hq hw 1 8 (by omega) (by omega) F a0 a1 a2 x1 0 w ha0 haN s4 h
theorem c_L_isTurned {l : Launch} {E : zE} (hL : eL E) (hJ : eJ E) (hfl : l.stackTraces = false) (F w : Nat) (hw : eN E = w) (a0 : Nat) (a1 : Int32) (a2 : Int64) (ha0 : atCanonCote E a0) (σ : zST) {r0 : Int32} {τ0 : zST} (h : m_L_isTurned F w a0 a1 a2 σ = some (r0, τ0)) : CtX l yL_isTurned wsL_isTurned r_L_isTurned E [.ref (eA E a0), .int a1, .long a2] σ (.inr (some (.int r0))) τ0 := by
  refine CtX_of (by decide) rfl hL hJ (Nat.le_of_ble_eq_true rfl) (fun K hE hl hk hnx hq => ?_)
  subst hE
  subst hl
  exact w_L_isTurned hk hfl hnx (zQG.of hq) hw F a0 a1 a2 ha0 σ h
end
