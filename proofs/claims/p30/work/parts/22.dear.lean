-- CanonCoteLaw.from ([III)I
section
theorem dL_from_0 : decode cL_from 0 = .ok (.aload_n 0, 1) := by decide +kernel
theorem dL_from_1 : decode cL_from 1 = .ok (.arraylength, 1) := by decide +kernel
theorem dL_from_2 : decode cL_from 2 = .ok (.ifCond .ne 13, 3) := by decide +kernel
theorem dL_from_5 : decode cL_from 5 = .ok (.bipush 73, 2) := by decide +kernel
theorem dL_from_7 : decode cL_from 7 = .ok (.iload_n 1, 1) := by decide +kernel
theorem dL_from_8 : decode cL_from 8 = .ok (.imul, 1) := by decide +kernel
theorem dL_from_9 : decode cL_from 9 = .ok (.bipush 41, 2) := by decide +kernel
theorem dL_from_11 : decode cL_from 11 = .ok (.iadd, 1) := by decide +kernel
theorem dL_from_12 : decode cL_from 12 = .ok (.goto 14, 3) := by decide +kernel
theorem dL_from_15 : decode cL_from 15 = .ok (.aload_n 0, 1) := by decide +kernel
theorem dL_from_16 : decode cL_from 16 = .ok (.iload_n 1, 1) := by decide +kernel
theorem dL_from_17 : decode cL_from 17 = .ok (.aload_n 0, 1) := by decide +kernel
theorem dL_from_18 : decode cL_from 18 = .ok (.arraylength, 1) := by decide +kernel
theorem dL_from_19 : decode cL_from 19 = .ok (.irem, 1) := by decide +kernel
theorem dL_from_20 : decode cL_from 20 = .ok (.iaload, 1) := by decide +kernel
theorem dL_from_21 : decode cL_from 21 = .ok (.ldc 7, 2) := by decide +kernel
theorem dL_from_23 : decode cL_from 23 = .ok (.iload_n 1, 1) := by decide +kernel
theorem dL_from_24 : decode cL_from 24 = .ok (.imul, 1) := by decide +kernel
theorem dL_from_25 : decode cL_from 25 = .ok (.ixor, 1) := by decide +kernel
theorem dL_from_26 : decode cL_from 26 = .ok (.istore_n 3, 1) := by decide +kernel
theorem dL_from_27 : decode cL_from 27 = .ok (.iload_n 3, 1) := by decide +kernel
theorem dL_from_28 : decode cL_from 28 = .ok (.ldc 8, 2) := by decide +kernel
theorem dL_from_30 : decode cL_from 30 = .ok (.iand, 1) := by decide +kernel
theorem dL_from_31 : decode cL_from 31 = .ok (.iload_n 2, 1) := by decide +kernel
theorem dL_from_32 : decode cL_from 32 = .ok (.irem, 1) := by decide +kernel
theorem dL_from_33 : decode cL_from 33 = .ok (.ireturn, 1) := by decide +kernel
theorem wd_L_from_0 : Cond.constant RL 7 95107 ∈ wsL_from := by decide +kernel
theorem wd_L_from_1 : Cond.constant RL 8 2147483647 ∈ wsL_from := by decide +kernel
def r_L_from : Room := { frames := 1, cells := 0, slots := 0, locals := 12 }
set_option maxRecDepth 100000 in
set_option maxHeartbeats 4000000 in
theorem w_L_from_26 {K : zK} {w : Nat} {b L : Nat} {xs : Nat → Int32} (hk : zIs K RL cL_from 4 wsL_from (some .int) r_L_from) (hfl : (kL K).stackTraces = false) (hnx : zNX K) {r0 : Int32} {τ0 : zST} (hq : zQG K (.inr (some (.int r0))) τ0) (hw : eN (kZ K) = w) (hsc : zSc K b L xs) (hao : va_AO "CanonCote$Graph" (kS K)) (cs ss : Nat) (hb1 : cs + 0 ≤ 0) (hb2 : ss + 0 ≤ 0) (F : Nat) (a2 : Int32) (t0 : Int32) (σ : zST) (h : m_L_from_26 F w L xs a2 t0 σ = some (r0, τ0)) : Z K cs ss 26 [(0, .ref b), (2, .int a2)] [.int t0] σ := by
  unfold m_L_from_26 at h
  refine Z_istore_n hk (lv' := [(3, .int t0), (0, .ref b), (2, .int a2)]) dL_from_26 rfl (by decide) rfl ?_
  refine Z_iload_n hk 0 dL_from_27 rfl rfl ?_
  refine Z_ldc hk (v := 2147483647) dL_from_28 wd_L_from_1 ?_
  refine Z_iand hk dL_from_30 ?_
  refine Z_iload_n hk 2 dL_from_31 rfl rfl ?_
  obtain ⟨z6, h⟩ := gd_some h
  refine Z_irem hk dL_from_32 z6 ?_
  cases h
  exact ZG_iret hk hq ⟨by show cs + 0 ≤ 0; omega, by show ss + 0 ≤ 0; omega⟩ dL_from_33
set_option maxRecDepth 100000 in
set_option maxHeartbeats 4000000 in
theorem w_L_from {K : zK} {w : Nat} {b L : Nat} {xs : Nat → Int32} (hk : zIs K RL cL_from 4 wsL_from (some .int) r_L_from) (hfl : (kL K).stackTraces = false) (hnx : zNX K) {r0 : Int32} {τ0 : zST} (hq : zQG K (.inr (some (.int r0))) τ0) (hw : eN (kZ K) = w) (hsc : zSc K b L xs) (hao : va_AO "CanonCote$Graph" (kS K)) (F : Nat) (a1 : Int32) (a2 : Int32) (σ : zST) (h : m_L_from F w L xs a1 a2 σ = some (r0, τ0)) : Z K 0 0 0 [(0, .ref b), (1, .int a1), (2, .int a2)] [] σ := by
  unfold m_L_from at h
  refine Z_aload_n hk 0 dL_from_0 rfl rfl ?_
  refine Z_slen hk hsc dL_from_1 ?_
  refine Z_if_ne hk (tgt := 15) dL_from_2 (by decide) (fun c1 => ?_) (fun c1 => ?_)
  · have h := if_yes h c1
    refine Z_bipush hk dL_from_5 zc_bipush_73 ?_
    refine Z_iload_n hk 1 dL_from_7 rfl rfl ?_
    refine Z_imul hk dL_from_8 ?_
    refine Z_bipush hk dL_from_9 zc_bipush_41 ?_
    refine Z_iadd hk dL_from_11 ?_
    refine Z_goto hk (tgt := 26) dL_from_12 (by decide) ?_
    refine Z_sub [0, 2] rfl ?_
    exact w_L_from_26 hk hfl hnx hq hw hsc hao 0 0 (by omega) (by omega) F a2 ((73 * a1) + 41) σ h
  · have h := if_no h c1
    refine Z_aload_n hk 0 dL_from_15 rfl rfl ?_
    refine Z_iload_n hk 1 dL_from_16 rfl rfl ?_
    refine Z_aload_n hk 0 dL_from_17 rfl rfl ?_
    refine Z_slen hk hsc dL_from_18 ?_
    obtain ⟨z2, h⟩ := gd_some h
    refine Z_irem hk dL_from_19 z2 ?_
    obtain ⟨i5, x3, e4, h⟩ := ldT_get h
    refine Z_sld hk hsc i5 dL_from_20 ?_
    refine Z_eqI e4 ?_
    refine Z_ldc hk (v := 95107) dL_from_21 wd_L_from_0 ?_
    refine Z_iload_n hk 1 dL_from_23 rfl rfl ?_
    refine Z_imul hk dL_from_24 ?_
    refine Z_ixor hk dL_from_25 ?_
    refine Z_sub [0, 2] rfl ?_
    exact w_L_from_26 hk hfl hnx hq hw hsc hao 0 0 (by omega) (by omega) F a2 (x3 ^^^ (95107 * a1)) σ h
theorem c_L_from {l : Launch} {E : zE} {b L : Nat} {xs : Nat → Int32} (hL : eL E) (hJ : eJ E) (hfl : l.stackTraces = false) (F w : Nat) (hw : eN E = w) (a1 : Int32) (a2 : Int32) (σ : zST) {r0 : Int32} {τ0 : zST} (h : m_L_from F w L xs a1 a2 σ = some (r0, τ0)) : CtS l yL_from wsL_from r_L_from E [.ref b, .int a1, .int a2] σ (.inr (some (.int r0))) τ0 b L xs := by
  refine CtS_of (by decide) rfl hL hJ (Nat.le_of_ble_eq_true rfl) (fun K hE hl hk hnx hsc hao hq => ?_)
  subst hE
  subst hl
  exact w_L_from hk hfl hnx (zQG.of hq) hw hsc hao F a1 a2 σ h
end

-- CanonCoteLaw.put (JI)J
section
theorem dL_put_0 : decode cL_put 0 = .ok (.lload_n 0, 1) := by decide +kernel
theorem dL_put_1 : decode cL_put 1 = .ok (.invokestatic 23, 3) := by decide +kernel
theorem dL_put_4 : decode cL_put 4 = .ok (.istore_n 3, 1) := by decide +kernel
theorem dL_put_5 : decode cL_put 5 = .ok (.bipush 8, 2) := by decide +kernel
theorem dL_put_7 : decode cL_put 7 = .ok (.newarray .int, 2) := by decide +kernel
theorem dL_put_9 : decode cL_put 9 = .ok (.astore 4, 2) := by decide +kernel
theorem dL_put_11 : decode cL_put 11 = .ok (.iload_n 3, 1) := by decide +kernel
theorem dL_put_12 : decode cL_put 12 = .ok (.i2l, 1) := by decide +kernel
theorem dL_put_13 : decode cL_put 13 = .ok (.bipush 52, 2) := by decide +kernel
theorem dL_put_15 : decode cL_put 15 = .ok (.lshl, 1) := by decide +kernel
theorem dL_put_16 : decode cL_put 16 = .ok (.lstore 5, 2) := by decide +kernel
theorem dL_put_18 : decode cL_put 18 = .ok (.iconst 0, 1) := by decide +kernel
theorem dL_put_19 : decode cL_put 19 = .ok (.istore 7, 2) := by decide +kernel
theorem dL_put_21 : decode cL_put 21 = .ok (.iload 7, 2) := by decide +kernel
theorem dL_put_23 : decode cL_put 23 = .ok (.iload_n 3, 1) := by decide +kernel
theorem dL_put_24 : decode cL_put 24 = .ok (.if_icmp .ge 90, 3) := by decide +kernel
theorem dL_put_27 : decode cL_put 27 = .ok (.aload 4, 2) := by decide +kernel
theorem dL_put_29 : decode cL_put 29 = .ok (.iload 7, 2) := by decide +kernel
theorem dL_put_31 : decode cL_put 31 = .ok (.iload_n 3, 1) := by decide +kernel
theorem dL_put_32 : decode cL_put 32 = .ok (.iload_n 2, 1) := by decide +kernel
theorem dL_put_33 : decode cL_put 33 = .ok (.iload 7, 2) := by decide +kernel
theorem dL_put_35 : decode cL_put 35 = .ok (.invokestatic 27, 3) := by decide +kernel
theorem dL_put_38 : decode cL_put 38 = .ok (.iastore, 1) := by decide +kernel
theorem dL_put_39 : decode cL_put 39 = .ok (.lload 5, 2) := by decide +kernel
theorem dL_put_41 : decode cL_put 41 = .ok (.aload 4, 2) := by decide +kernel
theorem dL_put_43 : decode cL_put 43 = .ok (.iload 7, 2) := by decide +kernel
theorem dL_put_45 : decode cL_put 45 = .ok (.iaload, 1) := by decide +kernel
theorem dL_put_46 : decode cL_put 46 = .ok (.lload_n 0, 1) := by decide +kernel
theorem dL_put_47 : decode cL_put 47 = .ok (.iload 7, 2) := by decide +kernel
theorem dL_put_49 : decode cL_put 49 = .ok (.invokestatic 31, 3) := by decide +kernel
theorem dL_put_52 : decode cL_put 52 = .ok (.invokestatic 35, 3) := by decide +kernel
theorem dL_put_55 : decode cL_put 55 = .ok (.lstore 5, 2) := by decide +kernel
theorem dL_put_57 : decode cL_put 57 = .ok (.iconst 0, 1) := by decide +kernel
theorem dL_put_58 : decode cL_put 58 = .ok (.istore 8, 2) := by decide +kernel
theorem dL_put_60 : decode cL_put 60 = .ok (.iload 8, 2) := by decide +kernel
theorem dL_put_62 : decode cL_put 62 = .ok (.iload 7, 2) := by decide +kernel
theorem dL_put_64 : decode cL_put 64 = .ok (.if_icmp .ge 44, 3) := by decide +kernel
theorem dL_put_67 : decode cL_put 67 = .ok (.lload 5, 2) := by decide +kernel
theorem dL_put_69 : decode cL_put 69 = .ok (.lload_n 0, 1) := by decide +kernel
theorem dL_put_70 : decode cL_put 70 = .ok (.iload 7, 2) := by decide +kernel
theorem dL_put_72 : decode cL_put 72 = .ok (.iload 8, 2) := by decide +kernel
theorem dL_put_74 : decode cL_put 74 = .ok (.invokestatic 39, 3) := by decide +kernel
theorem dL_put_77 : decode cL_put 77 = .ok (.ifCond .eq 21, 3) := by decide +kernel
theorem dL_put_80 : decode cL_put 80 = .ok (.lconst 1, 1) := by decide +kernel
theorem dL_put_81 : decode cL_put 81 = .ok (.aload 4, 2) := by decide +kernel
theorem dL_put_83 : decode cL_put 83 = .ok (.iload 7, 2) := by decide +kernel
theorem dL_put_85 : decode cL_put 85 = .ok (.iaload, 1) := by decide +kernel
theorem dL_put_86 : decode cL_put 86 = .ok (.aload 4, 2) := by decide +kernel
theorem dL_put_88 : decode cL_put 88 = .ok (.iload 8, 2) := by decide +kernel
theorem dL_put_90 : decode cL_put 90 = .ok (.iaload, 1) := by decide +kernel
theorem dL_put_91 : decode cL_put 91 = .ok (.invokestatic 9, 3) := by decide +kernel
theorem dL_put_94 : decode cL_put 94 = .ok (.lshl, 1) := by decide +kernel
theorem dL_put_95 : decode cL_put 95 = .ok (.goto 4, 3) := by decide +kernel
theorem dL_put_98 : decode cL_put 98 = .ok (.lconst 0, 1) := by decide +kernel
theorem dL_put_99 : decode cL_put 99 = .ok (.lor, 1) := by decide +kernel
theorem dL_put_100 : decode cL_put 100 = .ok (.lstore 5, 2) := by decide +kernel
theorem dL_put_102 : decode cL_put 102 = .ok (.iinc 8 1, 3) := by decide +kernel
theorem dL_put_105 : decode cL_put 105 = .ok (.goto (-45), 3) := by decide +kernel
theorem dL_put_108 : decode cL_put 108 = .ok (.iinc 7 1, 3) := by decide +kernel
theorem dL_put_111 : decode cL_put 111 = .ok (.goto (-90), 3) := by decide +kernel
theorem dL_put_114 : decode cL_put 114 = .ok (.lload 5, 2) := by decide +kernel
theorem dL_put_116 : decode cL_put 116 = .ok (.lreturn, 1) := by decide +kernel
set_option maxRecDepth 20000 in
theorem ggL_put_L_size : GoodIn wsL_put wsL_size := goodIn_r _ [5] (by decide +kernel) (by decide +kernel)
set_option maxRecDepth 20000 in
theorem gL_put_L_size : GoodIn wsL_put (va_wsS RL 23 yL_size wsL_size) := goodIn_app (goodIn_of _ (by decide +kernel)) ggL_put_L_size
set_option maxRecDepth 20000 in
theorem ggL_put_L_image : GoodIn wsL_put wsL_image := goodIn_r _ [8, 9, 10, 4, 11] (by decide +kernel) (by decide +kernel)
set_option maxRecDepth 20000 in
theorem gL_put_L_image : GoodIn wsL_put (va_wsS RL 27 yL_image wsL_image) := goodIn_app (goodIn_of _ (by decide +kernel)) ggL_put_L_image
set_option maxRecDepth 20000 in
theorem ggL_put_L_colour : GoodIn wsL_put wsL_colour := goodIn_r _ [14, 15] (by decide +kernel) (by decide +kernel)
set_option maxRecDepth 20000 in
theorem gL_put_L_colour : GoodIn wsL_put (va_wsS RL 31 yL_colour wsL_colour) := goodIn_app (goodIn_of _ (by decide +kernel)) ggL_put_L_colour
set_option maxRecDepth 20000 in
theorem ggL_put_L_coloured : GoodIn wsL_put wsL_coloured := goodIn_r _ [18, 15, 19] (by decide +kernel) (by decide +kernel)
set_option maxRecDepth 20000 in
theorem gL_put_L_coloured : GoodIn wsL_put (va_wsS RL 35 yL_coloured wsL_coloured) := goodIn_app (goodIn_of _ (by decide +kernel)) ggL_put_L_coloured
set_option maxRecDepth 20000 in
theorem ggL_put_L_edge : GoodIn wsL_put wsL_edge := goodIn_r _ [22, 23, 24, 4, 25] (by decide +kernel) (by decide +kernel)
set_option maxRecDepth 20000 in
theorem gL_put_L_edge : GoodIn wsL_put (va_wsS RL 39 yL_edge wsL_edge) := goodIn_app (goodIn_of _ (by decide +kernel)) ggL_put_L_edge
set_option maxRecDepth 20000 in
theorem ggL_put_L_bit : GoodIn wsL_put wsL_bit := goodIn_r _ [25] (by decide +kernel) (by decide +kernel)
set_option maxRecDepth 20000 in
theorem gL_put_L_bit : GoodIn wsL_put (va_wsS RL 9 yL_bit wsL_bit) := goodIn_app (goodIn_of _ (by decide +kernel)) ggL_put_L_bit
theorem wd_L_put_0 : Cond.arrayClass .int ∈ wsL_put := by decide +kernel
def r_L_put : Room := { frames := 3, cells := 1, slots := 8, locals := 62 }
set_option maxRecDepth 100000 in
set_option maxHeartbeats 4000000 in
theorem w_L_put_99 {K : zK} {w : Nat} (hk : zIs K RL cL_put 9 wsL_put (some .long) r_L_put) (hfl : (kL K).stackTraces = false) (hnx : zNX K) {r0 : Int64} {τ0 : zST} (hq : zQG K (.inr (some (.long r0))) τ0) (hw : eN (kZ K) = (w + 1)) (cs ss : Nat) (hb1 : cs + 0 ≤ 1) (hb2 : ss + 0 ≤ 8) (F : Nat) (k21 : Int64 → Int32 → Int32 → Nat → Int64 → Int32 → zST → Option (Int64 × zST)) (hk21 : ∀ (a0 : Int64) (a2 : Int32) (a3 : Int32) (a4 : Nat) (a5 : Int64) (a7 : Int32) (ha4 : aI (kZ K) a4 8) (σ : zST), k21 a0 a2 a3 a4 a5 a7 σ = some (r0, τ0) → Z K cs ss 21 [(0, .long a0), (2, .int a2), (3, .int a3), (4, .ref (eA (kZ K) a4)), (5, .long a5), (7, .int a7)] [] σ) (k60 : Int64 → Int32 → Int32 → Nat → Int64 → Int32 → Int32 → zST → Option (Int64 × zST)) (hk60 : ∀ (a0 : Int64) (a2 : Int32) (a3 : Int32) (a4 : Nat) (a5 : Int64) (a7 : Int32) (a8 : Int32) (ha4 : aI (kZ K) a4 8) (σ : zST), k60 a0 a2 a3 a4 a5 a7 a8 σ = some (r0, τ0) → Z K cs ss 60 [(0, .long a0), (2, .int a2), (3, .int a3), (4, .ref (eA (kZ K) a4)), (5, .long a5), (7, .int a7), (8, .int a8)] [] σ) (a0 : Int64) (a2 : Int32) (a3 : Int32) (a4 : Nat) (a7 : Int32) (a8 : Int32) (t0 : Int64) (t1 : Int64) (ha4 : aI (kZ K) a4 8) (σ : zST) (h : m_L_put_99 F w k21 k60 a0 a2 a3 a4 a7 a8 t0 t1 σ = some (r0, τ0)) : Z K cs ss 99 [(0, .long a0), (2, .int a2), (3, .int a3), (4, .ref (eA (kZ K) a4)), (7, .int a7), (8, .int a8)] [.long t0, .long t1] σ := by
  unfold m_L_put_99 at h
  refine Z_lor hk dL_put_99 ?_
  obtain ⟨x40, e41, h⟩ := nm_get h
  refine Z_eqL e41 ?_
  refine Z_lstore hk (lv' := [(5, .long x40), (0, .long a0), (2, .int a2), (3, .int a3), (4, .ref (eA (kZ K) a4)), (7, .int a7), (8, .int a8)]) dL_put_100 (by decide) rfl ?_
  obtain ⟨x42, e43, h⟩ := nm_get h
  refine Z_iinc hk 6 (v := x42) (lv' := [(8, .int x42), (5, .long x40), (0, .long a0), (2, .int a2), (3, .int a3), (4, .ref (eA (kZ K) a4)), (7, .int a7)]) dL_put_102 rfl (by rw [zc_iinc_1]; exact e43) (by decide) rfl ?_
  refine Z_goto hk (tgt := 60) dL_put_105 (by decide) ?_
  refine Z_sub [2, 3, 4, 5, 1, 6, 0] rfl ?_
  exact hk60 a0 a2 a3 a4 x40 a7 x42 ha4 σ h
set_option maxRecDepth 100000 in
set_option maxHeartbeats 4000000 in
theorem w_L_put_60 {K : zK} {w : Nat} (hk : zIs K RL cL_put 9 wsL_put (some .long) r_L_put) (hfl : (kL K).stackTraces = false) (hnx : zNX K) {r0 : Int64} {τ0 : zST} (hq : zQG K (.inr (some (.long r0))) τ0) (hw : eN (kZ K) = (w + 1)) (cs ss : Nat) (hb1 : cs + 0 ≤ 1) (hb2 : ss + 0 ≤ 8) (F : Nat) (k21 : Int64 → Int32 → Int32 → Nat → Int64 → Int32 → zST → Option (Int64 × zST)) (hk21 : ∀ (a0 : Int64) (a2 : Int32) (a3 : Int32) (a4 : Nat) (a5 : Int64) (a7 : Int32) (ha4 : aI (kZ K) a4 8) (σ : zST), k21 a0 a2 a3 a4 a5 a7 σ = some (r0, τ0) → Z K cs ss 21 [(0, .long a0), (2, .int a2), (3, .int a3), (4, .ref (eA (kZ K) a4)), (5, .long a5), (7, .int a7)] [] σ) : ∀ (n : Nat) (a0 : Int64) (a2 : Int32) (a3 : Int32) (a4 : Nat) (a5 : Int64) (a7 : Int32) (a8 : Int32) (ha4 : aI (kZ K) a4 8) (σ : zST), m_L_put_60 F w k21 n a0 a2 a3 a4 a5 a7 a8 σ = some (r0, τ0) → Z K cs ss 60 [(0, .long a0), (2, .int a2), (3, .int a3), (4, .ref (eA (kZ K) a4)), (5, .long a5), (7, .int a7), (8, .int a8)] [] σ := by
  intro n
  induction n with
  | zero => intro a0 a2 a3 a4 a5 a7 a8 ha4 σ h; cases h
  | succ n ih =>
    intro a0 a2 a3 a4 a5 a7 a8 ha4 σ h
    rw [m_L_put_60] at h
    refine Z_iload hk 6 dL_put_60 rfl ?_
    refine Z_iload hk 5 dL_put_62 rfl ?_
    refine Z_icmp_ge hk (tgt := 108) dL_put_64 (by decide) (fun c24 => ?_) (fun c24 => ?_)
    · have h := if_yes h c24
      obtain ⟨x25, e26, h⟩ := nm_get h
      refine Z_iinc hk 5 (v := x25) (lv' := [(7, .int x25), (0, .long a0), (2, .int a2), (3, .int a3), (4, .ref (eA (kZ K) a4)), (5, .long a5), (8, .int a8)]) dL_put_108 rfl (by rw [zc_iinc_1]; exact e26) (by decide) rfl ?_
      refine Z_goto hk (tgt := 21) dL_put_111 (by decide) ?_
      refine Z_sub [1, 2, 3, 4, 5, 0] rfl ?_
      exact hk21 a0 a2 a3 a4 a5 x25 ha4 σ h
    · have h := if_no h c24
      refine Z_lload hk 4 dL_put_67 rfl ?_
      refine Z_lload_n hk 0 dL_put_69 rfl rfl ?_
      refine Z_iload hk 5 dL_put_70 rfl ?_
      refine Z_iload hk 6 dL_put_72 rfl ?_
      obtain ⟨x27, s28, h29, h⟩ := bd_ok h
      refine Z_callT 3 hk [.long a0, .int a7, .int a8] (c_L_edge hk.loc hk.inj F a0 a7 a8 σ h29) gL_put_L_edge rfl ⟨rfl, rfl⟩ (by decide +kernel) ⟨Nat.le_of_ble_eq_true rfl, Nat.le_of_ble_eq_true rfl⟩ rfl rfl (Nat.le_of_ble_eq_true rfl) ⟨by show cs + 0 ≤ 1; omega, by show ss + 0 ≤ 8; omega⟩ dL_put_74 ?_
      show Z K cs ss 77 [(0, .long a0), (2, .int a2), (3, .int a3), (4, .ref (eA (kZ K) a4)), (5, .long a5), (7, .int a7), (8, .int a8)] [.int x27, .long a5] s28
      refine Z_if_eq hk (tgt := 98) dL_put_77 (by decide) (fun c30 => ?_) (fun c30 => ?_)
      · have h := if_yes h c30
        refine Z_lconst hk dL_put_98 (v := 0) rfl ?_
        refine Z_sub [0, 1, 2, 3, 5, 6] rfl ?_
        exact w_L_put_99 hk hfl hnx hq hw cs ss (by omega) (by omega) F k21 hk21 (m_L_put_60 F w k21 n) ih a0 a2 a3 a4 a7 a8 0 a5 ha4 s28 h
      · have h := if_no h c30
        refine Z_lconst hk dL_put_80 (v := 1) rfl ?_
        refine Z_aload hk 3 dL_put_81 rfl ?_
        refine Z_iload hk 5 dL_put_83 rfl ?_
        obtain ⟨i33, x31, e32, h⟩ := ldI_get h
        refine Z_iald hk ha4 i33 dL_put_85 ?_
        refine Z_eqI e32 ?_
        refine Z_aload hk 3 dL_put_86 rfl ?_
        refine Z_iload hk 6 dL_put_88 rfl ?_
        obtain ⟨i36, x34, e35, h⟩ := ldI_get h
        refine Z_iald hk ha4 i36 dL_put_90 ?_
        refine Z_eqI e35 ?_
        obtain ⟨x37, s38, h39, h⟩ := bd_ok h
        refine Z_callT 2 hk [.int x31, .int x34] (c_L_bit hk.loc hk.inj F x31 x34 s28 h39) gL_put_L_bit rfl ⟨rfl, rfl⟩ (by decide +kernel) ⟨Nat.le_of_ble_eq_true rfl, Nat.le_of_ble_eq_true rfl⟩ rfl rfl (Nat.le_of_ble_eq_true rfl) ⟨by show cs + 0 ≤ 1; omega, by show ss + 0 ≤ 8; omega⟩ dL_put_91 ?_
        show Z K cs ss 94 [(0, .long a0), (2, .int a2), (3, .int a3), (4, .ref (eA (kZ K) a4)), (5, .long a5), (7, .int a7), (8, .int a8)] [.int x37, .long 1, .long a5] s38
        refine Z_lshl hk dL_put_94 ?_
        refine Z_goto hk (tgt := 99) dL_put_95 (by decide) ?_
        refine Z_sub [0, 1, 2, 3, 5, 6] rfl ?_
        exact w_L_put_99 hk hfl hnx hq hw cs ss (by omega) (by omega) F k21 hk21 (m_L_put_60 F w k21 n) ih a0 a2 a3 a4 a7 a8 (jlshl 1 x37) a5 ha4 s38 h
set_option maxRecDepth 100000 in
set_option maxHeartbeats 4000000 in
theorem w_L_put_21 {K : zK} {w : Nat} (hk : zIs K RL cL_put 9 wsL_put (some .long) r_L_put) (hfl : (kL K).stackTraces = false) (hnx : zNX K) {r0 : Int64} {τ0 : zST} (hq : zQG K (.inr (some (.long r0))) τ0) (hw : eN (kZ K) = (w + 1)) (cs ss : Nat) (hb1 : cs + 0 ≤ 1) (hb2 : ss + 0 ≤ 8) (F : Nat) : ∀ (n : Nat) (a0 : Int64) (a2 : Int32) (a3 : Int32) (a4 : Nat) (a5 : Int64) (a7 : Int32) (ha4 : aI (kZ K) a4 8) (σ : zST), m_L_put_21 F w n a0 a2 a3 a4 a5 a7 σ = some (r0, τ0) → Z K cs ss 21 [(0, .long a0), (2, .int a2), (3, .int a3), (4, .ref (eA (kZ K) a4)), (5, .long a5), (7, .int a7)] [] σ := by
  intro n
  induction n with
  | zero => intro a0 a2 a3 a4 a5 a7 ha4 σ h; cases h
  | succ n ih =>
    intro a0 a2 a3 a4 a5 a7 ha4 σ h
    rw [m_L_put_21] at h
    refine Z_iload hk 5 dL_put_21 rfl ?_
    refine Z_iload_n hk 2 dL_put_23 rfl rfl ?_
    refine Z_icmp_ge hk (tgt := 114) dL_put_24 (by decide) (fun c8 => ?_) (fun c8 => ?_)
    · have h := if_yes h c8
      refine Z_lload hk 4 dL_put_114 rfl ?_
      cases h
      exact ZG_lret hk hq ⟨by show cs + 0 ≤ 1; omega, by show ss + 0 ≤ 8; omega⟩ dL_put_116
    · have h := if_no h c8
      refine Z_aload hk 3 dL_put_27 rfl ?_
      refine Z_iload hk 5 dL_put_29 rfl ?_
      refine Z_iload_n hk 2 dL_put_31 rfl rfl ?_
      refine Z_iload_n hk 1 dL_put_32 rfl rfl ?_
      refine Z_iload hk 5 dL_put_33 rfl ?_
      obtain ⟨x9, s10, h11, h⟩ := bd_ok h
      refine Z_callT 3 hk [.int a3, .int a2, .int a7] (c_L_image hk.loc hk.inj F a3 a2 a7 σ h11) gL_put_L_image rfl ⟨rfl, rfl⟩ (by decide +kernel) ⟨Nat.le_of_ble_eq_true rfl, Nat.le_of_ble_eq_true rfl⟩ rfl rfl (Nat.le_of_ble_eq_true rfl) ⟨by show cs + 0 ≤ 1; omega, by show ss + 0 ≤ 8; omega⟩ dL_put_35 ?_
      show Z K cs ss 38 [(0, .long a0), (2, .int a2), (3, .int a3), (4, .ref (eA (kZ K) a4)), (5, .long a5), (7, .int a7)] [.int x9, .int a7, .ref (eA (kZ K) a4)] s10
      obtain ⟨i14, s12, e13, h⟩ := stI_get h
      refine Z_iast hk ha4 i14 dL_put_38 ?_
      refine Z_eqS e13 ?_
      refine Z_lload hk 4 dL_put_39 rfl ?_
      refine Z_aload hk 3 dL_put_41 rfl ?_
      refine Z_iload hk 5 dL_put_43 rfl ?_
      obtain ⟨i17, x15, e16, h⟩ := ldI_get h
      refine Z_iald hk ha4 i17 dL_put_45 ?_
      refine Z_eqI e16 ?_
      refine Z_lload_n hk 0 dL_put_46 rfl rfl ?_
      refine Z_iload hk 5 dL_put_47 rfl ?_
      obtain ⟨x18, s19, h20, h⟩ := bd_ok h
      refine Z_callT 2 hk [.long a0, .int a7] (c_L_colour hk.loc hk.inj F a0 a7 s12 h20) gL_put_L_colour rfl ⟨rfl, rfl⟩ (by decide +kernel) ⟨Nat.le_of_ble_eq_true rfl, Nat.le_of_ble_eq_true rfl⟩ rfl rfl (Nat.le_of_ble_eq_true rfl) ⟨by show cs + 0 ≤ 1; omega, by show ss + 0 ≤ 8; omega⟩ dL_put_49 ?_
      show Z K cs ss 52 [(0, .long a0), (2, .int a2), (3, .int a3), (4, .ref (eA (kZ K) a4)), (5, .long a5), (7, .int a7)] [.int x18, .int x15, .long a5] s19
      obtain ⟨x21, s22, h23, h⟩ := bd_ok h
      refine Z_callT 3 hk [.long a5, .int x15, .int x18] (c_L_coloured hk.loc hk.inj F a5 x15 x18 s19 h23) gL_put_L_coloured rfl ⟨rfl, rfl⟩ (by decide +kernel) ⟨Nat.le_of_ble_eq_true rfl, Nat.le_of_ble_eq_true rfl⟩ rfl rfl (Nat.le_of_ble_eq_true rfl) ⟨by show cs + 0 ≤ 1; omega, by show ss + 0 ≤ 8; omega⟩ dL_put_52 ?_
      show Z K cs ss 55 [(0, .long a0), (2, .int a2), (3, .int a3), (4, .ref (eA (kZ K) a4)), (5, .long a5), (7, .int a7)] [.long x21] s22
      refine Z_lstore hk (lv' := [(5, .long x21), (0, .long a0), (2, .int a2), (3, .int a3), (4, .ref (eA (kZ K) a4)), (7, .int a7)]) dL_put_55 (by decide) rfl ?_
      refine Z_iconst hk dL_put_57 zc_iconst_0 ?_
      refine Z_istore hk (lv' := [(8, .int 0), (5, .long x21), (0, .long a0), (2, .int a2), (3, .int a3), (4, .ref (eA (kZ K) a4)), (7, .int a7)]) dL_put_58 (by decide) rfl ?_
      refine Z_sub [2, 3, 4, 5, 1, 6, 0] rfl ?_
      exact w_L_put_60 hk hfl hnx hq hw cs ss (by omega) (by omega) F (m_L_put_21 F w n) ih F a0 a2 a3 a4 x21 a7 0 ha4 s22 h
set_option maxRecDepth 100000 in
set_option maxHeartbeats 4000000 in
theorem w_L_put_9 {K : zK} {w : Nat} (hk : zIs K RL cL_put 9 wsL_put (some .long) r_L_put) (hfl : (kL K).stackTraces = false) (hnx : zNX K) {r0 : Int64} {τ0 : zST} (hq : zQG K (.inr (some (.long r0))) τ0) (hw : eN (kZ K) = (w + 1)) (cs ss : Nat) (hb1 : cs + 0 ≤ 1) (hb2 : ss + 0 ≤ 8) (F : Nat) (a0 : Int64) (a2 : Int32) (a3 : Int32) (t0 : Nat) (ht0 : aI (kZ K) t0 8) (σ : zST) (h : m_L_put_9 F w a0 a2 a3 t0 σ = some (r0, τ0)) : Z K cs ss 9 [(0, .long a0), (2, .int a2), (3, .int a3)] [.ref (eA (kZ K) t0)] σ := by
  unfold m_L_put_9 at h
  refine Z_astore hk (lv' := [(4, .ref (eA (kZ K) t0)), (0, .long a0), (2, .int a2), (3, .int a3)]) dL_put_9 (by decide) rfl ?_
  refine Z_iload_n hk 3 dL_put_11 rfl rfl ?_
  refine Z_i2l hk dL_put_12 ?_
  refine Z_bipush hk dL_put_13 zc_bipush_52 ?_
  refine Z_lshl hk dL_put_15 ?_
  obtain ⟨x6, e7, h⟩ := nm_get h
  refine Z_eqL e7 ?_
  refine Z_lstore hk (lv' := [(5, .long x6), (4, .ref (eA (kZ K) t0)), (0, .long a0), (2, .int a2), (3, .int a3)]) dL_put_16 (by decide) rfl ?_
  refine Z_iconst hk dL_put_18 zc_iconst_0 ?_
  refine Z_istore hk (lv' := [(7, .int 0), (5, .long x6), (4, .ref (eA (kZ K) t0)), (0, .long a0), (2, .int a2), (3, .int a3)]) dL_put_19 (by decide) rfl ?_
  refine Z_sub [3, 4, 5, 2, 1, 0] rfl ?_
  exact w_L_put_21 hk hfl hnx hq hw cs ss (by omega) (by omega) F F a0 a2 a3 t0 x6 0 ht0 σ h
set_option maxRecDepth 100000 in
set_option maxHeartbeats 4000000 in
theorem w_L_put {K : zK} {w : Nat} (hk : zIs K RL cL_put 9 wsL_put (some .long) r_L_put) (hfl : (kL K).stackTraces = false) (hnx : zNX K) {r0 : Int64} {τ0 : zST} (hq : zQG K (.inr (some (.long r0))) τ0) (hw : eN (kZ K) = w) (F : Nat) (a0 : Int64) (a2 : Int32) (σ : zST) (h : m_L_put F w a0 a2 σ = some (r0, τ0)) : Z K 0 0 0 [(0, .long a0), (2, .int a2)] [] σ := by
  unfold m_L_put at h
  refine Z_lload_n hk 0 dL_put_0 rfl rfl ?_
  obtain ⟨x1, s2, h3, h⟩ := bd_ok h
  refine Z_callT 1 hk [.long a0] (c_L_size hk.loc hk.inj F a0 σ h3) gL_put_L_size rfl ⟨rfl, rfl⟩ (by decide +kernel) ⟨Nat.le_of_ble_eq_true rfl, Nat.le_of_ble_eq_true rfl⟩ rfl rfl (Nat.le_of_ble_eq_true rfl) ⟨by show 0 + 0 ≤ 1; omega, by show 0 + 0 ≤ 8; omega⟩ dL_put_1 ?_
  show Z K 0 0 4 [(0, .long a0), (2, .int a2)] [.int x1] s2
  refine Z_istore_n hk (lv' := [(3, .int x1), (0, .long a0), (2, .int a2)]) dL_put_4 rfl (by decide) rfl ?_
  refine Z_bipush hk dL_put_5 zc_bipush_8 ?_
  obtain ⟨s4, e5, h⟩ := nm_get h
  refine Z_newI hk hw (N := 8) wd_L_put_0 (by decide) (by decide +kernel) (Nat.le_of_ble_eq_true rfl) ⟨by show 0 + 1 ≤ 1; omega, by show 0 + 8 ≤ 8; omega⟩ dL_put_7 (fun K1 hk1 hX1 hw1 haN hl1 hnx1 hq1 => ?_)
  refine Z_eqS e5 ?_
  rw [← hl1] at hfl
  have hnx := hnx1 hnx
  have hq := hq1 _ _ hq
  have hk := hk1
  have hw : eN (kZ K1) = (w + 1) := hw1
  refine Z_sub [1, 2, 0] rfl ?_
  exact w_L_put_9 hk hfl hnx hq hw 1 8 (by omega) (by omega) F a0 a2 x1 w haN s4 h
theorem c_L_put {l : Launch} {E : zE} (hL : eL E) (hJ : eJ E) (hfl : l.stackTraces = false) (F w : Nat) (hw : eN E = w) (a0 : Int64) (a2 : Int32) (σ : zST) {r0 : Int64} {τ0 : zST} (h : m_L_put F w a0 a2 σ = some (r0, τ0)) : CtX l yL_put wsL_put r_L_put E [.long a0, .int a2] σ (.inr (some (.long r0))) τ0 := by
  refine CtX_of (by decide) rfl hL hJ (Nat.le_of_ble_eq_true rfl) (fun K hE hl hk hnx hq => ?_)
  subst hE
  subst hl
  exact w_L_put hk hfl hnx (zQG.of hq) hw F a0 a2 σ h
end

-- CanonCoteLaw.least (J)I
section
theorem dL_least_0 : decode cL_least 0 = .ok (.iconst 0, 1) := by decide +kernel
theorem dL_least_1 : decode cL_least 1 = .ok (.istore_n 2, 1) := by decide +kernel
theorem dL_least_2 : decode cL_least 2 = .ok (.lload_n 0, 1) := by decide +kernel
theorem dL_least_3 : decode cL_least 3 = .ok (.lstore_n 3, 1) := by decide +kernel
theorem dL_least_4 : decode cL_least 4 = .ok (.iconst 1, 1) := by decide +kernel
theorem dL_least_5 : decode cL_least 5 = .ok (.istore 5, 2) := by decide +kernel
theorem dL_least_7 : decode cL_least 7 = .ok (.iload 5, 2) := by decide +kernel
theorem dL_least_9 : decode cL_least 9 = .ok (.lload_n 0, 1) := by decide +kernel
theorem dL_least_10 : decode cL_least 10 = .ok (.invokestatic 23, 3) := by decide +kernel
theorem dL_least_13 : decode cL_least 13 = .ok (.invokestatic 19, 3) := by decide +kernel
theorem dL_least_16 : decode cL_least 16 = .ok (.if_icmp .ge 45, 3) := by decide +kernel
theorem dL_least_19 : decode cL_least 19 = .ok (.lload_n 0, 1) := by decide +kernel
theorem dL_least_20 : decode cL_least 20 = .ok (.iload 5, 2) := by decide +kernel
theorem dL_least_22 : decode cL_least 22 = .ok (.invokestatic 43, 3) := by decide +kernel
theorem dL_least_25 : decode cL_least 25 = .ok (.lstore 6, 2) := by decide +kernel
theorem dL_least_27 : decode cL_least 27 = .ok (.lload 6, 2) := by decide +kernel
theorem dL_least_29 : decode cL_least 29 = .ok (.lload_n 3, 1) := by decide +kernel
theorem dL_least_30 : decode cL_least 30 = .ok (.lcmp, 1) := by decide +kernel
theorem dL_least_31 : decode cL_least 31 = .ok (.ifCond .ge 8, 3) := by decide +kernel
theorem dL_least_34 : decode cL_least 34 = .ok (.iload 5, 2) := by decide +kernel
theorem dL_least_36 : decode cL_least 36 = .ok (.goto 4, 3) := by decide +kernel
theorem dL_least_39 : decode cL_least 39 = .ok (.iload_n 2, 1) := by decide +kernel
theorem dL_least_40 : decode cL_least 40 = .ok (.istore_n 2, 1) := by decide +kernel
theorem dL_least_41 : decode cL_least 41 = .ok (.lload 6, 2) := by decide +kernel
theorem dL_least_43 : decode cL_least 43 = .ok (.lload_n 3, 1) := by decide +kernel
theorem dL_least_44 : decode cL_least 44 = .ok (.lcmp, 1) := by decide +kernel
theorem dL_least_45 : decode cL_least 45 = .ok (.ifCond .ge 8, 3) := by decide +kernel
theorem dL_least_48 : decode cL_least 48 = .ok (.lload 6, 2) := by decide +kernel
theorem dL_least_50 : decode cL_least 50 = .ok (.goto 4, 3) := by decide +kernel
theorem dL_least_53 : decode cL_least 53 = .ok (.lload_n 3, 1) := by decide +kernel
theorem dL_least_54 : decode cL_least 54 = .ok (.lstore_n 3, 1) := by decide +kernel
theorem dL_least_55 : decode cL_least 55 = .ok (.iinc 5 1, 3) := by decide +kernel
theorem dL_least_58 : decode cL_least 58 = .ok (.goto (-51), 3) := by decide +kernel
theorem dL_least_61 : decode cL_least 61 = .ok (.iload_n 2, 1) := by decide +kernel
theorem dL_least_62 : decode cL_least 62 = .ok (.ireturn, 1) := by decide +kernel
set_option maxRecDepth 20000 in
theorem ggL_least_L_size : GoodIn wsL_least wsL_size := goodIn_r _ [4] (by decide +kernel) (by decide +kernel)
set_option maxRecDepth 20000 in
theorem gL_least_L_size : GoodIn wsL_least (va_wsS RL 23 yL_size wsL_size) := goodIn_app (goodIn_of _ (by decide +kernel)) ggL_least_L_size
set_option maxRecDepth 20000 in
theorem ggL_least_L_maps : GoodIn wsL_least wsL_maps := goodIn_r _ [7] (by decide +kernel) (by decide +kernel)
set_option maxRecDepth 20000 in
theorem gL_least_L_maps : GoodIn wsL_least (va_wsS RL 19 yL_maps wsL_maps) := goodIn_app (goodIn_of _ (by decide +kernel)) ggL_least_L_maps
set_option maxRecDepth 20000 in
theorem ggL_least_L_put : GoodIn wsL_least wsL_put := goodIn_r _ [10, 11, 1, 2, 3, 4, 12, 13, 14, 5, 6, 7, 15, 16, 17, 18, 19, 20, 21, 22, 23, 24, 25, 26, 27, 28] (by decide +kernel) (by decide +kernel)
set_option maxRecDepth 20000 in
theorem gL_least_L_put : GoodIn wsL_least (va_wsS RL 43 yL_put wsL_put) := goodIn_app (goodIn_of _ (by decide +kernel)) ggL_least_L_put
def r_L_least : Room := { frames := 4, cells := 121, slots := 968, locals := 90 }
set_option maxRecDepth 100000 in
set_option maxHeartbeats 4000000 in
theorem w_L_least_54 {K : zK} {w : Nat} (hk : zIs K RL cL_least 8 wsL_least (some .int) r_L_least) (hfl : (kL K).stackTraces = false) (hnx : zNX K) {r0 : Int32} {τ0 : zST} (hq : zQG K (.inr (some (.int r0))) τ0) (hw : eN (kZ K) = w) (cs ss : Nat) (C S : Nat) (hr1 : cs + 0 ≤ C) (hr2 : ss + 0 ≤ S) (hb1 : cs + 0 ≤ 121) (hb2 : ss + 0 ≤ 968) (F : Nat) (k7 : Int64 → Int32 → Int64 → Int32 → zST → Option (Int32 × zST)) (hk7 : ∀ (a0 : Int64) (a2 : Int32) (a3 : Int64) (a5 : Int32) (σ : zST), k7 a0 a2 a3 a5 σ = some (r0, τ0) → Z K C S 7 [(0, .long a0), (2, .int a2), (3, .long a3), (5, .int a5)] [] σ) (a0 : Int64) (a2 : Int32) (a5 : Int32) (t0 : Int64) (σ : zST) (h : m_L_least_54 F w k7 a0 a2 a5 t0 σ = some (r0, τ0)) : Z K cs ss 54 [(0, .long a0), (2, .int a2), (5, .int a5)] [.long t0] σ := by
  unfold m_L_least_54 at h
  refine Z_lstore_n hk (lv' := [(3, .long t0), (0, .long a0), (2, .int a2), (5, .int a5)]) dL_least_54 rfl (by decide) rfl ?_
  obtain ⟨x13, e14, h⟩ := nm_get h
  refine Z_iinc hk 3 (v := x13) (lv' := [(5, .int x13), (3, .long t0), (0, .long a0), (2, .int a2)]) dL_least_55 rfl (by rw [zc_iinc_1]; exact e14) (by decide) rfl ?_
  refine Z_goto hk (tgt := 7) dL_least_58 (by decide) ?_
  refine Z_sub [2, 3, 1, 0] rfl ?_
  refine Z_widen (cs' := C) (ss' := S) (by omega) (by omega) ?_
  exact hk7 a0 a2 t0 x13 σ h
set_option maxRecDepth 100000 in
set_option maxHeartbeats 4000000 in
theorem w_L_least_40 {K : zK} {w : Nat} (hk : zIs K RL cL_least 8 wsL_least (some .int) r_L_least) (hfl : (kL K).stackTraces = false) (hnx : zNX K) {r0 : Int32} {τ0 : zST} (hq : zQG K (.inr (some (.int r0))) τ0) (hw : eN (kZ K) = w) (cs ss : Nat) (C S : Nat) (hr1 : cs + 0 ≤ C) (hr2 : ss + 0 ≤ S) (hb1 : cs + 0 ≤ 121) (hb2 : ss + 0 ≤ 968) (F : Nat) (k7 : Int64 → Int32 → Int64 → Int32 → zST → Option (Int32 × zST)) (hk7 : ∀ (a0 : Int64) (a2 : Int32) (a3 : Int64) (a5 : Int32) (σ : zST), k7 a0 a2 a3 a5 σ = some (r0, τ0) → Z K C S 7 [(0, .long a0), (2, .int a2), (3, .long a3), (5, .int a5)] [] σ) (a0 : Int64) (a3 : Int64) (a5 : Int32) (a6 : Int64) (t0 : Int32) (σ : zST) (h : m_L_least_40 F w k7 a0 a3 a5 a6 t0 σ = some (r0, τ0)) : Z K cs ss 40 [(0, .long a0), (3, .long a3), (5, .int a5), (6, .long a6)] [.int t0] σ := by
  unfold m_L_least_40 at h
  refine Z_istore_n hk (lv' := [(2, .int t0), (0, .long a0), (3, .long a3), (5, .int a5), (6, .long a6)]) dL_least_40 rfl (by decide) rfl ?_
  refine Z_lload hk 4 dL_least_41 rfl ?_
  refine Z_lload_n hk 2 dL_least_43 rfl rfl ?_
  refine Z_lcmp hk dL_least_44 ?_
  refine Z_if_ge hk (tgt := 53) dL_least_45 (by decide) (fun c12 => ?_) (fun c12 => ?_)
  · have h := if_yes h c12
    refine Z_lload_n hk 2 dL_least_53 rfl rfl ?_
    refine Z_sub [1, 0, 3] rfl ?_
    exact w_L_least_54 hk hfl hnx hq hw cs ss C S (by omega) (by omega) (by omega) (by omega) F k7 hk7 a0 t0 a5 a3 σ h
  · have h := if_no h c12
    refine Z_lload hk 4 dL_least_48 rfl ?_
    refine Z_goto hk (tgt := 54) dL_least_50 (by decide) ?_
    refine Z_sub [1, 0, 3] rfl ?_
    exact w_L_least_54 hk hfl hnx hq hw cs ss C S (by omega) (by omega) (by omega) (by omega) F k7 hk7 a0 t0 a5 a6 σ h
set_option maxRecDepth 100000 in
set_option maxHeartbeats 4000000 in
theorem w_L_least_7 {K : zK} {w : Nat} (hk : zIs K RL cL_least 8 wsL_least (some .int) r_L_least) (hfl : (kL K).stackTraces = false) (hnx : zNX K) {r0 : Int32} {τ0 : zST} (hq : zQG K (.inr (some (.int r0))) τ0) (hw : eN (kZ K) = w) (F : Nat) : ∀ (n : Nat) (cs ss : Nat) (hb1 : cs + 1 * n + 0 ≤ 121) (hb2 : ss + 8 * n + 0 ≤ 968) (a0 : Int64) (a2 : Int32) (a3 : Int64) (a5 : Int32) (σ : zST), m_L_least_7 F w n a0 a2 a3 a5 σ = some (r0, τ0) → Z K cs ss 7 [(0, .long a0), (2, .int a2), (3, .long a3), (5, .int a5)] [] σ := by
  intro n
  induction n with
  | zero => intro cs ss hb1 hb2 a0 a2 a3 a5 σ h; cases h
  | succ n ih0 =>
    intro cs ss hb1 hb2 a0 a2 a3 a5 σ h
    have ih := ih0 (cs + 1) (ss + 8) (by omega) (by omega)
    rw [m_L_least_7] at h
    refine Z_iload hk 3 dL_least_7 rfl ?_
    refine Z_lload_n hk 0 dL_least_9 rfl rfl ?_
    obtain ⟨x1, s2, h3, h⟩ := bd_ok h
    refine Z_callT 1 hk [.long a0] (c_L_size hk.loc hk.inj F a0 σ h3) gL_least_L_size rfl ⟨rfl, rfl⟩ (by decide +kernel) ⟨Nat.le_of_ble_eq_true rfl, Nat.le_of_ble_eq_true rfl⟩ rfl rfl (Nat.le_of_ble_eq_true rfl) ⟨by show cs + 0 ≤ 121; omega, by show ss + 0 ≤ 968; omega⟩ dL_least_10 ?_
    show Z K cs ss 13 [(0, .long a0), (2, .int a2), (3, .long a3), (5, .int a5)] [.int x1, .int a5] s2
    obtain ⟨x4, s5, h6, h⟩ := bd_ok h
    refine Z_callT 1 hk [.int x1] (c_L_maps hk.loc hk.inj F x1 s2 h6) gL_least_L_maps rfl ⟨rfl, rfl⟩ (by decide +kernel) ⟨Nat.le_of_ble_eq_true rfl, Nat.le_of_ble_eq_true rfl⟩ rfl rfl (Nat.le_of_ble_eq_true rfl) ⟨by show cs + 0 ≤ 121; omega, by show ss + 0 ≤ 968; omega⟩ dL_least_13 ?_
    show Z K cs ss 16 [(0, .long a0), (2, .int a2), (3, .long a3), (5, .int a5)] [.int x4, .int a5] s5
    refine Z_icmp_ge hk (tgt := 61) dL_least_16 (by decide) (fun c7 => ?_) (fun c7 => ?_)
    · have h := if_yes h c7
      refine Z_iload_n hk 1 dL_least_61 rfl rfl ?_
      cases h
      exact ZG_iret hk hq ⟨by show cs + 0 ≤ 121; omega, by show ss + 0 ≤ 968; omega⟩ dL_least_62
    · have h := if_no h c7
      refine Z_lload_n hk 0 dL_least_19 rfl rfl ?_
      refine Z_iload hk 3 dL_least_20 rfl ?_
      obtain ⟨x8, s9, h10, h⟩ := bd_ok h
      refine ZX_callT 2 hk [.long a0, .int a5] (c_L_put hk.loc hk.inj hfl F w hw a0 a5 s5 h10) gL_least_L_put rfl ⟨by decide +kernel, by decide +kernel, by decide +kernel⟩ ⟨Nat.le_of_ble_eq_true rfl, Nat.le_of_ble_eq_true rfl⟩ rfl rfl (Nat.le_of_ble_eq_true rfl) ⟨by show cs + 1 ≤ 121; omega, by show ss + 8 ≤ 968; omega⟩ dL_least_22 (fun X hX => by cases hX) (fun v hv => ?_)
      cases hv
      show Z K (cs + 1) (ss + 8) 25 [(0, .long a0), (2, .int a2), (3, .long a3), (5, .int a5)] [.long x8] s9
      refine Z_lstore hk (lv' := [(6, .long x8), (0, .long a0), (2, .int a2), (3, .long a3), (5, .int a5)]) dL_least_25 (by decide) rfl ?_
      refine Z_lload hk 0 dL_least_27 rfl ?_
      refine Z_lload_n hk 3 dL_least_29 rfl rfl ?_
      refine Z_lcmp hk dL_least_30 ?_
      refine Z_if_ge hk (tgt := 39) dL_least_31 (by decide) (fun c11 => ?_) (fun c11 => ?_)
      · have h := if_yes h c11
        refine Z_iload_n hk 2 dL_least_39 rfl rfl ?_
        refine Z_sub [1, 3, 4, 0] rfl ?_
        exact w_L_least_40 hk hfl hnx hq hw (cs + 1) (ss + 8) (cs + 1) (ss + 8) (by omega) (by omega) (by omega) (by omega) F (m_L_least_7 F w n) ih a0 a3 a5 x8 a2 s9 h
      · have h := if_no h c11
        refine Z_iload hk 4 dL_least_34 rfl ?_
        refine Z_goto hk (tgt := 40) dL_least_36 (by decide) ?_
        refine Z_sub [1, 3, 4, 0] rfl ?_
        exact w_L_least_40 hk hfl hnx hq hw (cs + 1) (ss + 8) (cs + 1) (ss + 8) (by omega) (by omega) (by omega) (by omega) F (m_L_least_7 F w n) ih a0 a3 a5 x8 a5 s9 h
set_option maxRecDepth 100000 in
set_option maxHeartbeats 4000000 in
theorem w_L_least {K : zK} {w : Nat} (hk : zIs K RL cL_least 8 wsL_least (some .int) r_L_least) (hfl : (kL K).stackTraces = false) (hnx : zNX K) {r0 : Int32} {τ0 : zST} (hq : zQG K (.inr (some (.int r0))) τ0) (hw : eN (kZ K) = w) (F : Nat) (a0 : Int64) (σ : zST) (h : m_L_least F w a0 σ = some (r0, τ0)) : Z K 0 0 0 [(0, .long a0)] [] σ := by
  unfold m_L_least at h
  refine Z_iconst hk dL_least_0 zc_iconst_0 ?_
  refine Z_istore_n hk (lv' := [(2, .int 0), (0, .long a0)]) dL_least_1 rfl (by decide) rfl ?_
  refine Z_lload_n hk 1 dL_least_2 rfl rfl ?_
  refine Z_lstore_n hk (lv' := [(3, .long a0), (2, .int 0), (0, .long a0)]) dL_least_3 rfl (by decide) rfl ?_
  refine Z_iconst hk dL_least_4 zc_iconst_1 ?_
  refine Z_istore hk (lv' := [(5, .int 1), (3, .long a0), (2, .int 0), (0, .long a0)]) dL_least_5 (by decide) rfl ?_
  refine Z_sub [3, 2, 1, 0] rfl ?_
  exact w_L_least_7 hk hfl hnx hq hw F 121 0 0 (by omega) (by omega) a0 0 a0 1 σ h
theorem c_L_least {l : Launch} {E : zE} (hL : eL E) (hJ : eJ E) (hfl : l.stackTraces = false) (F w : Nat) (hw : eN E = w) (a0 : Int64) (σ : zST) {r0 : Int32} {τ0 : zST} (h : m_L_least F w a0 σ = some (r0, τ0)) : CtX l yL_least wsL_least r_L_least E [.long a0] σ (.inr (some (.int r0))) τ0 := by
  refine CtX_of (by decide) rfl hL hJ (Nat.le_of_ble_eq_true rfl) (fun K hE hl hk hnx hq => ?_)
  subst hE
  subst hl
  exact w_L_least hk hfl hnx (zQG.of hq) hw F a0 σ h
end

-- CanonCoteLaw.first (JJ)I
section
theorem dL_first_0 : decode cL_first 0 = .ok (.lload_n 0, 1) := by decide +kernel
theorem dL_first_1 : decode cL_first 1 = .ok (.invokestatic 23, 3) := by decide +kernel
theorem dL_first_4 : decode cL_first 4 = .ok (.lload_n 2, 1) := by decide +kernel
theorem dL_first_5 : decode cL_first 5 = .ok (.invokestatic 23, 3) := by decide +kernel
theorem dL_first_8 : decode cL_first 8 = .ok (.if_icmp .ne 7, 3) := by decide +kernel
theorem dL_first_11 : decode cL_first 11 = .ok (.iconst 0, 1) := by decide +kernel
theorem dL_first_12 : decode cL_first 12 = .ok (.goto 5, 3) := by decide +kernel
theorem dL_first_15 : decode cL_first 15 = .ok (.ldc 47, 2) := by decide +kernel
theorem dL_first_17 : decode cL_first 17 = .ok (.istore 4, 2) := by decide +kernel
theorem dL_first_19 : decode cL_first 19 = .ok (.iload 4, 2) := by decide +kernel
theorem dL_first_21 : decode cL_first 21 = .ok (.lload_n 0, 1) := by decide +kernel
theorem dL_first_22 : decode cL_first 22 = .ok (.invokestatic 23, 3) := by decide +kernel
theorem dL_first_25 : decode cL_first 25 = .ok (.invokestatic 19, 3) := by decide +kernel
theorem dL_first_28 : decode cL_first 28 = .ok (.if_icmp .ge 20, 3) := by decide +kernel
theorem dL_first_31 : decode cL_first 31 = .ok (.lload_n 0, 1) := by decide +kernel
theorem dL_first_32 : decode cL_first 32 = .ok (.iload 4, 2) := by decide +kernel
theorem dL_first_34 : decode cL_first 34 = .ok (.invokestatic 43, 3) := by decide +kernel
theorem dL_first_37 : decode cL_first 37 = .ok (.lload_n 2, 1) := by decide +kernel
theorem dL_first_38 : decode cL_first 38 = .ok (.lcmp, 1) := by decide +kernel
theorem dL_first_39 : decode cL_first 39 = .ok (.ifCond .eq 9, 3) := by decide +kernel
theorem dL_first_42 : decode cL_first 42 = .ok (.iinc 4 1, 3) := by decide +kernel
theorem dL_first_45 : decode cL_first 45 = .ok (.goto (-26), 3) := by decide +kernel
theorem dL_first_48 : decode cL_first 48 = .ok (.iload 4, 2) := by decide +kernel
theorem dL_first_50 : decode cL_first 50 = .ok (.lload_n 0, 1) := by decide +kernel
theorem dL_first_51 : decode cL_first 51 = .ok (.invokestatic 23, 3) := by decide +kernel
theorem dL_first_54 : decode cL_first 54 = .ok (.invokestatic 19, 3) := by decide +kernel
theorem dL_first_57 : decode cL_first 57 = .ok (.if_icmp .ge 8, 3) := by decide +kernel
theorem dL_first_60 : decode cL_first 60 = .ok (.iload 4, 2) := by decide +kernel
theorem dL_first_62 : decode cL_first 62 = .ok (.goto 4, 3) := by decide +kernel
theorem dL_first_65 : decode cL_first 65 = .ok (.iconst (-1), 1) := by decide +kernel
theorem dL_first_66 : decode cL_first 66 = .ok (.ireturn, 1) := by decide +kernel
set_option maxRecDepth 20000 in
theorem ggL_first_L_size : GoodIn wsL_first wsL_size := goodIn_r _ [5] (by decide +kernel) (by decide +kernel)
set_option maxRecDepth 20000 in
theorem gL_first_L_size : GoodIn wsL_first (va_wsS RL 23 yL_size wsL_size) := goodIn_app (goodIn_of _ (by decide +kernel)) ggL_first_L_size
set_option maxRecDepth 20000 in
theorem ggL_first_L_maps : GoodIn wsL_first wsL_maps := goodIn_r _ [8] (by decide +kernel) (by decide +kernel)
set_option maxRecDepth 20000 in
theorem gL_first_L_maps : GoodIn wsL_first (va_wsS RL 19 yL_maps wsL_maps) := goodIn_app (goodIn_of _ (by decide +kernel)) ggL_first_L_maps
set_option maxRecDepth 20000 in
theorem ggL_first_L_put : GoodIn wsL_first wsL_put := goodIn_r _ [11, 12, 2, 3, 4, 5, 13, 14, 15, 6, 7, 8, 16, 17, 18, 19, 20, 21, 22, 23, 24, 25, 26, 27, 28, 29] (by decide +kernel) (by decide +kernel)
set_option maxRecDepth 20000 in
theorem gL_first_L_put : GoodIn wsL_first (va_wsS RL 43 yL_put wsL_put) := goodIn_app (goodIn_of _ (by decide +kernel)) ggL_first_L_put
theorem wd_L_first_0 : Cond.constant RL 47 999999 ∈ wsL_first := by decide +kernel
def r_L_first : Room := { frames := 4, cells := 123, slots := 984, locals := 90 }
set_option maxRecDepth 100000 in
set_option maxHeartbeats 4000000 in
theorem w_L_first_48 {K : zK} {w : Nat} (hk : zIs K RL cL_first 5 wsL_first (some .int) r_L_first) (hfl : (kL K).stackTraces = false) (hnx : zNX K) {r0 : Int32} {τ0 : zST} (hq : zQG K (.inr (some (.int r0))) τ0) (hw : eN (kZ K) = w) (cs ss : Nat) (hb1 : cs + 0 ≤ 123) (hb2 : ss + 0 ≤ 984) (F : Nat) (a0 : Int64) (a4 : Int32) (σ : zST) (h : m_L_first_48 F w a0 a4 σ = some (r0, τ0)) : Z K cs ss 48 [(0, .long a0), (4, .int a4)] [] σ := by
  unfold m_L_first_48 at h
  refine Z_iload hk 1 dL_first_48 rfl ?_
  refine Z_lload_n hk 0 dL_first_50 rfl rfl ?_
  obtain ⟨x21, s22, h23, h⟩ := bd_ok h
  refine Z_callT 1 hk [.long a0] (c_L_size hk.loc hk.inj F a0 σ h23) gL_first_L_size rfl ⟨rfl, rfl⟩ (by decide +kernel) ⟨Nat.le_of_ble_eq_true rfl, Nat.le_of_ble_eq_true rfl⟩ rfl rfl (Nat.le_of_ble_eq_true rfl) ⟨by show cs + 0 ≤ 123; omega, by show ss + 0 ≤ 984; omega⟩ dL_first_51 ?_
  show Z K cs ss 54 [(0, .long a0), (4, .int a4)] [.int x21, .int a4] s22
  obtain ⟨x24, s25, h26, h⟩ := bd_ok h
  refine Z_callT 1 hk [.int x21] (c_L_maps hk.loc hk.inj F x21 s22 h26) gL_first_L_maps rfl ⟨rfl, rfl⟩ (by decide +kernel) ⟨Nat.le_of_ble_eq_true rfl, Nat.le_of_ble_eq_true rfl⟩ rfl rfl (Nat.le_of_ble_eq_true rfl) ⟨by show cs + 0 ≤ 123; omega, by show ss + 0 ≤ 984; omega⟩ dL_first_54 ?_
  show Z K cs ss 57 [(0, .long a0), (4, .int a4)] [.int x24, .int a4] s25
  refine Z_icmp_ge hk (tgt := 65) dL_first_57 (by decide) (fun c27 => ?_) (fun c27 => ?_)
  · have h := if_yes h c27
    refine Z_iconst hk dL_first_65 zc_iconst_m1 ?_
    cases h
    exact ZG_iret hk hq ⟨by show cs + 0 ≤ 123; omega, by show ss + 0 ≤ 984; omega⟩ dL_first_66
  · have h := if_no h c27
    refine Z_iload hk 1 dL_first_60 rfl ?_
    refine Z_goto hk (tgt := 66) dL_first_62 (by decide) ?_
    cases h
    exact ZG_iret hk hq ⟨by show cs + 0 ≤ 123; omega, by show ss + 0 ≤ 984; omega⟩ dL_first_66
set_option maxRecDepth 100000 in
set_option maxHeartbeats 4000000 in
theorem w_L_first_19 {K : zK} {w : Nat} (hk : zIs K RL cL_first 5 wsL_first (some .int) r_L_first) (hfl : (kL K).stackTraces = false) (hnx : zNX K) {r0 : Int32} {τ0 : zST} (hq : zQG K (.inr (some (.int r0))) τ0) (hw : eN (kZ K) = w) (F : Nat) : ∀ (n : Nat) (cs ss : Nat) (hb1 : cs + 1 * n + 1 ≤ 123) (hb2 : ss + 8 * n + 8 ≤ 984) (a0 : Int64) (a2 : Int64) (a4 : Int32) (σ : zST), m_L_first_19 F w n a0 a2 a4 σ = some (r0, τ0) → Z K cs ss 19 [(0, .long a0), (2, .long a2), (4, .int a4)] [] σ := by
  intro n
  induction n with
  | zero => intro cs ss hb1 hb2 a0 a2 a4 σ h; cases h
  | succ n ih0 =>
    intro cs ss hb1 hb2 a0 a2 a4 σ h
    have ih := ih0 (cs + 1) (ss + 8) (by omega) (by omega)
    rw [m_L_first_19] at h
    refine Z_iload hk 2 dL_first_19 rfl ?_
    refine Z_lload_n hk 0 dL_first_21 rfl rfl ?_
    obtain ⟨x8, s9, h10, h⟩ := bd_ok h
    refine Z_callT 1 hk [.long a0] (c_L_size hk.loc hk.inj F a0 σ h10) gL_first_L_size rfl ⟨rfl, rfl⟩ (by decide +kernel) ⟨Nat.le_of_ble_eq_true rfl, Nat.le_of_ble_eq_true rfl⟩ rfl rfl (Nat.le_of_ble_eq_true rfl) ⟨by show cs + 0 ≤ 123; omega, by show ss + 0 ≤ 984; omega⟩ dL_first_22 ?_
    show Z K cs ss 25 [(0, .long a0), (2, .long a2), (4, .int a4)] [.int x8, .int a4] s9
    obtain ⟨x11, s12, h13, h⟩ := bd_ok h
    refine Z_callT 1 hk [.int x8] (c_L_maps hk.loc hk.inj F x8 s9 h13) gL_first_L_maps rfl ⟨rfl, rfl⟩ (by decide +kernel) ⟨Nat.le_of_ble_eq_true rfl, Nat.le_of_ble_eq_true rfl⟩ rfl rfl (Nat.le_of_ble_eq_true rfl) ⟨by show cs + 0 ≤ 123; omega, by show ss + 0 ≤ 984; omega⟩ dL_first_25 ?_
    show Z K cs ss 28 [(0, .long a0), (2, .long a2), (4, .int a4)] [.int x11, .int a4] s12
    refine Z_icmp_ge hk (tgt := 48) dL_first_28 (by decide) (fun c14 => ?_) (fun c14 => ?_)
    · have h := if_yes h c14
      refine Z_sub [0, 2] rfl ?_
      exact w_L_first_48 hk hfl hnx hq hw cs ss (by omega) (by omega) F a0 a4 s12 h
    · have h := if_no h c14
      refine Z_lload_n hk 0 dL_first_31 rfl rfl ?_
      refine Z_iload hk 2 dL_first_32 rfl ?_
      obtain ⟨x15, s16, h17, h⟩ := bd_ok h
      refine ZX_callT 2 hk [.long a0, .int a4] (c_L_put hk.loc hk.inj hfl F w hw a0 a4 s12 h17) gL_first_L_put rfl ⟨by decide +kernel, by decide +kernel, by decide +kernel⟩ ⟨Nat.le_of_ble_eq_true rfl, Nat.le_of_ble_eq_true rfl⟩ rfl rfl (Nat.le_of_ble_eq_true rfl) ⟨by show cs + 1 ≤ 123; omega, by show ss + 8 ≤ 984; omega⟩ dL_first_34 (fun X hX => by cases hX) (fun v hv => ?_)
      cases hv
      show Z K (cs + 1) (ss + 8) 37 [(0, .long a0), (2, .long a2), (4, .int a4)] [.long x15] s16
      refine Z_lload_n hk 1 dL_first_37 rfl rfl ?_
      refine Z_lcmp hk dL_first_38 ?_
      refine Z_if_eq hk (tgt := 48) dL_first_39 (by decide) (fun c18 => ?_) (fun c18 => ?_)
      · have h := if_yes h c18
        refine Z_sub [0, 2] rfl ?_
        exact w_L_first_48 hk hfl hnx hq hw (cs + 1) (ss + 8) (by omega) (by omega) F a0 a4 s16 h
      · have h := if_no h c18
        obtain ⟨x19, e20, h⟩ := nm_get h
        refine Z_iinc hk 2 (v := x19) (lv' := [(4, .int x19), (0, .long a0), (2, .long a2)]) dL_first_42 rfl (by rw [zc_iinc_1]; exact e20) (by decide) rfl ?_
        refine Z_goto hk (tgt := 19) dL_first_45 (by decide) ?_
        refine Z_sub [1, 2, 0] rfl ?_
        refine Z_widen (cs' := (cs + 1)) (ss' := (ss + 8)) (by omega) (by omega) ?_
        exact ih a0 a2 x19 s16 h
set_option maxRecDepth 100000 in
set_option maxHeartbeats 4000000 in
theorem w_L_first_17 {K : zK} {w : Nat} (hk : zIs K RL cL_first 5 wsL_first (some .int) r_L_first) (hfl : (kL K).stackTraces = false) (hnx : zNX K) {r0 : Int32} {τ0 : zST} (hq : zQG K (.inr (some (.int r0))) τ0) (hw : eN (kZ K) = w) (cs ss : Nat) (hb1 : cs + 123 ≤ 123) (hb2 : ss + 984 ≤ 984) (F : Nat) (a0 : Int64) (a2 : Int64) (t0 : Int32) (σ : zST) (h : m_L_first_17 F w a0 a2 t0 σ = some (r0, τ0)) : Z K cs ss 17 [(0, .long a0), (2, .long a2)] [.int t0] σ := by
  unfold m_L_first_17 at h
  refine Z_istore hk (lv' := [(4, .int t0), (0, .long a0), (2, .long a2)]) dL_first_17 (by decide) rfl ?_
  refine Z_sub [1, 2, 0] rfl ?_
  exact w_L_first_19 hk hfl hnx hq hw F 122 cs ss (by omega) (by omega) a0 a2 t0 σ h
set_option maxRecDepth 100000 in
set_option maxHeartbeats 4000000 in
theorem w_L_first {K : zK} {w : Nat} (hk : zIs K RL cL_first 5 wsL_first (some .int) r_L_first) (hfl : (kL K).stackTraces = false) (hnx : zNX K) {r0 : Int32} {τ0 : zST} (hq : zQG K (.inr (some (.int r0))) τ0) (hw : eN (kZ K) = w) (F : Nat) (a0 : Int64) (a2 : Int64) (σ : zST) (h : m_L_first F w a0 a2 σ = some (r0, τ0)) : Z K 0 0 0 [(0, .long a0), (2, .long a2)] [] σ := by
  unfold m_L_first at h
  refine Z_lload_n hk 0 dL_first_0 rfl rfl ?_
  obtain ⟨x1, s2, h3, h⟩ := bd_ok h
  refine Z_callT 1 hk [.long a0] (c_L_size hk.loc hk.inj F a0 σ h3) gL_first_L_size rfl ⟨rfl, rfl⟩ (by decide +kernel) ⟨Nat.le_of_ble_eq_true rfl, Nat.le_of_ble_eq_true rfl⟩ rfl rfl (Nat.le_of_ble_eq_true rfl) ⟨by show 0 + 0 ≤ 123; omega, by show 0 + 0 ≤ 984; omega⟩ dL_first_1 ?_
  show Z K 0 0 4 [(0, .long a0), (2, .long a2)] [.int x1] s2
  refine Z_lload_n hk 1 dL_first_4 rfl rfl ?_
  obtain ⟨x4, s5, h6, h⟩ := bd_ok h
  refine Z_callT 1 hk [.long a2] (c_L_size hk.loc hk.inj F a2 s2 h6) gL_first_L_size rfl ⟨rfl, rfl⟩ (by decide +kernel) ⟨Nat.le_of_ble_eq_true rfl, Nat.le_of_ble_eq_true rfl⟩ rfl rfl (Nat.le_of_ble_eq_true rfl) ⟨by show 0 + 0 ≤ 123; omega, by show 0 + 0 ≤ 984; omega⟩ dL_first_5 ?_
  show Z K 0 0 8 [(0, .long a0), (2, .long a2)] [.int x4, .int x1] s5
  refine Z_icmp_ne hk (tgt := 15) dL_first_8 (by decide) (fun c7 => ?_) (fun c7 => ?_)
  · have h := if_yes h c7
    refine Z_iconst hk dL_first_11 zc_iconst_0 ?_
    refine Z_goto hk (tgt := 17) dL_first_12 (by decide) ?_
    refine Z_sub [0, 1] rfl ?_
    exact w_L_first_17 hk hfl hnx hq hw 0 0 (by omega) (by omega) F a0 a2 0 s5 h
  · have h := if_no h c7
    refine Z_ldc hk (v := 999999) dL_first_15 wd_L_first_0 ?_
    refine Z_sub [0, 1] rfl ?_
    exact w_L_first_17 hk hfl hnx hq hw 0 0 (by omega) (by omega) F a0 a2 999999 s5 h
theorem c_L_first {l : Launch} {E : zE} (hL : eL E) (hJ : eJ E) (hfl : l.stackTraces = false) (F w : Nat) (hw : eN E = w) (a0 : Int64) (a2 : Int64) (σ : zST) {r0 : Int32} {τ0 : zST} (h : m_L_first F w a0 a2 σ = some (r0, τ0)) : CtX l yL_first wsL_first r_L_first E [.long a0, .long a2] σ (.inr (some (.int r0))) τ0 := by
  refine CtX_of (by decide) rfl hL hJ (Nat.le_of_ble_eq_true rfl) (fun K hE hl hk hnx hq => ?_)
  subst hE
  subst hl
  exact w_L_first hk hfl hnx (zQG.of hq) hw F a0 a2 σ h
end

-- CanonCoteLaw.isRefined (LCanonCote;IJ)Z
section
theorem dL_isRefined_0 : decode cL_isRefined 0 = .ok (.lload_n 2, 1) := by decide +kernel
theorem dL_isRefined_1 : decode cL_isRefined 1 = .ok (.invokestatic 23, 3) := by decide +kernel
theorem dL_isRefined_4 : decode cL_isRefined 4 = .ok (.istore 4, 2) := by decide +kernel
theorem dL_isRefined_6 : decode cL_isRefined 6 = .ok (.bipush 8, 2) := by decide +kernel
theorem dL_isRefined_8 : decode cL_isRefined 8 = .ok (.newarray .long, 2) := by decide +kernel
theorem dL_isRefined_10 : decode cL_isRefined 10 = .ok (.astore 5, 2) := by decide +kernel
theorem dL_isRefined_12 : decode cL_isRefined 12 = .ok (.bipush 8, 2) := by decide +kernel
theorem dL_isRefined_14 : decode cL_isRefined 14 = .ok (.newarray .int, 2) := by decide +kernel
theorem dL_isRefined_16 : decode cL_isRefined 16 = .ok (.astore 6, 2) := by decide +kernel
theorem dL_isRefined_18 : decode cL_isRefined 18 = .ok (.iconst 0, 1) := by decide +kernel
theorem dL_isRefined_19 : decode cL_isRefined 19 = .ok (.istore 7, 2) := by decide +kernel
theorem dL_isRefined_21 : decode cL_isRefined 21 = .ok (.iconst 1, 1) := by decide +kernel
theorem dL_isRefined_22 : decode cL_isRefined 22 = .ok (.istore 8, 2) := by decide +kernel
theorem dL_isRefined_24 : decode cL_isRefined 24 = .ok (.iconst (-1), 1) := by decide +kernel
theorem dL_isRefined_25 : decode cL_isRefined 25 = .ok (.istore 9, 2) := by decide +kernel
theorem dL_isRefined_27 : decode cL_isRefined 27 = .ok (.iload 8, 2) := by decide +kernel
theorem dL_isRefined_29 : decode cL_isRefined 29 = .ok (.iload 7, 2) := by decide +kernel
theorem dL_isRefined_31 : decode cL_isRefined 31 = .ok (.if_icmp .le 294, 3) := by decide +kernel
theorem dL_isRefined_34 : decode cL_isRefined 34 = .ok (.iload 9, 2) := by decide +kernel
theorem dL_isRefined_36 : decode cL_isRefined 36 = .ok (.ifCond .ge 7, 3) := by decide +kernel
theorem dL_isRefined_39 : decode cL_isRefined 39 = .ok (.iconst 0, 1) := by decide +kernel
theorem dL_isRefined_40 : decode cL_isRefined 40 = .ok (.goto 5, 3) := by decide +kernel
theorem dL_isRefined_43 : decode cL_isRefined 43 = .ok (.iload 8, 2) := by decide +kernel
theorem dL_isRefined_45 : decode cL_isRefined 45 = .ok (.istore 7, 2) := by decide +kernel
theorem dL_isRefined_47 : decode cL_isRefined 47 = .ok (.iconst 0, 1) := by decide +kernel
theorem dL_isRefined_48 : decode cL_isRefined 48 = .ok (.istore 8, 2) := by decide +kernel
theorem dL_isRefined_50 : decode cL_isRefined 50 = .ok (.iconst 0, 1) := by decide +kernel
theorem dL_isRefined_51 : decode cL_isRefined 51 = .ok (.istore 10, 2) := by decide +kernel
theorem dL_isRefined_53 : decode cL_isRefined 53 = .ok (.iload 10, 2) := by decide +kernel
theorem dL_isRefined_55 : decode cL_isRefined 55 = .ok (.iload 4, 2) := by decide +kernel
theorem dL_isRefined_57 : decode cL_isRefined 57 = .ok (.if_icmp .ge 124, 3) := by decide +kernel
theorem dL_isRefined_60 : decode cL_isRefined 60 = .ok (.aload 5, 2) := by decide +kernel
theorem dL_isRefined_62 : decode cL_isRefined 62 = .ok (.iload 10, 2) := by decide +kernel
theorem dL_isRefined_64 : decode cL_isRefined 64 = .ok (.iload 9, 2) := by decide +kernel
theorem dL_isRefined_66 : decode cL_isRefined 66 = .ok (.ifCond .ge 13, 3) := by decide +kernel
theorem dL_isRefined_69 : decode cL_isRefined 69 = .ok (.lload_n 2, 1) := by decide +kernel
theorem dL_isRefined_70 : decode cL_isRefined 70 = .ok (.iload 10, 2) := by decide +kernel
theorem dL_isRefined_72 : decode cL_isRefined 72 = .ok (.invokestatic 31, 3) := by decide +kernel
theorem dL_isRefined_75 : decode cL_isRefined 75 = .ok (.i2l, 1) := by decide +kernel
theorem dL_isRefined_76 : decode cL_isRefined 76 = .ok (.goto 9, 3) := by decide +kernel
theorem dL_isRefined_79 : decode cL_isRefined 79 = .ok (.aload 6, 2) := by decide +kernel
theorem dL_isRefined_81 : decode cL_isRefined 81 = .ok (.iload 10, 2) := by decide +kernel
theorem dL_isRefined_83 : decode cL_isRefined 83 = .ok (.iaload, 1) := by decide +kernel
theorem dL_isRefined_84 : decode cL_isRefined 84 = .ok (.i2l, 1) := by decide +kernel
theorem dL_isRefined_85 : decode cL_isRefined 85 = .ok (.lastore, 1) := by decide +kernel
theorem dL_isRefined_86 : decode cL_isRefined 86 = .ok (.iconst 0, 1) := by decide +kernel
theorem dL_isRefined_87 : decode cL_isRefined 87 = .ok (.istore 11, 2) := by decide +kernel
theorem dL_isRefined_89 : decode cL_isRefined 89 = .ok (.iload 11, 2) := by decide +kernel
theorem dL_isRefined_91 : decode cL_isRefined 91 = .ok (.iload 4, 2) := by decide +kernel
theorem dL_isRefined_93 : decode cL_isRefined 93 = .ok (.if_icmp .ge 82, 3) := by decide +kernel
theorem dL_isRefined_96 : decode cL_isRefined 96 = .ok (.iload 9, 2) := by decide +kernel
theorem dL_isRefined_98 : decode cL_isRefined 98 = .ok (.ifCond .lt 77, 3) := by decide +kernel
theorem dL_isRefined_101 : decode cL_isRefined 101 = .ok (.iconst 0, 1) := by decide +kernel
theorem dL_isRefined_102 : decode cL_isRefined 102 = .ok (.istore 12, 2) := by decide +kernel
theorem dL_isRefined_104 : decode cL_isRefined 104 = .ok (.iconst 0, 1) := by decide +kernel
theorem dL_isRefined_105 : decode cL_isRefined 105 = .ok (.istore 13, 2) := by decide +kernel
theorem dL_isRefined_107 : decode cL_isRefined 107 = .ok (.iload 13, 2) := by decide +kernel
theorem dL_isRefined_109 : decode cL_isRefined 109 = .ok (.iload 4, 2) := by decide +kernel
theorem dL_isRefined_111 : decode cL_isRefined 111 = .ok (.if_icmp .ge 40, 3) := by decide +kernel
theorem dL_isRefined_114 : decode cL_isRefined 114 = .ok (.iload 12, 2) := by decide +kernel
theorem dL_isRefined_116 : decode cL_isRefined 116 = .ok (.aload 6, 2) := by decide +kernel
theorem dL_isRefined_118 : decode cL_isRefined 118 = .ok (.iload 13, 2) := by decide +kernel
theorem dL_isRefined_120 : decode cL_isRefined 120 = .ok (.iaload, 1) := by decide +kernel
theorem dL_isRefined_121 : decode cL_isRefined 121 = .ok (.iload 11, 2) := by decide +kernel
theorem dL_isRefined_123 : decode cL_isRefined 123 = .ok (.if_icmp .ne 18, 3) := by decide +kernel
theorem dL_isRefined_126 : decode cL_isRefined 126 = .ok (.lload_n 2, 1) := by decide +kernel
theorem dL_isRefined_127 : decode cL_isRefined 127 = .ok (.iload 10, 2) := by decide +kernel
theorem dL_isRefined_129 : decode cL_isRefined 129 = .ok (.iload 13, 2) := by decide +kernel
theorem dL_isRefined_131 : decode cL_isRefined 131 = .ok (.invokestatic 39, 3) := by decide +kernel
theorem dL_isRefined_134 : decode cL_isRefined 134 = .ok (.ifCond .eq 7, 3) := by decide +kernel
theorem dL_isRefined_137 : decode cL_isRefined 137 = .ok (.iconst 1, 1) := by decide +kernel
theorem dL_isRefined_138 : decode cL_isRefined 138 = .ok (.goto 4, 3) := by decide +kernel
theorem dL_isRefined_141 : decode cL_isRefined 141 = .ok (.iconst 0, 1) := by decide +kernel
theorem dL_isRefined_142 : decode cL_isRefined 142 = .ok (.iadd, 1) := by decide +kernel
theorem dL_isRefined_143 : decode cL_isRefined 143 = .ok (.istore 12, 2) := by decide +kernel
theorem dL_isRefined_145 : decode cL_isRefined 145 = .ok (.iinc 13 1, 3) := by decide +kernel
theorem dL_isRefined_148 : decode cL_isRefined 148 = .ok (.goto (-41), 3) := by decide +kernel
theorem dL_isRefined_151 : decode cL_isRefined 151 = .ok (.aload 5, 2) := by decide +kernel
theorem dL_isRefined_153 : decode cL_isRefined 153 = .ok (.iload 10, 2) := by decide +kernel
theorem dL_isRefined_155 : decode cL_isRefined 155 = .ok (.aload 5, 2) := by decide +kernel
theorem dL_isRefined_157 : decode cL_isRefined 157 = .ok (.iload 10, 2) := by decide +kernel
theorem dL_isRefined_159 : decode cL_isRefined 159 = .ok (.laload, 1) := by decide +kernel
theorem dL_isRefined_160 : decode cL_isRefined 160 = .ok (.ldc2_w 48, 3) := by decide +kernel
theorem dL_isRefined_163 : decode cL_isRefined 163 = .ok (.lmul, 1) := by decide +kernel
theorem dL_isRefined_164 : decode cL_isRefined 164 = .ok (.iload 12, 2) := by decide +kernel
theorem dL_isRefined_166 : decode cL_isRefined 166 = .ok (.i2l, 1) := by decide +kernel
theorem dL_isRefined_167 : decode cL_isRefined 167 = .ok (.ladd, 1) := by decide +kernel
theorem dL_isRefined_168 : decode cL_isRefined 168 = .ok (.lastore, 1) := by decide +kernel
theorem dL_isRefined_169 : decode cL_isRefined 169 = .ok (.iinc 11 1, 3) := by decide +kernel
theorem dL_isRefined_172 : decode cL_isRefined 172 = .ok (.goto (-83), 3) := by decide +kernel
theorem dL_isRefined_175 : decode cL_isRefined 175 = .ok (.iinc 10 1, 3) := by decide +kernel
theorem dL_isRefined_178 : decode cL_isRefined 178 = .ok (.goto (-125), 3) := by decide +kernel
theorem dL_isRefined_181 : decode cL_isRefined 181 = .ok (.iconst 0, 1) := by decide +kernel
theorem dL_isRefined_182 : decode cL_isRefined 182 = .ok (.istore 10, 2) := by decide +kernel
theorem dL_isRefined_184 : decode cL_isRefined 184 = .ok (.iload 10, 2) := by decide +kernel
theorem dL_isRefined_186 : decode cL_isRefined 186 = .ok (.iload 4, 2) := by decide +kernel
theorem dL_isRefined_188 : decode cL_isRefined 188 = .ok (.if_icmp .ge 131, 3) := by decide +kernel
theorem dL_isRefined_191 : decode cL_isRefined 191 = .ok (.iconst 0, 1) := by decide +kernel
theorem dL_isRefined_192 : decode cL_isRefined 192 = .ok (.istore 11, 2) := by decide +kernel
theorem dL_isRefined_194 : decode cL_isRefined 194 = .ok (.iconst 0, 1) := by decide +kernel
theorem dL_isRefined_195 : decode cL_isRefined 195 = .ok (.istore 12, 2) := by decide +kernel
theorem dL_isRefined_197 : decode cL_isRefined 197 = .ok (.iload 12, 2) := by decide +kernel
theorem dL_isRefined_199 : decode cL_isRefined 199 = .ok (.iload 4, 2) := by decide +kernel
theorem dL_isRefined_201 : decode cL_isRefined 201 = .ok (.if_icmp .ge 87, 3) := by decide +kernel
theorem dL_isRefined_204 : decode cL_isRefined 204 = .ok (.aload 5, 2) := by decide +kernel
theorem dL_isRefined_206 : decode cL_isRefined 206 = .ok (.iload 12, 2) := by decide +kernel
theorem dL_isRefined_208 : decode cL_isRefined 208 = .ok (.laload, 1) := by decide +kernel
theorem dL_isRefined_209 : decode cL_isRefined 209 = .ok (.aload 5, 2) := by decide +kernel
theorem dL_isRefined_211 : decode cL_isRefined 211 = .ok (.iload 10, 2) := by decide +kernel
theorem dL_isRefined_213 : decode cL_isRefined 213 = .ok (.laload, 1) := by decide +kernel
theorem dL_isRefined_214 : decode cL_isRefined 214 = .ok (.lcmp, 1) := by decide +kernel
theorem dL_isRefined_215 : decode cL_isRefined 215 = .ok (.ifCond .ge 7, 3) := by decide +kernel
theorem dL_isRefined_218 : decode cL_isRefined 218 = .ok (.iconst 1, 1) := by decide +kernel
theorem dL_isRefined_219 : decode cL_isRefined 219 = .ok (.goto 4, 3) := by decide +kernel
theorem dL_isRefined_222 : decode cL_isRefined 222 = .ok (.iconst 0, 1) := by decide +kernel
theorem dL_isRefined_223 : decode cL_isRefined 223 = .ok (.istore 13, 2) := by decide +kernel
theorem dL_isRefined_225 : decode cL_isRefined 225 = .ok (.iconst 0, 1) := by decide +kernel
theorem dL_isRefined_226 : decode cL_isRefined 226 = .ok (.istore 14, 2) := by decide +kernel
theorem dL_isRefined_228 : decode cL_isRefined 228 = .ok (.iload 14, 2) := by decide +kernel
theorem dL_isRefined_230 : decode cL_isRefined 230 = .ok (.iload 12, 2) := by decide +kernel
theorem dL_isRefined_232 : decode cL_isRefined 232 = .ok (.if_icmp .ge 35, 3) := by decide +kernel
theorem dL_isRefined_235 : decode cL_isRefined 235 = .ok (.iload 13, 2) := by decide +kernel
theorem dL_isRefined_237 : decode cL_isRefined 237 = .ok (.ifCond .eq 21, 3) := by decide +kernel
theorem dL_isRefined_240 : decode cL_isRefined 240 = .ok (.aload 5, 2) := by decide +kernel
theorem dL_isRefined_242 : decode cL_isRefined 242 = .ok (.iload 14, 2) := by decide +kernel
theorem dL_isRefined_244 : decode cL_isRefined 244 = .ok (.laload, 1) := by decide +kernel
theorem dL_isRefined_245 : decode cL_isRefined 245 = .ok (.aload 5, 2) := by decide +kernel
theorem dL_isRefined_247 : decode cL_isRefined 247 = .ok (.iload 12, 2) := by decide +kernel
theorem dL_isRefined_249 : decode cL_isRefined 249 = .ok (.laload, 1) := by decide +kernel
theorem dL_isRefined_250 : decode cL_isRefined 250 = .ok (.lcmp, 1) := by decide +kernel
theorem dL_isRefined_251 : decode cL_isRefined 251 = .ok (.ifCond .eq 7, 3) := by decide +kernel
theorem dL_isRefined_254 : decode cL_isRefined 254 = .ok (.iconst 1, 1) := by decide +kernel
theorem dL_isRefined_255 : decode cL_isRefined 255 = .ok (.goto 4, 3) := by decide +kernel
theorem dL_isRefined_258 : decode cL_isRefined 258 = .ok (.iconst 0, 1) := by decide +kernel
theorem dL_isRefined_259 : decode cL_isRefined 259 = .ok (.istore 13, 2) := by decide +kernel
theorem dL_isRefined_261 : decode cL_isRefined 261 = .ok (.iinc 14 1, 3) := by decide +kernel
theorem dL_isRefined_264 : decode cL_isRefined 264 = .ok (.goto (-36), 3) := by decide +kernel
theorem dL_isRefined_267 : decode cL_isRefined 267 = .ok (.iload 11, 2) := by decide +kernel
theorem dL_isRefined_269 : decode cL_isRefined 269 = .ok (.iload 13, 2) := by decide +kernel
theorem dL_isRefined_271 : decode cL_isRefined 271 = .ok (.ifCond .eq 7, 3) := by decide +kernel
theorem dL_isRefined_274 : decode cL_isRefined 274 = .ok (.iconst 1, 1) := by decide +kernel
theorem dL_isRefined_275 : decode cL_isRefined 275 = .ok (.goto 4, 3) := by decide +kernel
theorem dL_isRefined_278 : decode cL_isRefined 278 = .ok (.iconst 0, 1) := by decide +kernel
theorem dL_isRefined_279 : decode cL_isRefined 279 = .ok (.iadd, 1) := by decide +kernel
theorem dL_isRefined_280 : decode cL_isRefined 280 = .ok (.istore 11, 2) := by decide +kernel
theorem dL_isRefined_282 : decode cL_isRefined 282 = .ok (.iinc 12 1, 3) := by decide +kernel
theorem dL_isRefined_285 : decode cL_isRefined 285 = .ok (.goto (-88), 3) := by decide +kernel
theorem dL_isRefined_288 : decode cL_isRefined 288 = .ok (.aload 6, 2) := by decide +kernel
theorem dL_isRefined_290 : decode cL_isRefined 290 = .ok (.iload 10, 2) := by decide +kernel
theorem dL_isRefined_292 : decode cL_isRefined 292 = .ok (.iload 11, 2) := by decide +kernel
theorem dL_isRefined_294 : decode cL_isRefined 294 = .ok (.iastore, 1) := by decide +kernel
theorem dL_isRefined_295 : decode cL_isRefined 295 = .ok (.iload 11, 2) := by decide +kernel
theorem dL_isRefined_297 : decode cL_isRefined 297 = .ok (.iload 8, 2) := by decide +kernel
theorem dL_isRefined_299 : decode cL_isRefined 299 = .ok (.if_icmp .lt 10, 3) := by decide +kernel
theorem dL_isRefined_302 : decode cL_isRefined 302 = .ok (.iload 11, 2) := by decide +kernel
theorem dL_isRefined_304 : decode cL_isRefined 304 = .ok (.iconst 1, 1) := by decide +kernel
theorem dL_isRefined_305 : decode cL_isRefined 305 = .ok (.iadd, 1) := by decide +kernel
theorem dL_isRefined_306 : decode cL_isRefined 306 = .ok (.goto 5, 3) := by decide +kernel
theorem dL_isRefined_309 : decode cL_isRefined 309 = .ok (.iload 8, 2) := by decide +kernel
theorem dL_isRefined_311 : decode cL_isRefined 311 = .ok (.istore 8, 2) := by decide +kernel
theorem dL_isRefined_313 : decode cL_isRefined 313 = .ok (.iinc 10 1, 3) := by decide +kernel
theorem dL_isRefined_316 : decode cL_isRefined 316 = .ok (.goto (-132), 3) := by decide +kernel
theorem dL_isRefined_319 : decode cL_isRefined 319 = .ok (.iinc 9 1, 3) := by decide +kernel
theorem dL_isRefined_322 : decode cL_isRefined 322 = .ok (.goto (-295), 3) := by decide +kernel
theorem dL_isRefined_325 : decode cL_isRefined 325 = .ok (.aload_n 0, 1) := by decide +kernel
theorem dL_isRefined_326 : decode cL_isRefined 326 = .ok (.iload_n 1, 1) := by decide +kernel
theorem dL_isRefined_327 : decode cL_isRefined 327 = .ok (.invokevirtual 50, 3) := by decide +kernel
theorem dL_isRefined_330 : decode cL_isRefined 330 = .ok (.iload 8, 2) := by decide +kernel
theorem dL_isRefined_332 : decode cL_isRefined 332 = .ok (.if_icmp .ne 17, 3) := by decide +kernel
theorem dL_isRefined_335 : decode cL_isRefined 335 = .ok (.aload_n 0, 1) := by decide +kernel
theorem dL_isRefined_336 : decode cL_isRefined 336 = .ok (.iload_n 1, 1) := by decide +kernel
theorem dL_isRefined_337 : decode cL_isRefined 337 = .ok (.invokevirtual 55, 3) := by decide +kernel
theorem dL_isRefined_340 : decode cL_isRefined 340 = .ok (.iload 9, 2) := by decide +kernel
theorem dL_isRefined_342 : decode cL_isRefined 342 = .ok (.if_icmp .ne 7, 3) := by decide +kernel
theorem dL_isRefined_345 : decode cL_isRefined 345 = .ok (.iconst 1, 1) := by decide +kernel
theorem dL_isRefined_346 : decode cL_isRefined 346 = .ok (.goto 4, 3) := by decide +kernel
theorem dL_isRefined_349 : decode cL_isRefined 349 = .ok (.iconst 0, 1) := by decide +kernel
theorem dL_isRefined_350 : decode cL_isRefined 350 = .ok (.istore 10, 2) := by decide +kernel
theorem dL_isRefined_352 : decode cL_isRefined 352 = .ok (.iconst 0, 1) := by decide +kernel
theorem dL_isRefined_353 : decode cL_isRefined 353 = .ok (.istore 11, 2) := by decide +kernel
theorem dL_isRefined_355 : decode cL_isRefined 355 = .ok (.iload 11, 2) := by decide +kernel
theorem dL_isRefined_357 : decode cL_isRefined 357 = .ok (.iload 4, 2) := by decide +kernel
theorem dL_isRefined_359 : decode cL_isRefined 359 = .ok (.if_icmp .ge 36, 3) := by decide +kernel
theorem dL_isRefined_362 : decode cL_isRefined 362 = .ok (.iload 10, 2) := by decide +kernel
theorem dL_isRefined_364 : decode cL_isRefined 364 = .ok (.ifCond .eq 31, 3) := by decide +kernel
theorem dL_isRefined_367 : decode cL_isRefined 367 = .ok (.aload_n 0, 1) := by decide +kernel
theorem dL_isRefined_368 : decode cL_isRefined 368 = .ok (.iload_n 1, 1) := by decide +kernel
theorem dL_isRefined_369 : decode cL_isRefined 369 = .ok (.iload 11, 2) := by decide +kernel
theorem dL_isRefined_371 : decode cL_isRefined 371 = .ok (.invokevirtual 58, 3) := by decide +kernel
theorem dL_isRefined_374 : decode cL_isRefined 374 = .ok (.aload 6, 2) := by decide +kernel
theorem dL_isRefined_376 : decode cL_isRefined 376 = .ok (.iload 11, 2) := by decide +kernel
theorem dL_isRefined_378 : decode cL_isRefined 378 = .ok (.iaload, 1) := by decide +kernel
theorem dL_isRefined_379 : decode cL_isRefined 379 = .ok (.if_icmp .ne 7, 3) := by decide +kernel
theorem dL_isRefined_382 : decode cL_isRefined 382 = .ok (.iconst 1, 1) := by decide +kernel
theorem dL_isRefined_383 : decode cL_isRefined 383 = .ok (.goto 4, 3) := by decide +kernel
theorem dL_isRefined_386 : decode cL_isRefined 386 = .ok (.iconst 0, 1) := by decide +kernel
theorem dL_isRefined_387 : decode cL_isRefined 387 = .ok (.istore 10, 2) := by decide +kernel
theorem dL_isRefined_389 : decode cL_isRefined 389 = .ok (.iinc 11 1, 3) := by decide +kernel
theorem dL_isRefined_392 : decode cL_isRefined 392 = .ok (.goto (-37), 3) := by decide +kernel
theorem dL_isRefined_395 : decode cL_isRefined 395 = .ok (.iload 10, 2) := by decide +kernel
theorem dL_isRefined_397 : decode cL_isRefined 397 = .ok (.ireturn, 1) := by decide +kernel
set_option maxRecDepth 20000 in
theorem ggL_isRefined_L_size : GoodIn wsL_isRefined wsL_size := goodIn_r _ [7] (by decide +kernel) (by decide +kernel)
set_option maxRecDepth 20000 in
theorem gL_isRefined_L_size : GoodIn wsL_isRefined (va_wsS RL 23 yL_size wsL_size) := goodIn_app (goodIn_of _ (by decide +kernel)) ggL_isRefined_L_size
set_option maxRecDepth 20000 in
theorem ggL_isRefined_L_colour : GoodIn wsL_isRefined wsL_colour := goodIn_r _ [10, 11] (by decide +kernel) (by decide +kernel)
set_option maxRecDepth 20000 in
theorem gL_isRefined_L_colour : GoodIn wsL_isRefined (va_wsS RL 31 yL_colour wsL_colour) := goodIn_app (goodIn_of _ (by decide +kernel)) ggL_isRefined_L_colour
set_option maxRecDepth 20000 in
theorem ggL_isRefined_L_edge : GoodIn wsL_isRefined wsL_edge := goodIn_r _ [14, 15, 16, 6, 17] (by decide +kernel) (by decide +kernel)
set_option maxRecDepth 20000 in
theorem gL_isRefined_L_edge : GoodIn wsL_isRefined (va_wsS RL 39 yL_edge wsL_edge) := goodIn_app (goodIn_of _ (by decide +kernel)) ggL_isRefined_L_edge
set_option maxRecDepth 20000 in
theorem ggL_isRefined_X7_classes : GoodIn wsL_isRefined wsX7_classes := goodIn_ca (goodIn_r _ [22, 23, 24, 25, 26, 21, 27, 28, 29, 30, 31, 32, 33, 34, 35, 36, 37, 38, 39, 40, 41, 42, 43, 44, 45, 46, 47, 48, 49, 50, 51, 52, 53, 54, 55, 56, 57, 58, 59, 60, 61, 62, 63, 64, 76, 77, 78, 79, 80, 81, 82, 83, 84, 85, 86, 87, 88, 89] (by decide +kernel) (by decide +kernel)) (goodIn_sub (fun _ h => List.mem_cons_of_mem _ (List.mem_append_right _ h)) (by decide +kernel))
set_option maxRecDepth 20000 in
theorem gL_isRefined_X7_classes : GoodIn wsL_isRefined (wsV RL 50 RX7 yX7_classes wsX7_classes) := goodIn_app (goodIn_of _ (by decide +kernel)) ggL_isRefined_X7_classes
set_option maxRecDepth 20000 in
theorem ggL_isRefined_X7_rounds : GoodIn wsL_isRefined wsX7_rounds := goodIn_ca (goodIn_r _ [68, 23, 24, 25, 26, 21, 27, 28, 29, 30, 31, 32, 33, 34, 35, 36, 37, 38, 39, 40, 41, 42, 43, 44, 45, 46, 47, 48, 49, 50, 51, 52, 53, 54, 55, 56, 57, 58, 59, 60, 61, 62, 63, 64, 76, 77, 78, 79, 80, 81, 82, 83, 84, 85, 86, 87, 88, 89] (by decide +kernel) (by decide +kernel)) (goodIn_sub (fun _ h => List.mem_cons_of_mem _ (List.mem_append_right _ h)) (by decide +kernel))
set_option maxRecDepth 20000 in
theorem gL_isRefined_X7_rounds : GoodIn wsL_isRefined (wsV RL 55 RX7 yX7_rounds wsX7_rounds) := goodIn_app (goodIn_of _ (by decide +kernel)) ggL_isRefined_X7_rounds
set_option maxRecDepth 20000 in
theorem ggL_isRefined_X7_classOf : GoodIn wsL_isRefined wsX7_classOf := goodIn_ca (goodIn_r _ [72, 23, 24, 25, 26, 21, 27, 28, 29, 30, 73, 74, 75, 31, 32, 33, 34, 35, 36, 37, 38, 39, 40, 41, 42, 43, 44, 45, 46, 47, 48, 49, 50, 51, 52, 53, 54, 55, 56, 57, 58, 59, 60, 61, 62, 63, 64, 76, 77, 78, 79, 80, 81, 82, 83, 84, 85, 86, 87, 88, 89] (by decide +kernel) (by decide +kernel)) (goodIn_sub (fun _ h => List.mem_cons_of_mem _ (List.mem_append_right _ h)) (by decide +kernel))
set_option maxRecDepth 20000 in
theorem gL_isRefined_X7_classOf : GoodIn wsL_isRefined (wsV RL 58 RX7 yX7_classOf wsX7_classOf) := goodIn_app (goodIn_of _ (by decide +kernel)) ggL_isRefined_X7_classOf
theorem wd_L_isRefined_0 : Cond.arrayClass .long ∈ wsL_isRefined := by decide +kernel
theorem wd_L_isRefined_1 : Cond.arrayClass .int ∈ wsL_isRefined := by decide +kernel
theorem wd_L_isRefined_2 : Cond.constantLong RL 48 8 ∈ wsL_isRefined := by decide +kernel
def r_L_isRefined : Room := { frames := 8, cells := 18, slots := 112, locals := 134 }
set_option maxRecDepth 100000 in
set_option maxHeartbeats 4000000 in
theorem w_L_isRefined_142 {K : zK} {w : Nat} (hk : zIs K RL cL_isRefined 15 wsL_isRefined (some .boolean) r_L_isRefined) (hfl : (kL K).stackTraces = false) (hnx : zNX K) {r0 : Int32} {τ0 : zST} (hq : zQG K (.inr (some (.int r0))) τ0) (hw : eN (kZ K) = (w + 2)) (cs ss : Nat) (hb1 : cs + 0 ≤ 18) (hb2 : ss + 0 ≤ 112) (F : Nat) (k27 : Nat → Int32 → Int64 → Int32 → Nat → Nat → Int32 → Int32 → Int32 → zST → Option (Int32 × zST)) (hk27 : ∀ (a0 : Nat) (a1 : Int32) (a2 : Int64) (a4 : Int32) (a5 : Nat) (a6 : Nat) (a7 : Int32) (a8 : Int32) (a9 : Int32) (ha0 : atCanonCote (kZ K) a0) (ha5 : aJ (kZ K) a5 8) (ha6 : aI (kZ K) a6 8) (σ : zST), k27 a0 a1 a2 a4 a5 a6 a7 a8 a9 σ = some (r0, τ0) → Z K cs ss 27 [(0, .ref (eA (kZ K) a0)), (1, .int a1), (2, .long a2), (4, .int a4), (5, .ref (eA (kZ K) a5)), (6, .ref (eA (kZ K) a6)), (7, .int a7), (8, .int a8), (9, .int a9)] [] σ) (k53 : Nat → Int32 → Int64 → Int32 → Nat → Nat → Int32 → Int32 → Int32 → Int32 → zST → Option (Int32 × zST)) (hk53 : ∀ (a0 : Nat) (a1 : Int32) (a2 : Int64) (a4 : Int32) (a5 : Nat) (a6 : Nat) (a7 : Int32) (a8 : Int32) (a9 : Int32) (a10 : Int32) (ha0 : atCanonCote (kZ K) a0) (ha5 : aJ (kZ K) a5 8) (ha6 : aI (kZ K) a6 8) (σ : zST), k53 a0 a1 a2 a4 a5 a6 a7 a8 a9 a10 σ = some (r0, τ0) → Z K cs ss 53 [(0, .ref (eA (kZ K) a0)), (1, .int a1), (2, .long a2), (4, .int a4), (5, .ref (eA (kZ K) a5)), (6, .ref (eA (kZ K) a6)), (7, .int a7), (8, .int a8), (9, .int a9), (10, .int a10)] [] σ) (k89 : Nat → Int32 → Int64 → Int32 → Nat → Nat → Int32 → Int32 → Int32 → Int32 → Int32 → zST → Option (Int32 × zST)) (hk89 : ∀ (a0 : Nat) (a1 : Int32) (a2 : Int64) (a4 : Int32) (a5 : Nat) (a6 : Nat) (a7 : Int32) (a8 : Int32) (a9 : Int32) (a10 : Int32) (a11 : Int32) (ha0 : atCanonCote (kZ K) a0) (ha5 : aJ (kZ K) a5 8) (ha6 : aI (kZ K) a6 8) (σ : zST), k89 a0 a1 a2 a4 a5 a6 a7 a8 a9 a10 a11 σ = some (r0, τ0) → Z K cs ss 89 [(0, .ref (eA (kZ K) a0)), (1, .int a1), (2, .long a2), (4, .int a4), (5, .ref (eA (kZ K) a5)), (6, .ref (eA (kZ K) a6)), (7, .int a7), (8, .int a8), (9, .int a9), (10, .int a10), (11, .int a11)] [] σ) (k107 : Nat → Int32 → Int64 → Int32 → Nat → Nat → Int32 → Int32 → Int32 → Int32 → Int32 → Int32 → Int32 → zST → Option (Int32 × zST)) (hk107 : ∀ (a0 : Nat) (a1 : Int32) (a2 : Int64) (a4 : Int32) (a5 : Nat) (a6 : Nat) (a7 : Int32) (a8 : Int32) (a9 : Int32) (a10 : Int32) (a11 : Int32) (a12 : Int32) (a13 : Int32) (ha0 : atCanonCote (kZ K) a0) (ha5 : aJ (kZ K) a5 8) (ha6 : aI (kZ K) a6 8) (σ : zST), k107 a0 a1 a2 a4 a5 a6 a7 a8 a9 a10 a11 a12 a13 σ = some (r0, τ0) → Z K cs ss 107 [(0, .ref (eA (kZ K) a0)), (1, .int a1), (2, .long a2), (4, .int a4), (5, .ref (eA (kZ K) a5)), (6, .ref (eA (kZ K) a6)), (7, .int a7), (8, .int a8), (9, .int a9), (10, .int a10), (11, .int a11), (12, .int a12), (13, .int a13)] [] σ) (a0 : Nat) (a1 : Int32) (a2 : Int64) (a4 : Int32) (a5 : Nat) (a6 : Nat) (a7 : Int32) (a8 : Int32) (a9 : Int32) (a10 : Int32) (a11 : Int32) (a13 : Int32) (t0 : Int32) (t1 : Int32) (ha0 : atCanonCote (kZ K) a0) (ha5 : aJ (kZ K) a5 8) (ha6 : aI (kZ K) a6 8) (σ : zST) (h : m_L_isRefined_142 F w k27 k53 k89 k107 a0 a1 a2 a4 a5 a6 a7 a8 a9 a10 a11 a13 t0 t1 σ = some (r0, τ0)) : Z K cs ss 142 [(0, .ref (eA (kZ K) a0)), (1, .int a1), (2, .long a2), (4, .int a4), (5, .ref (eA (kZ K) a5)), (6, .ref (eA (kZ K) a6)), (7, .int a7), (8, .int a8), (9, .int a9), (10, .int a10), (11, .int a11), (13, .int a13)] [.int t0, .int t1] σ := by
  unfold m_L_isRefined_142 at h
  refine Z_iadd hk dL_isRefined_142 ?_
  obtain ⟨x88, e89, h⟩ := nm_get h
  refine Z_eqI e89 ?_
  refine Z_istore hk (lv' := [(12, .int x88), (0, .ref (eA (kZ K) a0)), (1, .int a1), (2, .long a2), (4, .int a4), (5, .ref (eA (kZ K) a5)), (6, .ref (eA (kZ K) a6)), (7, .int a7), (8, .int a8), (9, .int a9), (10, .int a10), (11, .int a11), (13, .int a13)]) dL_isRefined_143 (by decide) rfl ?_
  obtain ⟨x90, e91, h⟩ := nm_get h
  refine Z_iinc hk 12 (v := x90) (lv' := [(13, .int x90), (12, .int x88), (0, .ref (eA (kZ K) a0)), (1, .int a1), (2, .long a2), (4, .int a4), (5, .ref (eA (kZ K) a5)), (6, .ref (eA (kZ K) a6)), (7, .int a7), (8, .int a8), (9, .int a9), (10, .int a10), (11, .int a11)]) dL_isRefined_145 rfl (by rw [zc_iinc_1]; exact e91) (by decide) rfl ?_
  refine Z_goto hk (tgt := 107) dL_isRefined_148 (by decide) ?_
  refine Z_sub [2, 3, 4, 5, 6, 7, 8, 9, 10, 11, 12, 1, 0] rfl ?_
  exact hk107 a0 a1 a2 a4 a5 a6 a7 a8 a9 a10 a11 x88 x90 ha0 ha5 ha6 σ h
set_option maxRecDepth 100000 in
set_option maxHeartbeats 4000000 in
theorem w_L_isRefined_141 {K : zK} {w : Nat} (hk : zIs K RL cL_isRefined 15 wsL_isRefined (some .boolean) r_L_isRefined) (hfl : (kL K).stackTraces = false) (hnx : zNX K) {r0 : Int32} {τ0 : zST} (hq : zQG K (.inr (some (.int r0))) τ0) (hw : eN (kZ K) = (w + 2)) (cs ss : Nat) (hb1 : cs + 0 ≤ 18) (hb2 : ss + 0 ≤ 112) (F : Nat) (k27 : Nat → Int32 → Int64 → Int32 → Nat → Nat → Int32 → Int32 → Int32 → zST → Option (Int32 × zST)) (hk27 : ∀ (a0 : Nat) (a1 : Int32) (a2 : Int64) (a4 : Int32) (a5 : Nat) (a6 : Nat) (a7 : Int32) (a8 : Int32) (a9 : Int32) (ha0 : atCanonCote (kZ K) a0) (ha5 : aJ (kZ K) a5 8) (ha6 : aI (kZ K) a6 8) (σ : zST), k27 a0 a1 a2 a4 a5 a6 a7 a8 a9 σ = some (r0, τ0) → Z K cs ss 27 [(0, .ref (eA (kZ K) a0)), (1, .int a1), (2, .long a2), (4, .int a4), (5, .ref (eA (kZ K) a5)), (6, .ref (eA (kZ K) a6)), (7, .int a7), (8, .int a8), (9, .int a9)] [] σ) (k53 : Nat → Int32 → Int64 → Int32 → Nat → Nat → Int32 → Int32 → Int32 → Int32 → zST → Option (Int32 × zST)) (hk53 : ∀ (a0 : Nat) (a1 : Int32) (a2 : Int64) (a4 : Int32) (a5 : Nat) (a6 : Nat) (a7 : Int32) (a8 : Int32) (a9 : Int32) (a10 : Int32) (ha0 : atCanonCote (kZ K) a0) (ha5 : aJ (kZ K) a5 8) (ha6 : aI (kZ K) a6 8) (σ : zST), k53 a0 a1 a2 a4 a5 a6 a7 a8 a9 a10 σ = some (r0, τ0) → Z K cs ss 53 [(0, .ref (eA (kZ K) a0)), (1, .int a1), (2, .long a2), (4, .int a4), (5, .ref (eA (kZ K) a5)), (6, .ref (eA (kZ K) a6)), (7, .int a7), (8, .int a8), (9, .int a9), (10, .int a10)] [] σ) (k89 : Nat → Int32 → Int64 → Int32 → Nat → Nat → Int32 → Int32 → Int32 → Int32 → Int32 → zST → Option (Int32 × zST)) (hk89 : ∀ (a0 : Nat) (a1 : Int32) (a2 : Int64) (a4 : Int32) (a5 : Nat) (a6 : Nat) (a7 : Int32) (a8 : Int32) (a9 : Int32) (a10 : Int32) (a11 : Int32) (ha0 : atCanonCote (kZ K) a0) (ha5 : aJ (kZ K) a5 8) (ha6 : aI (kZ K) a6 8) (σ : zST), k89 a0 a1 a2 a4 a5 a6 a7 a8 a9 a10 a11 σ = some (r0, τ0) → Z K cs ss 89 [(0, .ref (eA (kZ K) a0)), (1, .int a1), (2, .long a2), (4, .int a4), (5, .ref (eA (kZ K) a5)), (6, .ref (eA (kZ K) a6)), (7, .int a7), (8, .int a8), (9, .int a9), (10, .int a10), (11, .int a11)] [] σ) (k107 : Nat → Int32 → Int64 → Int32 → Nat → Nat → Int32 → Int32 → Int32 → Int32 → Int32 → Int32 → Int32 → zST → Option (Int32 × zST)) (hk107 : ∀ (a0 : Nat) (a1 : Int32) (a2 : Int64) (a4 : Int32) (a5 : Nat) (a6 : Nat) (a7 : Int32) (a8 : Int32) (a9 : Int32) (a10 : Int32) (a11 : Int32) (a12 : Int32) (a13 : Int32) (ha0 : atCanonCote (kZ K) a0) (ha5 : aJ (kZ K) a5 8) (ha6 : aI (kZ K) a6 8) (σ : zST), k107 a0 a1 a2 a4 a5 a6 a7 a8 a9 a10 a11 a12 a13 σ = some (r0, τ0) → Z K cs ss 107 [(0, .ref (eA (kZ K) a0)), (1, .int a1), (2, .long a2), (4, .int a4), (5, .ref (eA (kZ K) a5)), (6, .ref (eA (kZ K) a6)), (7, .int a7), (8, .int a8), (9, .int a9), (10, .int a10), (11, .int a11), (12, .int a12), (13, .int a13)] [] σ) (a0 : Nat) (a1 : Int32) (a2 : Int64) (a4 : Int32) (a5 : Nat) (a6 : Nat) (a7 : Int32) (a8 : Int32) (a9 : Int32) (a10 : Int32) (a11 : Int32) (a13 : Int32) (t0 : Int32) (ha0 : atCanonCote (kZ K) a0) (ha5 : aJ (kZ K) a5 8) (ha6 : aI (kZ K) a6 8) (σ : zST) (h : m_L_isRefined_141 F w k27 k53 k89 k107 a0 a1 a2 a4 a5 a6 a7 a8 a9 a10 a11 a13 t0 σ = some (r0, τ0)) : Z K cs ss 141 [(0, .ref (eA (kZ K) a0)), (1, .int a1), (2, .long a2), (4, .int a4), (5, .ref (eA (kZ K) a5)), (6, .ref (eA (kZ K) a6)), (7, .int a7), (8, .int a8), (9, .int a9), (10, .int a10), (11, .int a11), (13, .int a13)] [.int t0] σ := by
  unfold m_L_isRefined_141 at h
  refine Z_iconst hk dL_isRefined_141 zc_iconst_0 ?_
  refine Z_sub [0, 1, 2, 3, 4, 5, 6, 7, 8, 9, 10, 11] rfl ?_
  exact w_L_isRefined_142 hk hfl hnx hq hw cs ss (by omega) (by omega) F k27 hk27 k53 hk53 k89 hk89 k107 hk107 a0 a1 a2 a4 a5 a6 a7 a8 a9 a10 a11 a13 0 t0 ha0 ha5 ha6 σ h
set_option maxRecDepth 100000 in
set_option maxHeartbeats 4000000 in
theorem w_L_isRefined_107 {K : zK} {w : Nat} (hk : zIs K RL cL_isRefined 15 wsL_isRefined (some .boolean) r_L_isRefined) (hfl : (kL K).stackTraces = false) (hnx : zNX K) {r0 : Int32} {τ0 : zST} (hq : zQG K (.inr (some (.int r0))) τ0) (hw : eN (kZ K) = (w + 2)) (cs ss : Nat) (hb1 : cs + 0 ≤ 18) (hb2 : ss + 0 ≤ 112) (F : Nat) (k27 : Nat → Int32 → Int64 → Int32 → Nat → Nat → Int32 → Int32 → Int32 → zST → Option (Int32 × zST)) (hk27 : ∀ (a0 : Nat) (a1 : Int32) (a2 : Int64) (a4 : Int32) (a5 : Nat) (a6 : Nat) (a7 : Int32) (a8 : Int32) (a9 : Int32) (ha0 : atCanonCote (kZ K) a0) (ha5 : aJ (kZ K) a5 8) (ha6 : aI (kZ K) a6 8) (σ : zST), k27 a0 a1 a2 a4 a5 a6 a7 a8 a9 σ = some (r0, τ0) → Z K cs ss 27 [(0, .ref (eA (kZ K) a0)), (1, .int a1), (2, .long a2), (4, .int a4), (5, .ref (eA (kZ K) a5)), (6, .ref (eA (kZ K) a6)), (7, .int a7), (8, .int a8), (9, .int a9)] [] σ) (k53 : Nat → Int32 → Int64 → Int32 → Nat → Nat → Int32 → Int32 → Int32 → Int32 → zST → Option (Int32 × zST)) (hk53 : ∀ (a0 : Nat) (a1 : Int32) (a2 : Int64) (a4 : Int32) (a5 : Nat) (a6 : Nat) (a7 : Int32) (a8 : Int32) (a9 : Int32) (a10 : Int32) (ha0 : atCanonCote (kZ K) a0) (ha5 : aJ (kZ K) a5 8) (ha6 : aI (kZ K) a6 8) (σ : zST), k53 a0 a1 a2 a4 a5 a6 a7 a8 a9 a10 σ = some (r0, τ0) → Z K cs ss 53 [(0, .ref (eA (kZ K) a0)), (1, .int a1), (2, .long a2), (4, .int a4), (5, .ref (eA (kZ K) a5)), (6, .ref (eA (kZ K) a6)), (7, .int a7), (8, .int a8), (9, .int a9), (10, .int a10)] [] σ) (k89 : Nat → Int32 → Int64 → Int32 → Nat → Nat → Int32 → Int32 → Int32 → Int32 → Int32 → zST → Option (Int32 × zST)) (hk89 : ∀ (a0 : Nat) (a1 : Int32) (a2 : Int64) (a4 : Int32) (a5 : Nat) (a6 : Nat) (a7 : Int32) (a8 : Int32) (a9 : Int32) (a10 : Int32) (a11 : Int32) (ha0 : atCanonCote (kZ K) a0) (ha5 : aJ (kZ K) a5 8) (ha6 : aI (kZ K) a6 8) (σ : zST), k89 a0 a1 a2 a4 a5 a6 a7 a8 a9 a10 a11 σ = some (r0, τ0) → Z K cs ss 89 [(0, .ref (eA (kZ K) a0)), (1, .int a1), (2, .long a2), (4, .int a4), (5, .ref (eA (kZ K) a5)), (6, .ref (eA (kZ K) a6)), (7, .int a7), (8, .int a8), (9, .int a9), (10, .int a10), (11, .int a11)] [] σ) : ∀ (n : Nat) (a0 : Nat) (a1 : Int32) (a2 : Int64) (a4 : Int32) (a5 : Nat) (a6 : Nat) (a7 : Int32) (a8 : Int32) (a9 : Int32) (a10 : Int32) (a11 : Int32) (a12 : Int32) (a13 : Int32) (ha0 : atCanonCote (kZ K) a0) (ha5 : aJ (kZ K) a5 8) (ha6 : aI (kZ K) a6 8) (σ : zST), m_L_isRefined_107 F w k27 k53 k89 n a0 a1 a2 a4 a5 a6 a7 a8 a9 a10 a11 a12 a13 σ = some (r0, τ0) → Z K cs ss 107 [(0, .ref (eA (kZ K) a0)), (1, .int a1), (2, .long a2), (4, .int a4), (5, .ref (eA (kZ K) a5)), (6, .ref (eA (kZ K) a6)), (7, .int a7), (8, .int a8), (9, .int a9), (10, .int a10), (11, .int a11), (12, .int a12), (13, .int a13)] [] σ := by
  intro n
  induction n with
  | zero => intro a0 a1 a2 a4 a5 a6 a7 a8 a9 a10 a11 a12 a13 ha0 ha5 ha6 σ h; cases h
  | succ n ih =>
    intro a0 a1 a2 a4 a5 a6 a7 a8 a9 a10 a11 a12 a13 ha0 ha5 ha6 σ h
    rw [m_L_isRefined_107] at h
    refine Z_iload hk 12 dL_isRefined_107 rfl ?_
    refine Z_iload hk 3 dL_isRefined_109 rfl ?_
    refine Z_icmp_ge hk (tgt := 151) dL_isRefined_111 (by decide) (fun c61 => ?_) (fun c61 => ?_)
    · have h := if_yes h c61
      refine Z_aload hk 4 dL_isRefined_151 rfl ?_
      refine Z_iload hk 9 dL_isRefined_153 rfl ?_
      refine Z_aload hk 4 dL_isRefined_155 rfl ?_
      refine Z_iload hk 9 dL_isRefined_157 rfl ?_
      obtain ⟨i64, x62, e63, h⟩ := ldL_get h
      refine Z_lald hk ha5 i64 dL_isRefined_159 ?_
      refine Z_eqL e63 ?_
      refine Z_ldc2 hk (v := 8) dL_isRefined_160 wd_L_isRefined_2 ?_
      refine Z_lmul hk dL_isRefined_163 ?_
      refine Z_iload hk 11 dL_isRefined_164 rfl ?_
      refine Z_i2l hk dL_isRefined_166 ?_
      refine Z_ladd hk dL_isRefined_167 ?_
      obtain ⟨i67, s65, e66, h⟩ := stL_get h
      refine Z_last hk ha5 i67 dL_isRefined_168 ?_
      refine Z_eqS e66 ?_
      obtain ⟨x68, e69, h⟩ := nm_get h
      refine Z_iinc hk 10 (v := x68) (lv' := [(11, .int x68), (0, .ref (eA (kZ K) a0)), (1, .int a1), (2, .long a2), (4, .int a4), (5, .ref (eA (kZ K) a5)), (6, .ref (eA (kZ K) a6)), (7, .int a7), (8, .int a8), (9, .int a9), (10, .int a10), (12, .int a12), (13, .int a13)]) dL_isRefined_169 rfl (by rw [zc_iinc_1]; exact e69) (by decide) rfl ?_
      refine Z_goto hk (tgt := 89) dL_isRefined_172 (by decide) ?_
      refine Z_sub [1, 2, 3, 4, 5, 6, 7, 8, 9, 10, 0] rfl ?_
      exact hk89 a0 a1 a2 a4 a5 a6 a7 a8 a9 a10 x68 ha0 ha5 ha6 s65 h
    · have h := if_no h c61
      refine Z_iload hk 11 dL_isRefined_114 rfl ?_
      refine Z_aload hk 5 dL_isRefined_116 rfl ?_
      refine Z_iload hk 12 dL_isRefined_118 rfl ?_
      obtain ⟨i72, x70, e71, h⟩ := ldI_get h
      refine Z_iald hk ha6 i72 dL_isRefined_120 ?_
      refine Z_eqI e71 ?_
      refine Z_iload hk 10 dL_isRefined_121 rfl ?_
      refine Z_icmp_ne hk (tgt := 141) dL_isRefined_123 (by decide) (fun c73 => ?_) (fun c73 => ?_)
      · have h := if_yes h c73
        refine Z_lload_n hk 2 dL_isRefined_126 rfl rfl ?_
        refine Z_iload hk 9 dL_isRefined_127 rfl ?_
        refine Z_iload hk 12 dL_isRefined_129 rfl ?_
        obtain ⟨x74, s75, h76, h⟩ := bd_ok h
        refine Z_callT 3 hk [.long a2, .int a10, .int a13] (c_L_edge hk.loc hk.inj F a2 a10 a13 σ h76) gL_isRefined_L_edge rfl ⟨rfl, rfl⟩ (by decide +kernel) ⟨Nat.le_of_ble_eq_true rfl, Nat.le_of_ble_eq_true rfl⟩ rfl rfl (Nat.le_of_ble_eq_true rfl) ⟨by show cs + 0 ≤ 18; omega, by show ss + 0 ≤ 112; omega⟩ dL_isRefined_131 ?_
        show Z K cs ss 134 [(0, .ref (eA (kZ K) a0)), (1, .int a1), (2, .long a2), (4, .int a4), (5, .ref (eA (kZ K) a5)), (6, .ref (eA (kZ K) a6)), (7, .int a7), (8, .int a8), (9, .int a9), (10, .int a10), (11, .int a11), (12, .int a12), (13, .int a13)] [.int x74, .int a12] s75
        refine Z_if_eq hk (tgt := 141) dL_isRefined_134 (by decide) (fun c77 => ?_) (fun c77 => ?_)
        · have h := if_yes h c77
          refine Z_sub [0, 1, 2, 3, 4, 5, 6, 7, 8, 9, 10, 12] rfl ?_
          exact w_L_isRefined_141 hk hfl hnx hq hw cs ss (by omega) (by omega) F k27 hk27 k53 hk53 k89 hk89 (m_L_isRefined_107 F w k27 k53 k89 n) ih a0 a1 a2 a4 a5 a6 a7 a8 a9 a10 a11 a13 a12 ha0 ha5 ha6 s75 h
        · have h := if_no h c77
          refine Z_iconst hk dL_isRefined_137 zc_iconst_1 ?_
          refine Z_goto hk (tgt := 142) dL_isRefined_138 (by decide) ?_
          refine Z_sub [0, 1, 2, 3, 4, 5, 6, 7, 8, 9, 10, 12] rfl ?_
          exact w_L_isRefined_142 hk hfl hnx hq hw cs ss (by omega) (by omega) F k27 hk27 k53 hk53 k89 hk89 (m_L_isRefined_107 F w k27 k53 k89 n) ih a0 a1 a2 a4 a5 a6 a7 a8 a9 a10 a11 a13 1 a12 ha0 ha5 ha6 s75 h
      · have h := if_no h c73
        refine Z_sub [0, 1, 2, 3, 4, 5, 6, 7, 8, 9, 10, 12] rfl ?_
        exact w_L_isRefined_141 hk hfl hnx hq hw cs ss (by omega) (by omega) F k27 hk27 k53 hk53 k89 hk89 (m_L_isRefined_107 F w k27 k53 k89 n) ih a0 a1 a2 a4 a5 a6 a7 a8 a9 a10 a11 a13 a12 ha0 ha5 ha6 σ h
set_option maxRecDepth 100000 in
set_option maxHeartbeats 4000000 in
theorem w_L_isRefined_175 {K : zK} {w : Nat} (hk : zIs K RL cL_isRefined 15 wsL_isRefined (some .boolean) r_L_isRefined) (hfl : (kL K).stackTraces = false) (hnx : zNX K) {r0 : Int32} {τ0 : zST} (hq : zQG K (.inr (some (.int r0))) τ0) (hw : eN (kZ K) = (w + 2)) (cs ss : Nat) (hb1 : cs + 0 ≤ 18) (hb2 : ss + 0 ≤ 112) (F : Nat) (k27 : Nat → Int32 → Int64 → Int32 → Nat → Nat → Int32 → Int32 → Int32 → zST → Option (Int32 × zST)) (hk27 : ∀ (a0 : Nat) (a1 : Int32) (a2 : Int64) (a4 : Int32) (a5 : Nat) (a6 : Nat) (a7 : Int32) (a8 : Int32) (a9 : Int32) (ha0 : atCanonCote (kZ K) a0) (ha5 : aJ (kZ K) a5 8) (ha6 : aI (kZ K) a6 8) (σ : zST), k27 a0 a1 a2 a4 a5 a6 a7 a8 a9 σ = some (r0, τ0) → Z K cs ss 27 [(0, .ref (eA (kZ K) a0)), (1, .int a1), (2, .long a2), (4, .int a4), (5, .ref (eA (kZ K) a5)), (6, .ref (eA (kZ K) a6)), (7, .int a7), (8, .int a8), (9, .int a9)] [] σ) (k53 : Nat → Int32 → Int64 → Int32 → Nat → Nat → Int32 → Int32 → Int32 → Int32 → zST → Option (Int32 × zST)) (hk53 : ∀ (a0 : Nat) (a1 : Int32) (a2 : Int64) (a4 : Int32) (a5 : Nat) (a6 : Nat) (a7 : Int32) (a8 : Int32) (a9 : Int32) (a10 : Int32) (ha0 : atCanonCote (kZ K) a0) (ha5 : aJ (kZ K) a5 8) (ha6 : aI (kZ K) a6 8) (σ : zST), k53 a0 a1 a2 a4 a5 a6 a7 a8 a9 a10 σ = some (r0, τ0) → Z K cs ss 53 [(0, .ref (eA (kZ K) a0)), (1, .int a1), (2, .long a2), (4, .int a4), (5, .ref (eA (kZ K) a5)), (6, .ref (eA (kZ K) a6)), (7, .int a7), (8, .int a8), (9, .int a9), (10, .int a10)] [] σ) (a0 : Nat) (a1 : Int32) (a2 : Int64) (a4 : Int32) (a5 : Nat) (a6 : Nat) (a7 : Int32) (a8 : Int32) (a9 : Int32) (a10 : Int32) (ha0 : atCanonCote (kZ K) a0) (ha5 : aJ (kZ K) a5 8) (ha6 : aI (kZ K) a6 8) (σ : zST) (h : m_L_isRefined_175 F w k27 k53 a0 a1 a2 a4 a5 a6 a7 a8 a9 a10 σ = some (r0, τ0)) : Z K cs ss 175 [(0, .ref (eA (kZ K) a0)), (1, .int a1), (2, .long a2), (4, .int a4), (5, .ref (eA (kZ K) a5)), (6, .ref (eA (kZ K) a6)), (7, .int a7), (8, .int a8), (9, .int a9), (10, .int a10)] [] σ := by
  unfold m_L_isRefined_175 at h
  obtain ⟨x59, e60, h⟩ := nm_get h
  refine Z_iinc hk 9 (v := x59) (lv' := [(10, .int x59), (0, .ref (eA (kZ K) a0)), (1, .int a1), (2, .long a2), (4, .int a4), (5, .ref (eA (kZ K) a5)), (6, .ref (eA (kZ K) a6)), (7, .int a7), (8, .int a8), (9, .int a9)]) dL_isRefined_175 rfl (by rw [zc_iinc_1]; exact e60) (by decide) rfl ?_
  refine Z_goto hk (tgt := 53) dL_isRefined_178 (by decide) ?_
  refine Z_sub [1, 2, 3, 4, 5, 6, 7, 8, 9, 0] rfl ?_
  exact hk53 a0 a1 a2 a4 a5 a6 a7 a8 a9 x59 ha0 ha5 ha6 σ h
set_option maxRecDepth 100000 in
set_option maxHeartbeats 4000000 in
theorem w_L_isRefined_89 {K : zK} {w : Nat} (hk : zIs K RL cL_isRefined 15 wsL_isRefined (some .boolean) r_L_isRefined) (hfl : (kL K).stackTraces = false) (hnx : zNX K) {r0 : Int32} {τ0 : zST} (hq : zQG K (.inr (some (.int r0))) τ0) (hw : eN (kZ K) = (w + 2)) (cs ss : Nat) (hb1 : cs + 0 ≤ 18) (hb2 : ss + 0 ≤ 112) (F : Nat) (k27 : Nat → Int32 → Int64 → Int32 → Nat → Nat → Int32 → Int32 → Int32 → zST → Option (Int32 × zST)) (hk27 : ∀ (a0 : Nat) (a1 : Int32) (a2 : Int64) (a4 : Int32) (a5 : Nat) (a6 : Nat) (a7 : Int32) (a8 : Int32) (a9 : Int32) (ha0 : atCanonCote (kZ K) a0) (ha5 : aJ (kZ K) a5 8) (ha6 : aI (kZ K) a6 8) (σ : zST), k27 a0 a1 a2 a4 a5 a6 a7 a8 a9 σ = some (r0, τ0) → Z K cs ss 27 [(0, .ref (eA (kZ K) a0)), (1, .int a1), (2, .long a2), (4, .int a4), (5, .ref (eA (kZ K) a5)), (6, .ref (eA (kZ K) a6)), (7, .int a7), (8, .int a8), (9, .int a9)] [] σ) (k53 : Nat → Int32 → Int64 → Int32 → Nat → Nat → Int32 → Int32 → Int32 → Int32 → zST → Option (Int32 × zST)) (hk53 : ∀ (a0 : Nat) (a1 : Int32) (a2 : Int64) (a4 : Int32) (a5 : Nat) (a6 : Nat) (a7 : Int32) (a8 : Int32) (a9 : Int32) (a10 : Int32) (ha0 : atCanonCote (kZ K) a0) (ha5 : aJ (kZ K) a5 8) (ha6 : aI (kZ K) a6 8) (σ : zST), k53 a0 a1 a2 a4 a5 a6 a7 a8 a9 a10 σ = some (r0, τ0) → Z K cs ss 53 [(0, .ref (eA (kZ K) a0)), (1, .int a1), (2, .long a2), (4, .int a4), (5, .ref (eA (kZ K) a5)), (6, .ref (eA (kZ K) a6)), (7, .int a7), (8, .int a8), (9, .int a9), (10, .int a10)] [] σ) : ∀ (n : Nat) (a0 : Nat) (a1 : Int32) (a2 : Int64) (a4 : Int32) (a5 : Nat) (a6 : Nat) (a7 : Int32) (a8 : Int32) (a9 : Int32) (a10 : Int32) (a11 : Int32) (ha0 : atCanonCote (kZ K) a0) (ha5 : aJ (kZ K) a5 8) (ha6 : aI (kZ K) a6 8) (σ : zST), m_L_isRefined_89 F w k27 k53 n a0 a1 a2 a4 a5 a6 a7 a8 a9 a10 a11 σ = some (r0, τ0) → Z K cs ss 89 [(0, .ref (eA (kZ K) a0)), (1, .int a1), (2, .long a2), (4, .int a4), (5, .ref (eA (kZ K) a5)), (6, .ref (eA (kZ K) a6)), (7, .int a7), (8, .int a8), (9, .int a9), (10, .int a10), (11, .int a11)] [] σ := by
  intro n
  induction n with
  | zero => intro a0 a1 a2 a4 a5 a6 a7 a8 a9 a10 a11 ha0 ha5 ha6 σ h; cases h
  | succ n ih =>
    intro a0 a1 a2 a4 a5 a6 a7 a8 a9 a10 a11 ha0 ha5 ha6 σ h
    rw [m_L_isRefined_89] at h
    refine Z_iload hk 10 dL_isRefined_89 rfl ?_
    refine Z_iload hk 3 dL_isRefined_91 rfl ?_
    refine Z_icmp_ge hk (tgt := 175) dL_isRefined_93 (by decide) (fun c55 => ?_) (fun c55 => ?_)
    · have h := if_yes h c55
      refine Z_sub [0, 1, 2, 3, 4, 5, 6, 7, 8, 9] rfl ?_
      exact w_L_isRefined_175 hk hfl hnx hq hw cs ss (by omega) (by omega) F k27 hk27 k53 hk53 a0 a1 a2 a4 a5 a6 a7 a8 a9 a10 ha0 ha5 ha6 σ h
    · have h := if_no h c55
      refine Z_iload hk 8 dL_isRefined_96 rfl ?_
      refine Z_if_lt hk (tgt := 175) dL_isRefined_98 (by decide) (fun c56 => ?_) (fun c56 => ?_)
      · have h := if_yes h c56
        refine Z_sub [0, 1, 2, 3, 4, 5, 6, 7, 8, 9] rfl ?_
        exact w_L_isRefined_175 hk hfl hnx hq hw cs ss (by omega) (by omega) F k27 hk27 k53 hk53 a0 a1 a2 a4 a5 a6 a7 a8 a9 a10 ha0 ha5 ha6 σ h
      · have h := if_no h c56
        refine Z_iconst hk dL_isRefined_101 zc_iconst_0 ?_
        refine Z_istore hk (lv' := [(12, .int 0), (0, .ref (eA (kZ K) a0)), (1, .int a1), (2, .long a2), (4, .int a4), (5, .ref (eA (kZ K) a5)), (6, .ref (eA (kZ K) a6)), (7, .int a7), (8, .int a8), (9, .int a9), (10, .int a10), (11, .int a11)]) dL_isRefined_102 (by decide) rfl ?_
        refine Z_iconst hk dL_isRefined_104 zc_iconst_0 ?_
        refine Z_istore hk (lv' := [(13, .int 0), (12, .int 0), (0, .ref (eA (kZ K) a0)), (1, .int a1), (2, .long a2), (4, .int a4), (5, .ref (eA (kZ K) a5)), (6, .ref (eA (kZ K) a6)), (7, .int a7), (8, .int a8), (9, .int a9), (10, .int a10), (11, .int a11)]) dL_isRefined_105 (by decide) rfl ?_
        refine Z_sub [2, 3, 4, 5, 6, 7, 8, 9, 10, 11, 12, 1, 0] rfl ?_
        exact w_L_isRefined_107 hk hfl hnx hq hw cs ss (by omega) (by omega) F k27 hk27 k53 hk53 (m_L_isRefined_89 F w k27 k53 n) ih F a0 a1 a2 a4 a5 a6 a7 a8 a9 a10 a11 0 0 ha0 ha5 ha6 σ h
set_option maxRecDepth 100000 in
set_option maxHeartbeats 4000000 in
theorem w_L_isRefined_85 {K : zK} {w : Nat} (hk : zIs K RL cL_isRefined 15 wsL_isRefined (some .boolean) r_L_isRefined) (hfl : (kL K).stackTraces = false) (hnx : zNX K) {r0 : Int32} {τ0 : zST} (hq : zQG K (.inr (some (.int r0))) τ0) (hw : eN (kZ K) = (w + 2)) (cs ss : Nat) (hb1 : cs + 0 ≤ 18) (hb2 : ss + 0 ≤ 112) (F : Nat) (k27 : Nat → Int32 → Int64 → Int32 → Nat → Nat → Int32 → Int32 → Int32 → zST → Option (Int32 × zST)) (hk27 : ∀ (a0 : Nat) (a1 : Int32) (a2 : Int64) (a4 : Int32) (a5 : Nat) (a6 : Nat) (a7 : Int32) (a8 : Int32) (a9 : Int32) (ha0 : atCanonCote (kZ K) a0) (ha5 : aJ (kZ K) a5 8) (ha6 : aI (kZ K) a6 8) (σ : zST), k27 a0 a1 a2 a4 a5 a6 a7 a8 a9 σ = some (r0, τ0) → Z K cs ss 27 [(0, .ref (eA (kZ K) a0)), (1, .int a1), (2, .long a2), (4, .int a4), (5, .ref (eA (kZ K) a5)), (6, .ref (eA (kZ K) a6)), (7, .int a7), (8, .int a8), (9, .int a9)] [] σ) (k53 : Nat → Int32 → Int64 → Int32 → Nat → Nat → Int32 → Int32 → Int32 → Int32 → zST → Option (Int32 × zST)) (hk53 : ∀ (a0 : Nat) (a1 : Int32) (a2 : Int64) (a4 : Int32) (a5 : Nat) (a6 : Nat) (a7 : Int32) (a8 : Int32) (a9 : Int32) (a10 : Int32) (ha0 : atCanonCote (kZ K) a0) (ha5 : aJ (kZ K) a5 8) (ha6 : aI (kZ K) a6 8) (σ : zST), k53 a0 a1 a2 a4 a5 a6 a7 a8 a9 a10 σ = some (r0, τ0) → Z K cs ss 53 [(0, .ref (eA (kZ K) a0)), (1, .int a1), (2, .long a2), (4, .int a4), (5, .ref (eA (kZ K) a5)), (6, .ref (eA (kZ K) a6)), (7, .int a7), (8, .int a8), (9, .int a9), (10, .int a10)] [] σ) (a0 : Nat) (a1 : Int32) (a2 : Int64) (a4 : Int32) (a5 : Nat) (a6 : Nat) (a7 : Int32) (a8 : Int32) (a9 : Int32) (a10 : Int32) (t0 : Int64) (t1 : Int32) (t2 : Nat) (ha0 : atCanonCote (kZ K) a0) (ha5 : aJ (kZ K) a5 8) (ha6 : aI (kZ K) a6 8) (ht2 : aJ (kZ K) t2 8) (σ : zST) (h : m_L_isRefined_85 F w k27 k53 a0 a1 a2 a4 a5 a6 a7 a8 a9 a10 t0 t1 t2 σ = some (r0, τ0)) : Z K cs ss 85 [(0, .ref (eA (kZ K) a0)), (1, .int a1), (2, .long a2), (4, .int a4), (5, .ref (eA (kZ K) a5)), (6, .ref (eA (kZ K) a6)), (7, .int a7), (8, .int a8), (9, .int a9), (10, .int a10)] [.long t0, .int t1, .ref (eA (kZ K) t2)] σ := by
  unfold m_L_isRefined_85 at h
  obtain ⟨i42, s40, e41, h⟩ := stL_get h
  refine Z_last hk ht2 i42 dL_isRefined_85 ?_
  refine Z_eqS e41 ?_
  refine Z_iconst hk dL_isRefined_86 zc_iconst_0 ?_
  refine Z_istore hk (lv' := [(11, .int 0), (0, .ref (eA (kZ K) a0)), (1, .int a1), (2, .long a2), (4, .int a4), (5, .ref (eA (kZ K) a5)), (6, .ref (eA (kZ K) a6)), (7, .int a7), (8, .int a8), (9, .int a9), (10, .int a10)]) dL_isRefined_87 (by decide) rfl ?_
  refine Z_sub [1, 2, 3, 4, 5, 6, 7, 8, 9, 10, 0] rfl ?_
  exact w_L_isRefined_89 hk hfl hnx hq hw cs ss (by omega) (by omega) F k27 hk27 k53 hk53 F a0 a1 a2 a4 a5 a6 a7 a8 a9 a10 0 ha0 ha5 ha6 s40 h
set_option maxRecDepth 100000 in
set_option maxHeartbeats 4000000 in
theorem w_L_isRefined_259 {K : zK} {w : Nat} (hk : zIs K RL cL_isRefined 15 wsL_isRefined (some .boolean) r_L_isRefined) (hfl : (kL K).stackTraces = false) (hnx : zNX K) {r0 : Int32} {τ0 : zST} (hq : zQG K (.inr (some (.int r0))) τ0) (hw : eN (kZ K) = (w + 2)) (cs ss : Nat) (hb1 : cs + 0 ≤ 18) (hb2 : ss + 0 ≤ 112) (F : Nat) (k27 : Nat → Int32 → Int64 → Int32 → Nat → Nat → Int32 → Int32 → Int32 → zST → Option (Int32 × zST)) (hk27 : ∀ (a0 : Nat) (a1 : Int32) (a2 : Int64) (a4 : Int32) (a5 : Nat) (a6 : Nat) (a7 : Int32) (a8 : Int32) (a9 : Int32) (ha0 : atCanonCote (kZ K) a0) (ha5 : aJ (kZ K) a5 8) (ha6 : aI (kZ K) a6 8) (σ : zST), k27 a0 a1 a2 a4 a5 a6 a7 a8 a9 σ = some (r0, τ0) → Z K cs ss 27 [(0, .ref (eA (kZ K) a0)), (1, .int a1), (2, .long a2), (4, .int a4), (5, .ref (eA (kZ K) a5)), (6, .ref (eA (kZ K) a6)), (7, .int a7), (8, .int a8), (9, .int a9)] [] σ) (k184 : Nat → Int32 → Int64 → Int32 → Nat → Nat → Int32 → Int32 → Int32 → Int32 → zST → Option (Int32 × zST)) (hk184 : ∀ (a0 : Nat) (a1 : Int32) (a2 : Int64) (a4 : Int32) (a5 : Nat) (a6 : Nat) (a7 : Int32) (a8 : Int32) (a9 : Int32) (a10 : Int32) (ha0 : atCanonCote (kZ K) a0) (ha5 : aJ (kZ K) a5 8) (ha6 : aI (kZ K) a6 8) (σ : zST), k184 a0 a1 a2 a4 a5 a6 a7 a8 a9 a10 σ = some (r0, τ0) → Z K cs ss 184 [(0, .ref (eA (kZ K) a0)), (1, .int a1), (2, .long a2), (4, .int a4), (5, .ref (eA (kZ K) a5)), (6, .ref (eA (kZ K) a6)), (7, .int a7), (8, .int a8), (9, .int a9), (10, .int a10)] [] σ) (k197 : Nat → Int32 → Int64 → Int32 → Nat → Nat → Int32 → Int32 → Int32 → Int32 → Int32 → Int32 → zST → Option (Int32 × zST)) (hk197 : ∀ (a0 : Nat) (a1 : Int32) (a2 : Int64) (a4 : Int32) (a5 : Nat) (a6 : Nat) (a7 : Int32) (a8 : Int32) (a9 : Int32) (a10 : Int32) (a11 : Int32) (a12 : Int32) (ha0 : atCanonCote (kZ K) a0) (ha5 : aJ (kZ K) a5 8) (ha6 : aI (kZ K) a6 8) (σ : zST), k197 a0 a1 a2 a4 a5 a6 a7 a8 a9 a10 a11 a12 σ = some (r0, τ0) → Z K cs ss 197 [(0, .ref (eA (kZ K) a0)), (1, .int a1), (2, .long a2), (4, .int a4), (5, .ref (eA (kZ K) a5)), (6, .ref (eA (kZ K) a6)), (7, .int a7), (8, .int a8), (9, .int a9), (10, .int a10), (11, .int a11), (12, .int a12)] [] σ) (k228 : Nat → Int32 → Int64 → Int32 → Nat → Nat → Int32 → Int32 → Int32 → Int32 → Int32 → Int32 → Int32 → Int32 → zST → Option (Int32 × zST)) (hk228 : ∀ (a0 : Nat) (a1 : Int32) (a2 : Int64) (a4 : Int32) (a5 : Nat) (a6 : Nat) (a7 : Int32) (a8 : Int32) (a9 : Int32) (a10 : Int32) (a11 : Int32) (a12 : Int32) (a13 : Int32) (a14 : Int32) (ha0 : atCanonCote (kZ K) a0) (ha5 : aJ (kZ K) a5 8) (ha6 : aI (kZ K) a6 8) (σ : zST), k228 a0 a1 a2 a4 a5 a6 a7 a8 a9 a10 a11 a12 a13 a14 σ = some (r0, τ0) → Z K cs ss 228 [(0, .ref (eA (kZ K) a0)), (1, .int a1), (2, .long a2), (4, .int a4), (5, .ref (eA (kZ K) a5)), (6, .ref (eA (kZ K) a6)), (7, .int a7), (8, .int a8), (9, .int a9), (10, .int a10), (11, .int a11), (12, .int a12), (13, .int a13), (14, .int a14)] [] σ) (a0 : Nat) (a1 : Int32) (a2 : Int64) (a4 : Int32) (a5 : Nat) (a6 : Nat) (a7 : Int32) (a8 : Int32) (a9 : Int32) (a10 : Int32) (a11 : Int32) (a12 : Int32) (a14 : Int32) (t0 : Int32) (ha0 : atCanonCote (kZ K) a0) (ha5 : aJ (kZ K) a5 8) (ha6 : aI (kZ K) a6 8) (σ : zST) (h : m_L_isRefined_259 F w k27 k184 k197 k228 a0 a1 a2 a4 a5 a6 a7 a8 a9 a10 a11 a12 a14 t0 σ = some (r0, τ0)) : Z K cs ss 259 [(0, .ref (eA (kZ K) a0)), (1, .int a1), (2, .long a2), (4, .int a4), (5, .ref (eA (kZ K) a5)), (6, .ref (eA (kZ K) a6)), (7, .int a7), (8, .int a8), (9, .int a9), (10, .int a10), (11, .int a11), (12, .int a12), (14, .int a14)] [.int t0] σ := by
  unfold m_L_isRefined_259 at h
  refine Z_istore hk (lv' := [(13, .int t0), (0, .ref (eA (kZ K) a0)), (1, .int a1), (2, .long a2), (4, .int a4), (5, .ref (eA (kZ K) a5)), (6, .ref (eA (kZ K) a6)), (7, .int a7), (8, .int a8), (9, .int a9), (10, .int a10), (11, .int a11), (12, .int a12), (14, .int a14)]) dL_isRefined_259 (by decide) rfl ?_
  obtain ⟨x96, e97, h⟩ := nm_get h
  refine Z_iinc hk 13 (v := x96) (lv' := [(14, .int x96), (13, .int t0), (0, .ref (eA (kZ K) a0)), (1, .int a1), (2, .long a2), (4, .int a4), (5, .ref (eA (kZ K) a5)), (6, .ref (eA (kZ K) a6)), (7, .int a7), (8, .int a8), (9, .int a9), (10, .int a10), (11, .int a11), (12, .int a12)]) dL_isRefined_261 rfl (by rw [zc_iinc_1]; exact e97) (by decide) rfl ?_
  refine Z_goto hk (tgt := 228) dL_isRefined_264 (by decide) ?_
  refine Z_sub [2, 3, 4, 5, 6, 7, 8, 9, 10, 11, 12, 13, 1, 0] rfl ?_
  exact hk228 a0 a1 a2 a4 a5 a6 a7 a8 a9 a10 a11 a12 t0 x96 ha0 ha5 ha6 σ h
set_option maxRecDepth 100000 in
set_option maxHeartbeats 4000000 in
theorem w_L_isRefined_258 {K : zK} {w : Nat} (hk : zIs K RL cL_isRefined 15 wsL_isRefined (some .boolean) r_L_isRefined) (hfl : (kL K).stackTraces = false) (hnx : zNX K) {r0 : Int32} {τ0 : zST} (hq : zQG K (.inr (some (.int r0))) τ0) (hw : eN (kZ K) = (w + 2)) (cs ss : Nat) (hb1 : cs + 0 ≤ 18) (hb2 : ss + 0 ≤ 112) (F : Nat) (k27 : Nat → Int32 → Int64 → Int32 → Nat → Nat → Int32 → Int32 → Int32 → zST → Option (Int32 × zST)) (hk27 : ∀ (a0 : Nat) (a1 : Int32) (a2 : Int64) (a4 : Int32) (a5 : Nat) (a6 : Nat) (a7 : Int32) (a8 : Int32) (a9 : Int32) (ha0 : atCanonCote (kZ K) a0) (ha5 : aJ (kZ K) a5 8) (ha6 : aI (kZ K) a6 8) (σ : zST), k27 a0 a1 a2 a4 a5 a6 a7 a8 a9 σ = some (r0, τ0) → Z K cs ss 27 [(0, .ref (eA (kZ K) a0)), (1, .int a1), (2, .long a2), (4, .int a4), (5, .ref (eA (kZ K) a5)), (6, .ref (eA (kZ K) a6)), (7, .int a7), (8, .int a8), (9, .int a9)] [] σ) (k184 : Nat → Int32 → Int64 → Int32 → Nat → Nat → Int32 → Int32 → Int32 → Int32 → zST → Option (Int32 × zST)) (hk184 : ∀ (a0 : Nat) (a1 : Int32) (a2 : Int64) (a4 : Int32) (a5 : Nat) (a6 : Nat) (a7 : Int32) (a8 : Int32) (a9 : Int32) (a10 : Int32) (ha0 : atCanonCote (kZ K) a0) (ha5 : aJ (kZ K) a5 8) (ha6 : aI (kZ K) a6 8) (σ : zST), k184 a0 a1 a2 a4 a5 a6 a7 a8 a9 a10 σ = some (r0, τ0) → Z K cs ss 184 [(0, .ref (eA (kZ K) a0)), (1, .int a1), (2, .long a2), (4, .int a4), (5, .ref (eA (kZ K) a5)), (6, .ref (eA (kZ K) a6)), (7, .int a7), (8, .int a8), (9, .int a9), (10, .int a10)] [] σ) (k197 : Nat → Int32 → Int64 → Int32 → Nat → Nat → Int32 → Int32 → Int32 → Int32 → Int32 → Int32 → zST → Option (Int32 × zST)) (hk197 : ∀ (a0 : Nat) (a1 : Int32) (a2 : Int64) (a4 : Int32) (a5 : Nat) (a6 : Nat) (a7 : Int32) (a8 : Int32) (a9 : Int32) (a10 : Int32) (a11 : Int32) (a12 : Int32) (ha0 : atCanonCote (kZ K) a0) (ha5 : aJ (kZ K) a5 8) (ha6 : aI (kZ K) a6 8) (σ : zST), k197 a0 a1 a2 a4 a5 a6 a7 a8 a9 a10 a11 a12 σ = some (r0, τ0) → Z K cs ss 197 [(0, .ref (eA (kZ K) a0)), (1, .int a1), (2, .long a2), (4, .int a4), (5, .ref (eA (kZ K) a5)), (6, .ref (eA (kZ K) a6)), (7, .int a7), (8, .int a8), (9, .int a9), (10, .int a10), (11, .int a11), (12, .int a12)] [] σ) (k228 : Nat → Int32 → Int64 → Int32 → Nat → Nat → Int32 → Int32 → Int32 → Int32 → Int32 → Int32 → Int32 → Int32 → zST → Option (Int32 × zST)) (hk228 : ∀ (a0 : Nat) (a1 : Int32) (a2 : Int64) (a4 : Int32) (a5 : Nat) (a6 : Nat) (a7 : Int32) (a8 : Int32) (a9 : Int32) (a10 : Int32) (a11 : Int32) (a12 : Int32) (a13 : Int32) (a14 : Int32) (ha0 : atCanonCote (kZ K) a0) (ha5 : aJ (kZ K) a5 8) (ha6 : aI (kZ K) a6 8) (σ : zST), k228 a0 a1 a2 a4 a5 a6 a7 a8 a9 a10 a11 a12 a13 a14 σ = some (r0, τ0) → Z K cs ss 228 [(0, .ref (eA (kZ K) a0)), (1, .int a1), (2, .long a2), (4, .int a4), (5, .ref (eA (kZ K) a5)), (6, .ref (eA (kZ K) a6)), (7, .int a7), (8, .int a8), (9, .int a9), (10, .int a10), (11, .int a11), (12, .int a12), (13, .int a13), (14, .int a14)] [] σ) (a0 : Nat) (a1 : Int32) (a2 : Int64) (a4 : Int32) (a5 : Nat) (a6 : Nat) (a7 : Int32) (a8 : Int32) (a9 : Int32) (a10 : Int32) (a11 : Int32) (a12 : Int32) (a14 : Int32) (ha0 : atCanonCote (kZ K) a0) (ha5 : aJ (kZ K) a5 8) (ha6 : aI (kZ K) a6 8) (σ : zST) (h : m_L_isRefined_258 F w k27 k184 k197 k228 a0 a1 a2 a4 a5 a6 a7 a8 a9 a10 a11 a12 a14 σ = some (r0, τ0)) : Z K cs ss 258 [(0, .ref (eA (kZ K) a0)), (1, .int a1), (2, .long a2), (4, .int a4), (5, .ref (eA (kZ K) a5)), (6, .ref (eA (kZ K) a6)), (7, .int a7), (8, .int a8), (9, .int a9), (10, .int a10), (11, .int a11), (12, .int a12), (14, .int a14)] [] σ := by
  unfold m_L_isRefined_258 at h
  refine Z_iconst hk dL_isRefined_258 zc_iconst_0 ?_
  refine Z_sub [0, 1, 2, 3, 4, 5, 6, 7, 8, 9, 10, 11, 12] rfl ?_
  exact w_L_isRefined_259 hk hfl hnx hq hw cs ss (by omega) (by omega) F k27 hk27 k184 hk184 k197 hk197 k228 hk228 a0 a1 a2 a4 a5 a6 a7 a8 a9 a10 a11 a12 a14 0 ha0 ha5 ha6 σ h
set_option maxRecDepth 100000 in
set_option maxHeartbeats 4000000 in
theorem w_L_isRefined_279 {K : zK} {w : Nat} (hk : zIs K RL cL_isRefined 15 wsL_isRefined (some .boolean) r_L_isRefined) (hfl : (kL K).stackTraces = false) (hnx : zNX K) {r0 : Int32} {τ0 : zST} (hq : zQG K (.inr (some (.int r0))) τ0) (hw : eN (kZ K) = (w + 2)) (cs ss : Nat) (hb1 : cs + 0 ≤ 18) (hb2 : ss + 0 ≤ 112) (F : Nat) (k27 : Nat → Int32 → Int64 → Int32 → Nat → Nat → Int32 → Int32 → Int32 → zST → Option (Int32 × zST)) (hk27 : ∀ (a0 : Nat) (a1 : Int32) (a2 : Int64) (a4 : Int32) (a5 : Nat) (a6 : Nat) (a7 : Int32) (a8 : Int32) (a9 : Int32) (ha0 : atCanonCote (kZ K) a0) (ha5 : aJ (kZ K) a5 8) (ha6 : aI (kZ K) a6 8) (σ : zST), k27 a0 a1 a2 a4 a5 a6 a7 a8 a9 σ = some (r0, τ0) → Z K cs ss 27 [(0, .ref (eA (kZ K) a0)), (1, .int a1), (2, .long a2), (4, .int a4), (5, .ref (eA (kZ K) a5)), (6, .ref (eA (kZ K) a6)), (7, .int a7), (8, .int a8), (9, .int a9)] [] σ) (k184 : Nat → Int32 → Int64 → Int32 → Nat → Nat → Int32 → Int32 → Int32 → Int32 → zST → Option (Int32 × zST)) (hk184 : ∀ (a0 : Nat) (a1 : Int32) (a2 : Int64) (a4 : Int32) (a5 : Nat) (a6 : Nat) (a7 : Int32) (a8 : Int32) (a9 : Int32) (a10 : Int32) (ha0 : atCanonCote (kZ K) a0) (ha5 : aJ (kZ K) a5 8) (ha6 : aI (kZ K) a6 8) (σ : zST), k184 a0 a1 a2 a4 a5 a6 a7 a8 a9 a10 σ = some (r0, τ0) → Z K cs ss 184 [(0, .ref (eA (kZ K) a0)), (1, .int a1), (2, .long a2), (4, .int a4), (5, .ref (eA (kZ K) a5)), (6, .ref (eA (kZ K) a6)), (7, .int a7), (8, .int a8), (9, .int a9), (10, .int a10)] [] σ) (k197 : Nat → Int32 → Int64 → Int32 → Nat → Nat → Int32 → Int32 → Int32 → Int32 → Int32 → Int32 → zST → Option (Int32 × zST)) (hk197 : ∀ (a0 : Nat) (a1 : Int32) (a2 : Int64) (a4 : Int32) (a5 : Nat) (a6 : Nat) (a7 : Int32) (a8 : Int32) (a9 : Int32) (a10 : Int32) (a11 : Int32) (a12 : Int32) (ha0 : atCanonCote (kZ K) a0) (ha5 : aJ (kZ K) a5 8) (ha6 : aI (kZ K) a6 8) (σ : zST), k197 a0 a1 a2 a4 a5 a6 a7 a8 a9 a10 a11 a12 σ = some (r0, τ0) → Z K cs ss 197 [(0, .ref (eA (kZ K) a0)), (1, .int a1), (2, .long a2), (4, .int a4), (5, .ref (eA (kZ K) a5)), (6, .ref (eA (kZ K) a6)), (7, .int a7), (8, .int a8), (9, .int a9), (10, .int a10), (11, .int a11), (12, .int a12)] [] σ) (a0 : Nat) (a1 : Int32) (a2 : Int64) (a4 : Int32) (a5 : Nat) (a6 : Nat) (a7 : Int32) (a8 : Int32) (a9 : Int32) (a10 : Int32) (a12 : Int32) (t0 : Int32) (t1 : Int32) (ha0 : atCanonCote (kZ K) a0) (ha5 : aJ (kZ K) a5 8) (ha6 : aI (kZ K) a6 8) (σ : zST) (h : m_L_isRefined_279 F w k27 k184 k197 a0 a1 a2 a4 a5 a6 a7 a8 a9 a10 a12 t0 t1 σ = some (r0, τ0)) : Z K cs ss 279 [(0, .ref (eA (kZ K) a0)), (1, .int a1), (2, .long a2), (4, .int a4), (5, .ref (eA (kZ K) a5)), (6, .ref (eA (kZ K) a6)), (7, .int a7), (8, .int a8), (9, .int a9), (10, .int a10), (12, .int a12)] [.int t0, .int t1] σ := by
  unfold m_L_isRefined_279 at h
  refine Z_iadd hk dL_isRefined_279 ?_
  obtain ⟨x92, e93, h⟩ := nm_get h
  refine Z_eqI e93 ?_
  refine Z_istore hk (lv' := [(11, .int x92), (0, .ref (eA (kZ K) a0)), (1, .int a1), (2, .long a2), (4, .int a4), (5, .ref (eA (kZ K) a5)), (6, .ref (eA (kZ K) a6)), (7, .int a7), (8, .int a8), (9, .int a9), (10, .int a10), (12, .int a12)]) dL_isRefined_280 (by decide) rfl ?_
  obtain ⟨x94, e95, h⟩ := nm_get h
  refine Z_iinc hk 11 (v := x94) (lv' := [(12, .int x94), (11, .int x92), (0, .ref (eA (kZ K) a0)), (1, .int a1), (2, .long a2), (4, .int a4), (5, .ref (eA (kZ K) a5)), (6, .ref (eA (kZ K) a6)), (7, .int a7), (8, .int a8), (9, .int a9), (10, .int a10)]) dL_isRefined_282 rfl (by rw [zc_iinc_1]; exact e95) (by decide) rfl ?_
  refine Z_goto hk (tgt := 197) dL_isRefined_285 (by decide) ?_
  refine Z_sub [2, 3, 4, 5, 6, 7, 8, 9, 10, 11, 1, 0] rfl ?_
  exact hk197 a0 a1 a2 a4 a5 a6 a7 a8 a9 a10 x92 x94 ha0 ha5 ha6 σ h
set_option maxRecDepth 100000 in
set_option maxHeartbeats 4000000 in
theorem w_L_isRefined_228 {K : zK} {w : Nat} (hk : zIs K RL cL_isRefined 15 wsL_isRefined (some .boolean) r_L_isRefined) (hfl : (kL K).stackTraces = false) (hnx : zNX K) {r0 : Int32} {τ0 : zST} (hq : zQG K (.inr (some (.int r0))) τ0) (hw : eN (kZ K) = (w + 2)) (cs ss : Nat) (hb1 : cs + 0 ≤ 18) (hb2 : ss + 0 ≤ 112) (F : Nat) (k27 : Nat → Int32 → Int64 → Int32 → Nat → Nat → Int32 → Int32 → Int32 → zST → Option (Int32 × zST)) (hk27 : ∀ (a0 : Nat) (a1 : Int32) (a2 : Int64) (a4 : Int32) (a5 : Nat) (a6 : Nat) (a7 : Int32) (a8 : Int32) (a9 : Int32) (ha0 : atCanonCote (kZ K) a0) (ha5 : aJ (kZ K) a5 8) (ha6 : aI (kZ K) a6 8) (σ : zST), k27 a0 a1 a2 a4 a5 a6 a7 a8 a9 σ = some (r0, τ0) → Z K cs ss 27 [(0, .ref (eA (kZ K) a0)), (1, .int a1), (2, .long a2), (4, .int a4), (5, .ref (eA (kZ K) a5)), (6, .ref (eA (kZ K) a6)), (7, .int a7), (8, .int a8), (9, .int a9)] [] σ) (k184 : Nat → Int32 → Int64 → Int32 → Nat → Nat → Int32 → Int32 → Int32 → Int32 → zST → Option (Int32 × zST)) (hk184 : ∀ (a0 : Nat) (a1 : Int32) (a2 : Int64) (a4 : Int32) (a5 : Nat) (a6 : Nat) (a7 : Int32) (a8 : Int32) (a9 : Int32) (a10 : Int32) (ha0 : atCanonCote (kZ K) a0) (ha5 : aJ (kZ K) a5 8) (ha6 : aI (kZ K) a6 8) (σ : zST), k184 a0 a1 a2 a4 a5 a6 a7 a8 a9 a10 σ = some (r0, τ0) → Z K cs ss 184 [(0, .ref (eA (kZ K) a0)), (1, .int a1), (2, .long a2), (4, .int a4), (5, .ref (eA (kZ K) a5)), (6, .ref (eA (kZ K) a6)), (7, .int a7), (8, .int a8), (9, .int a9), (10, .int a10)] [] σ) (k197 : Nat → Int32 → Int64 → Int32 → Nat → Nat → Int32 → Int32 → Int32 → Int32 → Int32 → Int32 → zST → Option (Int32 × zST)) (hk197 : ∀ (a0 : Nat) (a1 : Int32) (a2 : Int64) (a4 : Int32) (a5 : Nat) (a6 : Nat) (a7 : Int32) (a8 : Int32) (a9 : Int32) (a10 : Int32) (a11 : Int32) (a12 : Int32) (ha0 : atCanonCote (kZ K) a0) (ha5 : aJ (kZ K) a5 8) (ha6 : aI (kZ K) a6 8) (σ : zST), k197 a0 a1 a2 a4 a5 a6 a7 a8 a9 a10 a11 a12 σ = some (r0, τ0) → Z K cs ss 197 [(0, .ref (eA (kZ K) a0)), (1, .int a1), (2, .long a2), (4, .int a4), (5, .ref (eA (kZ K) a5)), (6, .ref (eA (kZ K) a6)), (7, .int a7), (8, .int a8), (9, .int a9), (10, .int a10), (11, .int a11), (12, .int a12)] [] σ) : ∀ (n : Nat) (a0 : Nat) (a1 : Int32) (a2 : Int64) (a4 : Int32) (a5 : Nat) (a6 : Nat) (a7 : Int32) (a8 : Int32) (a9 : Int32) (a10 : Int32) (a11 : Int32) (a12 : Int32) (a13 : Int32) (a14 : Int32) (ha0 : atCanonCote (kZ K) a0) (ha5 : aJ (kZ K) a5 8) (ha6 : aI (kZ K) a6 8) (σ : zST), m_L_isRefined_228 F w k27 k184 k197 n a0 a1 a2 a4 a5 a6 a7 a8 a9 a10 a11 a12 a13 a14 σ = some (r0, τ0) → Z K cs ss 228 [(0, .ref (eA (kZ K) a0)), (1, .int a1), (2, .long a2), (4, .int a4), (5, .ref (eA (kZ K) a5)), (6, .ref (eA (kZ K) a6)), (7, .int a7), (8, .int a8), (9, .int a9), (10, .int a10), (11, .int a11), (12, .int a12), (13, .int a13), (14, .int a14)] [] σ := by
  intro n
  induction n with
  | zero => intro a0 a1 a2 a4 a5 a6 a7 a8 a9 a10 a11 a12 a13 a14 ha0 ha5 ha6 σ h; cases h
  | succ n ih =>
    intro a0 a1 a2 a4 a5 a6 a7 a8 a9 a10 a11 a12 a13 a14 ha0 ha5 ha6 σ h
    rw [m_L_isRefined_228] at h
    refine Z_iload hk 13 dL_isRefined_228 rfl ?_
    refine Z_iload hk 11 dL_isRefined_230 rfl ?_
    refine Z_icmp_ge hk (tgt := 267) dL_isRefined_232 (by decide) (fun c78 => ?_) (fun c78 => ?_)
    · have h := if_yes h c78
      refine Z_iload hk 10 dL_isRefined_267 rfl ?_
      refine Z_iload hk 12 dL_isRefined_269 rfl ?_
      refine Z_if_eq hk (tgt := 278) dL_isRefined_271 (by decide) (fun c79 => ?_) (fun c79 => ?_)
      · have h := if_yes h c79
        refine Z_iconst hk dL_isRefined_278 zc_iconst_0 ?_
        refine Z_sub [0, 1, 2, 3, 4, 5, 6, 7, 8, 9, 11] rfl ?_
        exact w_L_isRefined_279 hk hfl hnx hq hw cs ss (by omega) (by omega) F k27 hk27 k184 hk184 k197 hk197 a0 a1 a2 a4 a5 a6 a7 a8 a9 a10 a12 0 a11 ha0 ha5 ha6 σ h
      · have h := if_no h c79
        refine Z_iconst hk dL_isRefined_274 zc_iconst_1 ?_
        refine Z_goto hk (tgt := 279) dL_isRefined_275 (by decide) ?_
        refine Z_sub [0, 1, 2, 3, 4, 5, 6, 7, 8, 9, 11] rfl ?_
        exact w_L_isRefined_279 hk hfl hnx hq hw cs ss (by omega) (by omega) F k27 hk27 k184 hk184 k197 hk197 a0 a1 a2 a4 a5 a6 a7 a8 a9 a10 a12 1 a11 ha0 ha5 ha6 σ h
    · have h := if_no h c78
      refine Z_iload hk 12 dL_isRefined_235 rfl ?_
      refine Z_if_eq hk (tgt := 258) dL_isRefined_237 (by decide) (fun c80 => ?_) (fun c80 => ?_)
      · have h := if_yes h c80
        refine Z_sub [0, 1, 2, 3, 4, 5, 6, 7, 8, 9, 10, 11, 13] rfl ?_
        exact w_L_isRefined_258 hk hfl hnx hq hw cs ss (by omega) (by omega) F k27 hk27 k184 hk184 k197 hk197 (m_L_isRefined_228 F w k27 k184 k197 n) ih a0 a1 a2 a4 a5 a6 a7 a8 a9 a10 a11 a12 a14 ha0 ha5 ha6 σ h
      · have h := if_no h c80
        refine Z_aload hk 4 dL_isRefined_240 rfl ?_
        refine Z_iload hk 13 dL_isRefined_242 rfl ?_
        obtain ⟨i83, x81, e82, h⟩ := ldL_get h
        refine Z_lald hk ha5 i83 dL_isRefined_244 ?_
        refine Z_eqL e82 ?_
        refine Z_aload hk 4 dL_isRefined_245 rfl ?_
        refine Z_iload hk 11 dL_isRefined_247 rfl ?_
        obtain ⟨i86, x84, e85, h⟩ := ldL_get h
        refine Z_lald hk ha5 i86 dL_isRefined_249 ?_
        refine Z_eqL e85 ?_
        refine Z_lcmp hk dL_isRefined_250 ?_
        refine Z_if_eq hk (tgt := 258) dL_isRefined_251 (by decide) (fun c87 => ?_) (fun c87 => ?_)
        · have h := if_yes h c87
          refine Z_sub [0, 1, 2, 3, 4, 5, 6, 7, 8, 9, 10, 11, 13] rfl ?_
          exact w_L_isRefined_258 hk hfl hnx hq hw cs ss (by omega) (by omega) F k27 hk27 k184 hk184 k197 hk197 (m_L_isRefined_228 F w k27 k184 k197 n) ih a0 a1 a2 a4 a5 a6 a7 a8 a9 a10 a11 a12 a14 ha0 ha5 ha6 σ h
        · have h := if_no h c87
          refine Z_iconst hk dL_isRefined_254 zc_iconst_1 ?_
          refine Z_goto hk (tgt := 259) dL_isRefined_255 (by decide) ?_
          refine Z_sub [0, 1, 2, 3, 4, 5, 6, 7, 8, 9, 10, 11, 13] rfl ?_
          exact w_L_isRefined_259 hk hfl hnx hq hw cs ss (by omega) (by omega) F k27 hk27 k184 hk184 k197 hk197 (m_L_isRefined_228 F w k27 k184 k197 n) ih a0 a1 a2 a4 a5 a6 a7 a8 a9 a10 a11 a12 a14 1 ha0 ha5 ha6 σ h
set_option maxRecDepth 100000 in
set_option maxHeartbeats 4000000 in
theorem w_L_isRefined_223 {K : zK} {w : Nat} (hk : zIs K RL cL_isRefined 15 wsL_isRefined (some .boolean) r_L_isRefined) (hfl : (kL K).stackTraces = false) (hnx : zNX K) {r0 : Int32} {τ0 : zST} (hq : zQG K (.inr (some (.int r0))) τ0) (hw : eN (kZ K) = (w + 2)) (cs ss : Nat) (hb1 : cs + 0 ≤ 18) (hb2 : ss + 0 ≤ 112) (F : Nat) (k27 : Nat → Int32 → Int64 → Int32 → Nat → Nat → Int32 → Int32 → Int32 → zST → Option (Int32 × zST)) (hk27 : ∀ (a0 : Nat) (a1 : Int32) (a2 : Int64) (a4 : Int32) (a5 : Nat) (a6 : Nat) (a7 : Int32) (a8 : Int32) (a9 : Int32) (ha0 : atCanonCote (kZ K) a0) (ha5 : aJ (kZ K) a5 8) (ha6 : aI (kZ K) a6 8) (σ : zST), k27 a0 a1 a2 a4 a5 a6 a7 a8 a9 σ = some (r0, τ0) → Z K cs ss 27 [(0, .ref (eA (kZ K) a0)), (1, .int a1), (2, .long a2), (4, .int a4), (5, .ref (eA (kZ K) a5)), (6, .ref (eA (kZ K) a6)), (7, .int a7), (8, .int a8), (9, .int a9)] [] σ) (k184 : Nat → Int32 → Int64 → Int32 → Nat → Nat → Int32 → Int32 → Int32 → Int32 → zST → Option (Int32 × zST)) (hk184 : ∀ (a0 : Nat) (a1 : Int32) (a2 : Int64) (a4 : Int32) (a5 : Nat) (a6 : Nat) (a7 : Int32) (a8 : Int32) (a9 : Int32) (a10 : Int32) (ha0 : atCanonCote (kZ K) a0) (ha5 : aJ (kZ K) a5 8) (ha6 : aI (kZ K) a6 8) (σ : zST), k184 a0 a1 a2 a4 a5 a6 a7 a8 a9 a10 σ = some (r0, τ0) → Z K cs ss 184 [(0, .ref (eA (kZ K) a0)), (1, .int a1), (2, .long a2), (4, .int a4), (5, .ref (eA (kZ K) a5)), (6, .ref (eA (kZ K) a6)), (7, .int a7), (8, .int a8), (9, .int a9), (10, .int a10)] [] σ) (k197 : Nat → Int32 → Int64 → Int32 → Nat → Nat → Int32 → Int32 → Int32 → Int32 → Int32 → Int32 → zST → Option (Int32 × zST)) (hk197 : ∀ (a0 : Nat) (a1 : Int32) (a2 : Int64) (a4 : Int32) (a5 : Nat) (a6 : Nat) (a7 : Int32) (a8 : Int32) (a9 : Int32) (a10 : Int32) (a11 : Int32) (a12 : Int32) (ha0 : atCanonCote (kZ K) a0) (ha5 : aJ (kZ K) a5 8) (ha6 : aI (kZ K) a6 8) (σ : zST), k197 a0 a1 a2 a4 a5 a6 a7 a8 a9 a10 a11 a12 σ = some (r0, τ0) → Z K cs ss 197 [(0, .ref (eA (kZ K) a0)), (1, .int a1), (2, .long a2), (4, .int a4), (5, .ref (eA (kZ K) a5)), (6, .ref (eA (kZ K) a6)), (7, .int a7), (8, .int a8), (9, .int a9), (10, .int a10), (11, .int a11), (12, .int a12)] [] σ) (a0 : Nat) (a1 : Int32) (a2 : Int64) (a4 : Int32) (a5 : Nat) (a6 : Nat) (a7 : Int32) (a8 : Int32) (a9 : Int32) (a10 : Int32) (a11 : Int32) (a12 : Int32) (t0 : Int32) (ha0 : atCanonCote (kZ K) a0) (ha5 : aJ (kZ K) a5 8) (ha6 : aI (kZ K) a6 8) (σ : zST) (h : m_L_isRefined_223 F w k27 k184 k197 a0 a1 a2 a4 a5 a6 a7 a8 a9 a10 a11 a12 t0 σ = some (r0, τ0)) : Z K cs ss 223 [(0, .ref (eA (kZ K) a0)), (1, .int a1), (2, .long a2), (4, .int a4), (5, .ref (eA (kZ K) a5)), (6, .ref (eA (kZ K) a6)), (7, .int a7), (8, .int a8), (9, .int a9), (10, .int a10), (11, .int a11), (12, .int a12)] [.int t0] σ := by
  unfold m_L_isRefined_223 at h
  refine Z_istore hk (lv' := [(13, .int t0), (0, .ref (eA (kZ K) a0)), (1, .int a1), (2, .long a2), (4, .int a4), (5, .ref (eA (kZ K) a5)), (6, .ref (eA (kZ K) a6)), (7, .int a7), (8, .int a8), (9, .int a9), (10, .int a10), (11, .int a11), (12, .int a12)]) dL_isRefined_223 (by decide) rfl ?_
  refine Z_iconst hk dL_isRefined_225 zc_iconst_0 ?_
  refine Z_istore hk (lv' := [(14, .int 0), (13, .int t0), (0, .ref (eA (kZ K) a0)), (1, .int a1), (2, .long a2), (4, .int a4), (5, .ref (eA (kZ K) a5)), (6, .ref (eA (kZ K) a6)), (7, .int a7), (8, .int a8), (9, .int a9), (10, .int a10), (11, .int a11), (12, .int a12)]) dL_isRefined_226 (by decide) rfl ?_
  refine Z_sub [2, 3, 4, 5, 6, 7, 8, 9, 10, 11, 12, 13, 1, 0] rfl ?_
  exact w_L_isRefined_228 hk hfl hnx hq hw cs ss (by omega) (by omega) F k27 hk27 k184 hk184 k197 hk197 F a0 a1 a2 a4 a5 a6 a7 a8 a9 a10 a11 a12 t0 0 ha0 ha5 ha6 σ h
set_option maxRecDepth 100000 in
set_option maxHeartbeats 4000000 in
theorem w_L_isRefined_311 {K : zK} {w : Nat} (hk : zIs K RL cL_isRefined 15 wsL_isRefined (some .boolean) r_L_isRefined) (hfl : (kL K).stackTraces = false) (hnx : zNX K) {r0 : Int32} {τ0 : zST} (hq : zQG K (.inr (some (.int r0))) τ0) (hw : eN (kZ K) = (w + 2)) (cs ss : Nat) (hb1 : cs + 0 ≤ 18) (hb2 : ss + 0 ≤ 112) (F : Nat) (k27 : Nat → Int32 → Int64 → Int32 → Nat → Nat → Int32 → Int32 → Int32 → zST → Option (Int32 × zST)) (hk27 : ∀ (a0 : Nat) (a1 : Int32) (a2 : Int64) (a4 : Int32) (a5 : Nat) (a6 : Nat) (a7 : Int32) (a8 : Int32) (a9 : Int32) (ha0 : atCanonCote (kZ K) a0) (ha5 : aJ (kZ K) a5 8) (ha6 : aI (kZ K) a6 8) (σ : zST), k27 a0 a1 a2 a4 a5 a6 a7 a8 a9 σ = some (r0, τ0) → Z K cs ss 27 [(0, .ref (eA (kZ K) a0)), (1, .int a1), (2, .long a2), (4, .int a4), (5, .ref (eA (kZ K) a5)), (6, .ref (eA (kZ K) a6)), (7, .int a7), (8, .int a8), (9, .int a9)] [] σ) (k184 : Nat → Int32 → Int64 → Int32 → Nat → Nat → Int32 → Int32 → Int32 → Int32 → zST → Option (Int32 × zST)) (hk184 : ∀ (a0 : Nat) (a1 : Int32) (a2 : Int64) (a4 : Int32) (a5 : Nat) (a6 : Nat) (a7 : Int32) (a8 : Int32) (a9 : Int32) (a10 : Int32) (ha0 : atCanonCote (kZ K) a0) (ha5 : aJ (kZ K) a5 8) (ha6 : aI (kZ K) a6 8) (σ : zST), k184 a0 a1 a2 a4 a5 a6 a7 a8 a9 a10 σ = some (r0, τ0) → Z K cs ss 184 [(0, .ref (eA (kZ K) a0)), (1, .int a1), (2, .long a2), (4, .int a4), (5, .ref (eA (kZ K) a5)), (6, .ref (eA (kZ K) a6)), (7, .int a7), (8, .int a8), (9, .int a9), (10, .int a10)] [] σ) (a0 : Nat) (a1 : Int32) (a2 : Int64) (a4 : Int32) (a5 : Nat) (a6 : Nat) (a7 : Int32) (a9 : Int32) (a10 : Int32) (t0 : Int32) (ha0 : atCanonCote (kZ K) a0) (ha5 : aJ (kZ K) a5 8) (ha6 : aI (kZ K) a6 8) (σ : zST) (h : m_L_isRefined_311 F w k27 k184 a0 a1 a2 a4 a5 a6 a7 a9 a10 t0 σ = some (r0, τ0)) : Z K cs ss 311 [(0, .ref (eA (kZ K) a0)), (1, .int a1), (2, .long a2), (4, .int a4), (5, .ref (eA (kZ K) a5)), (6, .ref (eA (kZ K) a6)), (7, .int a7), (9, .int a9), (10, .int a10)] [.int t0] σ := by
  unfold m_L_isRefined_311 at h
  refine Z_istore hk (lv' := [(8, .int t0), (0, .ref (eA (kZ K) a0)), (1, .int a1), (2, .long a2), (4, .int a4), (5, .ref (eA (kZ K) a5)), (6, .ref (eA (kZ K) a6)), (7, .int a7), (9, .int a9), (10, .int a10)]) dL_isRefined_311 (by decide) rfl ?_
  obtain ⟨x57, e58, h⟩ := nm_get h
  refine Z_iinc hk 9 (v := x57) (lv' := [(10, .int x57), (8, .int t0), (0, .ref (eA (kZ K) a0)), (1, .int a1), (2, .long a2), (4, .int a4), (5, .ref (eA (kZ K) a5)), (6, .ref (eA (kZ K) a6)), (7, .int a7), (9, .int a9)]) dL_isRefined_313 rfl (by rw [zc_iinc_1]; exact e58) (by decide) rfl ?_
  refine Z_goto hk (tgt := 184) dL_isRefined_316 (by decide) ?_
  refine Z_sub [2, 3, 4, 5, 6, 7, 8, 1, 9, 0] rfl ?_
  exact hk184 a0 a1 a2 a4 a5 a6 a7 t0 a9 x57 ha0 ha5 ha6 σ h
set_option maxRecDepth 100000 in
set_option maxHeartbeats 4000000 in
theorem w_L_isRefined_197 {K : zK} {w : Nat} (hk : zIs K RL cL_isRefined 15 wsL_isRefined (some .boolean) r_L_isRefined) (hfl : (kL K).stackTraces = false) (hnx : zNX K) {r0 : Int32} {τ0 : zST} (hq : zQG K (.inr (some (.int r0))) τ0) (hw : eN (kZ K) = (w + 2)) (cs ss : Nat) (hb1 : cs + 0 ≤ 18) (hb2 : ss + 0 ≤ 112) (F : Nat) (k27 : Nat → Int32 → Int64 → Int32 → Nat → Nat → Int32 → Int32 → Int32 → zST → Option (Int32 × zST)) (hk27 : ∀ (a0 : Nat) (a1 : Int32) (a2 : Int64) (a4 : Int32) (a5 : Nat) (a6 : Nat) (a7 : Int32) (a8 : Int32) (a9 : Int32) (ha0 : atCanonCote (kZ K) a0) (ha5 : aJ (kZ K) a5 8) (ha6 : aI (kZ K) a6 8) (σ : zST), k27 a0 a1 a2 a4 a5 a6 a7 a8 a9 σ = some (r0, τ0) → Z K cs ss 27 [(0, .ref (eA (kZ K) a0)), (1, .int a1), (2, .long a2), (4, .int a4), (5, .ref (eA (kZ K) a5)), (6, .ref (eA (kZ K) a6)), (7, .int a7), (8, .int a8), (9, .int a9)] [] σ) (k184 : Nat → Int32 → Int64 → Int32 → Nat → Nat → Int32 → Int32 → Int32 → Int32 → zST → Option (Int32 × zST)) (hk184 : ∀ (a0 : Nat) (a1 : Int32) (a2 : Int64) (a4 : Int32) (a5 : Nat) (a6 : Nat) (a7 : Int32) (a8 : Int32) (a9 : Int32) (a10 : Int32) (ha0 : atCanonCote (kZ K) a0) (ha5 : aJ (kZ K) a5 8) (ha6 : aI (kZ K) a6 8) (σ : zST), k184 a0 a1 a2 a4 a5 a6 a7 a8 a9 a10 σ = some (r0, τ0) → Z K cs ss 184 [(0, .ref (eA (kZ K) a0)), (1, .int a1), (2, .long a2), (4, .int a4), (5, .ref (eA (kZ K) a5)), (6, .ref (eA (kZ K) a6)), (7, .int a7), (8, .int a8), (9, .int a9), (10, .int a10)] [] σ) : ∀ (n : Nat) (a0 : Nat) (a1 : Int32) (a2 : Int64) (a4 : Int32) (a5 : Nat) (a6 : Nat) (a7 : Int32) (a8 : Int32) (a9 : Int32) (a10 : Int32) (a11 : Int32) (a12 : Int32) (ha0 : atCanonCote (kZ K) a0) (ha5 : aJ (kZ K) a5 8) (ha6 : aI (kZ K) a6 8) (σ : zST), m_L_isRefined_197 F w k27 k184 n a0 a1 a2 a4 a5 a6 a7 a8 a9 a10 a11 a12 σ = some (r0, τ0) → Z K cs ss 197 [(0, .ref (eA (kZ K) a0)), (1, .int a1), (2, .long a2), (4, .int a4), (5, .ref (eA (kZ K) a5)), (6, .ref (eA (kZ K) a6)), (7, .int a7), (8, .int a8), (9, .int a9), (10, .int a10), (11, .int a11), (12, .int a12)] [] σ := by
  intro n
  induction n with
  | zero => intro a0 a1 a2 a4 a5 a6 a7 a8 a9 a10 a11 a12 ha0 ha5 ha6 σ h; cases h
  | succ n ih =>
    intro a0 a1 a2 a4 a5 a6 a7 a8 a9 a10 a11 a12 ha0 ha5 ha6 σ h
    rw [m_L_isRefined_197] at h
    refine Z_iload hk 11 dL_isRefined_197 rfl ?_
    refine Z_iload hk 3 dL_isRefined_199 rfl ?_
    refine Z_icmp_ge hk (tgt := 288) dL_isRefined_201 (by decide) (fun c43 => ?_) (fun c43 => ?_)
    · have h := if_yes h c43
      refine Z_aload hk 5 dL_isRefined_288 rfl ?_
      refine Z_iload hk 9 dL_isRefined_290 rfl ?_
      refine Z_iload hk 10 dL_isRefined_292 rfl ?_
      obtain ⟨i46, s44, e45, h⟩ := stI_get h
      refine Z_iast hk ha6 i46 dL_isRefined_294 ?_
      refine Z_eqS e45 ?_
      refine Z_iload hk 10 dL_isRefined_295 rfl ?_
      refine Z_iload hk 7 dL_isRefined_297 rfl ?_
      refine Z_icmp_lt hk (tgt := 309) dL_isRefined_299 (by decide) (fun c47 => ?_) (fun c47 => ?_)
      · have h := if_yes h c47
        refine Z_iload hk 7 dL_isRefined_309 rfl ?_
        refine Z_sub [0, 1, 2, 3, 4, 5, 6, 8, 9] rfl ?_
        exact w_L_isRefined_311 hk hfl hnx hq hw cs ss (by omega) (by omega) F k27 hk27 k184 hk184 a0 a1 a2 a4 a5 a6 a7 a9 a10 a8 ha0 ha5 ha6 s44 h
      · have h := if_no h c47
        refine Z_iload hk 10 dL_isRefined_302 rfl ?_
        refine Z_iconst hk dL_isRefined_304 zc_iconst_1 ?_
        refine Z_iadd hk dL_isRefined_305 ?_
        refine Z_goto hk (tgt := 311) dL_isRefined_306 (by decide) ?_
        refine Z_sub [0, 1, 2, 3, 4, 5, 6, 8, 9] rfl ?_
        exact w_L_isRefined_311 hk hfl hnx hq hw cs ss (by omega) (by omega) F k27 hk27 k184 hk184 a0 a1 a2 a4 a5 a6 a7 a9 a10 (a11 + 1) ha0 ha5 ha6 s44 h
    · have h := if_no h c43
      refine Z_aload hk 4 dL_isRefined_204 rfl ?_
      refine Z_iload hk 11 dL_isRefined_206 rfl ?_
      obtain ⟨i50, x48, e49, h⟩ := ldL_get h
      refine Z_lald hk ha5 i50 dL_isRefined_208 ?_
      refine Z_eqL e49 ?_
      refine Z_aload hk 4 dL_isRefined_209 rfl ?_
      refine Z_iload hk 9 dL_isRefined_211 rfl ?_
      obtain ⟨i53, x51, e52, h⟩ := ldL_get h
      refine Z_lald hk ha5 i53 dL_isRefined_213 ?_
      refine Z_eqL e52 ?_
      refine Z_lcmp hk dL_isRefined_214 ?_
      refine Z_if_ge hk (tgt := 222) dL_isRefined_215 (by decide) (fun c54 => ?_) (fun c54 => ?_)
      · have h := if_yes h c54
        refine Z_iconst hk dL_isRefined_222 zc_iconst_0 ?_
        refine Z_sub [0, 1, 2, 3, 4, 5, 6, 7, 8, 9, 10, 11] rfl ?_
        exact w_L_isRefined_223 hk hfl hnx hq hw cs ss (by omega) (by omega) F k27 hk27 k184 hk184 (m_L_isRefined_197 F w k27 k184 n) ih a0 a1 a2 a4 a5 a6 a7 a8 a9 a10 a11 a12 0 ha0 ha5 ha6 σ h
      · have h := if_no h c54
        refine Z_iconst hk dL_isRefined_218 zc_iconst_1 ?_
        refine Z_goto hk (tgt := 223) dL_isRefined_219 (by decide) ?_
        refine Z_sub [0, 1, 2, 3, 4, 5, 6, 7, 8, 9, 10, 11] rfl ?_
        exact w_L_isRefined_223 hk hfl hnx hq hw cs ss (by omega) (by omega) F k27 hk27 k184 hk184 (m_L_isRefined_197 F w k27 k184 n) ih a0 a1 a2 a4 a5 a6 a7 a8 a9 a10 a11 a12 1 ha0 ha5 ha6 σ h
set_option maxRecDepth 100000 in
set_option maxHeartbeats 4000000 in
theorem w_L_isRefined_184 {K : zK} {w : Nat} (hk : zIs K RL cL_isRefined 15 wsL_isRefined (some .boolean) r_L_isRefined) (hfl : (kL K).stackTraces = false) (hnx : zNX K) {r0 : Int32} {τ0 : zST} (hq : zQG K (.inr (some (.int r0))) τ0) (hw : eN (kZ K) = (w + 2)) (cs ss : Nat) (hb1 : cs + 0 ≤ 18) (hb2 : ss + 0 ≤ 112) (F : Nat) (k27 : Nat → Int32 → Int64 → Int32 → Nat → Nat → Int32 → Int32 → Int32 → zST → Option (Int32 × zST)) (hk27 : ∀ (a0 : Nat) (a1 : Int32) (a2 : Int64) (a4 : Int32) (a5 : Nat) (a6 : Nat) (a7 : Int32) (a8 : Int32) (a9 : Int32) (ha0 : atCanonCote (kZ K) a0) (ha5 : aJ (kZ K) a5 8) (ha6 : aI (kZ K) a6 8) (σ : zST), k27 a0 a1 a2 a4 a5 a6 a7 a8 a9 σ = some (r0, τ0) → Z K cs ss 27 [(0, .ref (eA (kZ K) a0)), (1, .int a1), (2, .long a2), (4, .int a4), (5, .ref (eA (kZ K) a5)), (6, .ref (eA (kZ K) a6)), (7, .int a7), (8, .int a8), (9, .int a9)] [] σ) : ∀ (n : Nat) (a0 : Nat) (a1 : Int32) (a2 : Int64) (a4 : Int32) (a5 : Nat) (a6 : Nat) (a7 : Int32) (a8 : Int32) (a9 : Int32) (a10 : Int32) (ha0 : atCanonCote (kZ K) a0) (ha5 : aJ (kZ K) a5 8) (ha6 : aI (kZ K) a6 8) (σ : zST), m_L_isRefined_184 F w k27 n a0 a1 a2 a4 a5 a6 a7 a8 a9 a10 σ = some (r0, τ0) → Z K cs ss 184 [(0, .ref (eA (kZ K) a0)), (1, .int a1), (2, .long a2), (4, .int a4), (5, .ref (eA (kZ K) a5)), (6, .ref (eA (kZ K) a6)), (7, .int a7), (8, .int a8), (9, .int a9), (10, .int a10)] [] σ := by
  intro n
  induction n with
  | zero => intro a0 a1 a2 a4 a5 a6 a7 a8 a9 a10 ha0 ha5 ha6 σ h; cases h
  | succ n ih =>
    intro a0 a1 a2 a4 a5 a6 a7 a8 a9 a10 ha0 ha5 ha6 σ h
    rw [m_L_isRefined_184] at h
    refine Z_iload hk 9 dL_isRefined_184 rfl ?_
    refine Z_iload hk 3 dL_isRefined_186 rfl ?_
    refine Z_icmp_ge hk (tgt := 319) dL_isRefined_188 (by decide) (fun c37 => ?_) (fun c37 => ?_)
    · have h := if_yes h c37
      obtain ⟨x38, e39, h⟩ := nm_get h
      refine Z_iinc hk 8 (v := x38) (lv' := [(9, .int x38), (0, .ref (eA (kZ K) a0)), (1, .int a1), (2, .long a2), (4, .int a4), (5, .ref (eA (kZ K) a5)), (6, .ref (eA (kZ K) a6)), (7, .int a7), (8, .int a8), (10, .int a10)]) dL_isRefined_319 rfl (by rw [zc_iinc_1]; exact e39) (by decide) rfl ?_
      refine Z_goto hk (tgt := 27) dL_isRefined_322 (by decide) ?_
      refine Z_sub [1, 2, 3, 4, 5, 6, 7, 8, 0] rfl ?_
      exact hk27 a0 a1 a2 a4 a5 a6 a7 a8 x38 ha0 ha5 ha6 σ h
    · have h := if_no h c37
      refine Z_iconst hk dL_isRefined_191 zc_iconst_0 ?_
      refine Z_istore hk (lv' := [(11, .int 0), (0, .ref (eA (kZ K) a0)), (1, .int a1), (2, .long a2), (4, .int a4), (5, .ref (eA (kZ K) a5)), (6, .ref (eA (kZ K) a6)), (7, .int a7), (8, .int a8), (9, .int a9), (10, .int a10)]) dL_isRefined_192 (by decide) rfl ?_
      refine Z_iconst hk dL_isRefined_194 zc_iconst_0 ?_
      refine Z_istore hk (lv' := [(12, .int 0), (11, .int 0), (0, .ref (eA (kZ K) a0)), (1, .int a1), (2, .long a2), (4, .int a4), (5, .ref (eA (kZ K) a5)), (6, .ref (eA (kZ K) a6)), (7, .int a7), (8, .int a8), (9, .int a9), (10, .int a10)]) dL_isRefined_195 (by decide) rfl ?_
      refine Z_sub [2, 3, 4, 5, 6, 7, 8, 9, 10, 11, 1, 0] rfl ?_
      exact w_L_isRefined_197 hk hfl hnx hq hw cs ss (by omega) (by omega) F k27 hk27 (m_L_isRefined_184 F w k27 n) ih F a0 a1 a2 a4 a5 a6 a7 a8 a9 a10 0 0 ha0 ha5 ha6 σ h
set_option maxRecDepth 100000 in
set_option maxHeartbeats 4000000 in
theorem w_L_isRefined_53 {K : zK} {w : Nat} (hk : zIs K RL cL_isRefined 15 wsL_isRefined (some .boolean) r_L_isRefined) (hfl : (kL K).stackTraces = false) (hnx : zNX K) {r0 : Int32} {τ0 : zST} (hq : zQG K (.inr (some (.int r0))) τ0) (hw : eN (kZ K) = (w + 2)) (cs ss : Nat) (hb1 : cs + 0 ≤ 18) (hb2 : ss + 0 ≤ 112) (F : Nat) (k27 : Nat → Int32 → Int64 → Int32 → Nat → Nat → Int32 → Int32 → Int32 → zST → Option (Int32 × zST)) (hk27 : ∀ (a0 : Nat) (a1 : Int32) (a2 : Int64) (a4 : Int32) (a5 : Nat) (a6 : Nat) (a7 : Int32) (a8 : Int32) (a9 : Int32) (ha0 : atCanonCote (kZ K) a0) (ha5 : aJ (kZ K) a5 8) (ha6 : aI (kZ K) a6 8) (σ : zST), k27 a0 a1 a2 a4 a5 a6 a7 a8 a9 σ = some (r0, τ0) → Z K cs ss 27 [(0, .ref (eA (kZ K) a0)), (1, .int a1), (2, .long a2), (4, .int a4), (5, .ref (eA (kZ K) a5)), (6, .ref (eA (kZ K) a6)), (7, .int a7), (8, .int a8), (9, .int a9)] [] σ) : ∀ (n : Nat) (a0 : Nat) (a1 : Int32) (a2 : Int64) (a4 : Int32) (a5 : Nat) (a6 : Nat) (a7 : Int32) (a8 : Int32) (a9 : Int32) (a10 : Int32) (ha0 : atCanonCote (kZ K) a0) (ha5 : aJ (kZ K) a5 8) (ha6 : aI (kZ K) a6 8) (σ : zST), m_L_isRefined_53 F w k27 n a0 a1 a2 a4 a5 a6 a7 a8 a9 a10 σ = some (r0, τ0) → Z K cs ss 53 [(0, .ref (eA (kZ K) a0)), (1, .int a1), (2, .long a2), (4, .int a4), (5, .ref (eA (kZ K) a5)), (6, .ref (eA (kZ K) a6)), (7, .int a7), (8, .int a8), (9, .int a9), (10, .int a10)] [] σ := by
  intro n
  induction n with
  | zero => intro a0 a1 a2 a4 a5 a6 a7 a8 a9 a10 ha0 ha5 ha6 σ h; cases h
  | succ n ih =>
    intro a0 a1 a2 a4 a5 a6 a7 a8 a9 a10 ha0 ha5 ha6 σ h
    rw [m_L_isRefined_53] at h
    refine Z_iload hk 9 dL_isRefined_53 rfl ?_
    refine Z_iload hk 3 dL_isRefined_55 rfl ?_
    refine Z_icmp_ge hk (tgt := 181) dL_isRefined_57 (by decide) (fun c27 => ?_) (fun c27 => ?_)
    · have h := if_yes h c27
      refine Z_iconst hk dL_isRefined_181 zc_iconst_0 ?_
      refine Z_istore hk (lv' := [(10, .int 0), (0, .ref (eA (kZ K) a0)), (1, .int a1), (2, .long a2), (4, .int a4), (5, .ref (eA (kZ K) a5)), (6, .ref (eA (kZ K) a6)), (7, .int a7), (8, .int a8), (9, .int a9)]) dL_isRefined_182 (by decide) rfl ?_
      refine Z_sub [1, 2, 3, 4, 5, 6, 7, 8, 9, 0] rfl ?_
      exact w_L_isRefined_184 hk hfl hnx hq hw cs ss (by omega) (by omega) F k27 hk27 F a0 a1 a2 a4 a5 a6 a7 a8 a9 0 ha0 ha5 ha6 σ h
    · have h := if_no h c27
      refine Z_aload hk 4 dL_isRefined_60 rfl ?_
      refine Z_iload hk 9 dL_isRefined_62 rfl ?_
      refine Z_iload hk 8 dL_isRefined_64 rfl ?_
      refine Z_if_ge hk (tgt := 79) dL_isRefined_66 (by decide) (fun c28 => ?_) (fun c28 => ?_)
      · have h := if_yes h c28
        refine Z_aload hk 5 dL_isRefined_79 rfl ?_
        refine Z_iload hk 9 dL_isRefined_81 rfl ?_
        obtain ⟨i31, x29, e30, h⟩ := ldI_get h
        refine Z_iald hk ha6 i31 dL_isRefined_83 ?_
        refine Z_eqI e30 ?_
        refine Z_i2l hk dL_isRefined_84 ?_
        refine Z_sub [0, 1, 2, 3, 4, 5, 6, 7, 8, 9] rfl ?_
        exact w_L_isRefined_85 hk hfl hnx hq hw cs ss (by omega) (by omega) F k27 hk27 (m_L_isRefined_53 F w k27 n) ih a0 a1 a2 a4 a5 a6 a7 a8 a9 a10 (x29.toInt64) a10 a5 ha0 ha5 ha6 ha5 σ h
      · have h := if_no h c28
        refine Z_lload_n hk 2 dL_isRefined_69 rfl rfl ?_
        refine Z_iload hk 9 dL_isRefined_70 rfl ?_
        obtain ⟨x32, s33, h34, h⟩ := bd_ok h
        refine Z_callT 2 hk [.long a2, .int a10] (c_L_colour hk.loc hk.inj F a2 a10 σ h34) gL_isRefined_L_colour rfl ⟨rfl, rfl⟩ (by decide +kernel) ⟨Nat.le_of_ble_eq_true rfl, Nat.le_of_ble_eq_true rfl⟩ rfl rfl (Nat.le_of_ble_eq_true rfl) ⟨by show cs + 0 ≤ 18; omega, by show ss + 0 ≤ 112; omega⟩ dL_isRefined_72 ?_
        show Z K cs ss 75 [(0, .ref (eA (kZ K) a0)), (1, .int a1), (2, .long a2), (4, .int a4), (5, .ref (eA (kZ K) a5)), (6, .ref (eA (kZ K) a6)), (7, .int a7), (8, .int a8), (9, .int a9), (10, .int a10)] [.int x32, .int a10, .ref (eA (kZ K) a5)] s33
        refine Z_i2l hk dL_isRefined_75 ?_
        refine Z_goto hk (tgt := 85) dL_isRefined_76 (by decide) ?_
        refine Z_sub [0, 1, 2, 3, 4, 5, 6, 7, 8, 9] rfl ?_
        exact w_L_isRefined_85 hk hfl hnx hq hw cs ss (by omega) (by omega) F k27 hk27 (m_L_isRefined_53 F w k27 n) ih a0 a1 a2 a4 a5 a6 a7 a8 a9 a10 (x32.toInt64) a10 a5 ha0 ha5 ha6 ha5 s33 h
set_option maxRecDepth 100000 in
set_option maxHeartbeats 4000000 in
theorem w_L_isRefined_45 {K : zK} {w : Nat} (hk : zIs K RL cL_isRefined 15 wsL_isRefined (some .boolean) r_L_isRefined) (hfl : (kL K).stackTraces = false) (hnx : zNX K) {r0 : Int32} {τ0 : zST} (hq : zQG K (.inr (some (.int r0))) τ0) (hw : eN (kZ K) = (w + 2)) (cs ss : Nat) (hb1 : cs + 0 ≤ 18) (hb2 : ss + 0 ≤ 112) (F : Nat) (k27 : Nat → Int32 → Int64 → Int32 → Nat → Nat → Int32 → Int32 → Int32 → zST → Option (Int32 × zST)) (hk27 : ∀ (a0 : Nat) (a1 : Int32) (a2 : Int64) (a4 : Int32) (a5 : Nat) (a6 : Nat) (a7 : Int32) (a8 : Int32) (a9 : Int32) (ha0 : atCanonCote (kZ K) a0) (ha5 : aJ (kZ K) a5 8) (ha6 : aI (kZ K) a6 8) (σ : zST), k27 a0 a1 a2 a4 a5 a6 a7 a8 a9 σ = some (r0, τ0) → Z K cs ss 27 [(0, .ref (eA (kZ K) a0)), (1, .int a1), (2, .long a2), (4, .int a4), (5, .ref (eA (kZ K) a5)), (6, .ref (eA (kZ K) a6)), (7, .int a7), (8, .int a8), (9, .int a9)] [] σ) (a0 : Nat) (a1 : Int32) (a2 : Int64) (a4 : Int32) (a5 : Nat) (a6 : Nat) (a9 : Int32) (t0 : Int32) (ha0 : atCanonCote (kZ K) a0) (ha5 : aJ (kZ K) a5 8) (ha6 : aI (kZ K) a6 8) (σ : zST) (h : m_L_isRefined_45 F w k27 a0 a1 a2 a4 a5 a6 a9 t0 σ = some (r0, τ0)) : Z K cs ss 45 [(0, .ref (eA (kZ K) a0)), (1, .int a1), (2, .long a2), (4, .int a4), (5, .ref (eA (kZ K) a5)), (6, .ref (eA (kZ K) a6)), (9, .int a9)] [.int t0] σ := by
  unfold m_L_isRefined_45 at h
  refine Z_istore hk (lv' := [(7, .int t0), (0, .ref (eA (kZ K) a0)), (1, .int a1), (2, .long a2), (4, .int a4), (5, .ref (eA (kZ K) a5)), (6, .ref (eA (kZ K) a6)), (9, .int a9)]) dL_isRefined_45 (by decide) rfl ?_
  refine Z_iconst hk dL_isRefined_47 zc_iconst_0 ?_
  refine Z_istore hk (lv' := [(8, .int 0), (7, .int t0), (0, .ref (eA (kZ K) a0)), (1, .int a1), (2, .long a2), (4, .int a4), (5, .ref (eA (kZ K) a5)), (6, .ref (eA (kZ K) a6)), (9, .int a9)]) dL_isRefined_48 (by decide) rfl ?_
  refine Z_iconst hk dL_isRefined_50 zc_iconst_0 ?_
  refine Z_istore hk (lv' := [(10, .int 0), (8, .int 0), (7, .int t0), (0, .ref (eA (kZ K) a0)), (1, .int a1), (2, .long a2), (4, .int a4), (5, .ref (eA (kZ K) a5)), (6, .ref (eA (kZ K) a6)), (9, .int a9)]) dL_isRefined_51 (by decide) rfl ?_
  refine Z_sub [3, 4, 5, 6, 7, 8, 2, 1, 9, 0] rfl ?_
  exact w_L_isRefined_53 hk hfl hnx hq hw cs ss (by omega) (by omega) F k27 hk27 F a0 a1 a2 a4 a5 a6 t0 0 a9 0 ha0 ha5 ha6 σ h
set_option maxRecDepth 100000 in
set_option maxHeartbeats 4000000 in
theorem w_L_isRefined_387 {K : zK} {w : Nat} (hk : zIs K RL cL_isRefined 15 wsL_isRefined (some .boolean) r_L_isRefined) (hfl : (kL K).stackTraces = false) (hnx : zNX K) {r0 : Int32} {τ0 : zST} (hq : zQG K (.inr (some (.int r0))) τ0) (hw : eN (kZ K) = (w + 2)) (cs ss : Nat) (C S : Nat) (hr1 : cs + 0 ≤ C) (hr2 : ss + 0 ≤ S) (hb1 : cs + 0 ≤ 18) (hb2 : ss + 0 ≤ 112) (F : Nat) (k355 : Nat → Int32 → Int32 → Nat → Int32 → Int32 → zST → Option (Int32 × zST)) (hk355 : ∀ (a0 : Nat) (a1 : Int32) (a4 : Int32) (a6 : Nat) (a10 : Int32) (a11 : Int32) (ha0 : atCanonCote (kZ K) a0) (ha6 : aI (kZ K) a6 8) (σ : zST), k355 a0 a1 a4 a6 a10 a11 σ = some (r0, τ0) → Z K C S 355 [(0, .ref (eA (kZ K) a0)), (1, .int a1), (4, .int a4), (6, .ref (eA (kZ K) a6)), (10, .int a10), (11, .int a11)] [] σ) (a0 : Nat) (a1 : Int32) (a4 : Int32) (a6 : Nat) (a11 : Int32) (t0 : Int32) (ha0 : atCanonCote (kZ K) a0) (ha6 : aI (kZ K) a6 8) (σ : zST) (h : m_L_isRefined_387 F w k355 a0 a1 a4 a6 a11 t0 σ = some (r0, τ0)) : Z K cs ss 387 [(0, .ref (eA (kZ K) a0)), (1, .int a1), (4, .int a4), (6, .ref (eA (kZ K) a6)), (11, .int a11)] [.int t0] σ := by
  unfold m_L_isRefined_387 at h
  refine Z_istore hk (lv' := [(10, .int t0), (0, .ref (eA (kZ K) a0)), (1, .int a1), (4, .int a4), (6, .ref (eA (kZ K) a6)), (11, .int a11)]) dL_isRefined_387 (by decide) rfl ?_
  obtain ⟨x35, e36, h⟩ := nm_get h
  refine Z_iinc hk 5 (v := x35) (lv' := [(11, .int x35), (10, .int t0), (0, .ref (eA (kZ K) a0)), (1, .int a1), (4, .int a4), (6, .ref (eA (kZ K) a6))]) dL_isRefined_389 rfl (by rw [zc_iinc_1]; exact e36) (by decide) rfl ?_
  refine Z_goto hk (tgt := 355) dL_isRefined_392 (by decide) ?_
  refine Z_sub [2, 3, 4, 5, 1, 0] rfl ?_
  refine Z_widen (cs' := C) (ss' := S) (by omega) (by omega) ?_
  exact hk355 a0 a1 a4 a6 t0 x35 ha0 ha6 σ h
set_option maxRecDepth 100000 in
set_option maxHeartbeats 4000000 in
theorem w_L_isRefined_395 {K : zK} {w : Nat} (hk : zIs K RL cL_isRefined 15 wsL_isRefined (some .boolean) r_L_isRefined) (hfl : (kL K).stackTraces = false) (hnx : zNX K) {r0 : Int32} {τ0 : zST} (hq : zQG K (.inr (some (.int r0))) τ0) (hw : eN (kZ K) = (w + 2)) (cs ss : Nat) (hb1 : cs + 0 ≤ 18) (hb2 : ss + 0 ≤ 112) (F : Nat) (a10 : Int32) (σ : zST) (h : m_L_isRefined_395 F w a10 σ = some (r0, τ0)) : Z K cs ss 395 [(10, .int a10)] [] σ := by
  unfold m_L_isRefined_395 at h
  refine Z_iload hk 0 dL_isRefined_395 rfl ?_
  obtain ⟨hz, h⟩ := gd_some h
  cases h
  exact ZG_zret hk hz hq ⟨by show cs + 0 ≤ 18; omega, by show ss + 0 ≤ 112; omega⟩ dL_isRefined_397
set_option maxRecDepth 100000 in
set_option maxHeartbeats 4000000 in
theorem w_L_isRefined_355 {K : zK} {w : Nat} (hk : zIs K RL cL_isRefined 15 wsL_isRefined (some .boolean) r_L_isRefined) (hfl : (kL K).stackTraces = false) (hnx : zNX K) {r0 : Int32} {τ0 : zST} (hq : zQG K (.inr (some (.int r0))) τ0) (hw : eN (kZ K) = (w + 2)) (F : Nat) : ∀ (n : Nat) (cs ss : Nat) (hb1 : cs + 2 * n + 0 ≤ 18) (hb2 : ss + 12 * n + 0 ≤ 112) (a0 : Nat) (a1 : Int32) (a4 : Int32) (a6 : Nat) (a10 : Int32) (a11 : Int32) (ha0 : atCanonCote (kZ K) a0) (ha6 : aI (kZ K) a6 8) (σ : zST), m_L_isRefined_355 F w n a0 a1 a4 a6 a10 a11 σ = some (r0, τ0) → Z K cs ss 355 [(0, .ref (eA (kZ K) a0)), (1, .int a1), (4, .int a4), (6, .ref (eA (kZ K) a6)), (10, .int a10), (11, .int a11)] [] σ := by
  intro n
  induction n with
  | zero => intro cs ss hb1 hb2 a0 a1 a4 a6 a10 a11 ha0 ha6 σ h; cases h
  | succ n ih0 =>
    intro cs ss hb1 hb2 a0 a1 a4 a6 a10 a11 ha0 ha6 σ h
    have ih := ih0 (cs + 2) (ss + 12) (by omega) (by omega)
    rw [m_L_isRefined_355] at h
    refine Z_iload hk 5 dL_isRefined_355 rfl ?_
    refine Z_iload hk 2 dL_isRefined_357 rfl ?_
    refine Z_icmp_ge hk (tgt := 395) dL_isRefined_359 (by decide) (fun c18 => ?_) (fun c18 => ?_)
    · have h := if_yes h c18
      refine Z_sub [4] rfl ?_
      exact w_L_isRefined_395 hk hfl hnx hq hw cs ss (by omega) (by omega) F a10 σ h
    · have h := if_no h c18
      refine Z_iload hk 4 dL_isRefined_362 rfl ?_
      refine Z_if_eq hk (tgt := 395) dL_isRefined_364 (by decide) (fun c19 => ?_) (fun c19 => ?_)
      · have h := if_yes h c19
        refine Z_sub [4] rfl ?_
        exact w_L_isRefined_395 hk hfl hnx hq hw cs ss (by omega) (by omega) F a10 σ h
      · have h := if_no h c19
        refine Z_aload_n hk 0 dL_isRefined_367 rfl rfl ?_
        refine Z_iload_n hk 1 dL_isRefined_368 rfl rfl ?_
        refine Z_iload hk 5 dL_isRefined_369 rfl ?_
        obtain ⟨x20, s21, h22, h⟩ := br_ok h
        refine ZX_callV 2 hk [.int a1, .int a11] (c_X7_classOf hk.loc hk.inj hfl F a0 a1 a11 ha0 σ h22) gL_isRefined_X7_classOf rfl ⟨rfl, by decide +kernel, by decide +kernel, by decide +kernel⟩ ⟨Nat.le_of_ble_eq_true rfl, Nat.le_of_ble_eq_true rfl⟩ ha0.cell.1 (ha0.cell.2 _) rfl rfl rfl (Nat.le_of_ble_eq_true rfl) ⟨by show cs + 2 ≤ 18; omega, by show ss + 12 ≤ 112; omega⟩ dL_isRefined_371 (fun X hX => by cases hX) (fun v hv => ?_)
        cases hv
        show Z K (cs + 2) (ss + 12) 374 [(0, .ref (eA (kZ K) a0)), (1, .int a1), (4, .int a4), (6, .ref (eA (kZ K) a6)), (10, .int a10), (11, .int a11)] [.int x20] s21
        refine Z_aload hk 3 dL_isRefined_374 rfl ?_
        refine Z_iload hk 5 dL_isRefined_376 rfl ?_
        obtain ⟨i25, x23, e24, h⟩ := ldI_get h
        refine Z_iald hk ha6 i25 dL_isRefined_378 ?_
        refine Z_eqI e24 ?_
        refine Z_icmp_ne hk (tgt := 386) dL_isRefined_379 (by decide) (fun c26 => ?_) (fun c26 => ?_)
        · have h := if_yes h c26
          refine Z_iconst hk dL_isRefined_382 zc_iconst_1 ?_
          refine Z_goto hk (tgt := 387) dL_isRefined_383 (by decide) ?_
          refine Z_sub [0, 1, 2, 3, 5] rfl ?_
          exact w_L_isRefined_387 hk hfl hnx hq hw (cs + 2) (ss + 12) (cs + 2) (ss + 12) (by omega) (by omega) (by omega) (by omega) F (m_L_isRefined_355 F w n) ih a0 a1 a4 a6 a11 1 ha0 ha6 s21 h
        · have h := if_no h c26
          refine Z_iconst hk dL_isRefined_386 zc_iconst_0 ?_
          refine Z_sub [0, 1, 2, 3, 5] rfl ?_
          exact w_L_isRefined_387 hk hfl hnx hq hw (cs + 2) (ss + 12) (cs + 2) (ss + 12) (by omega) (by omega) (by omega) (by omega) F (m_L_isRefined_355 F w n) ih a0 a1 a4 a6 a11 0 ha0 ha6 s21 h
set_option maxRecDepth 100000 in
set_option maxHeartbeats 4000000 in
theorem w_L_isRefined_350 {K : zK} {w : Nat} (hk : zIs K RL cL_isRefined 15 wsL_isRefined (some .boolean) r_L_isRefined) (hfl : (kL K).stackTraces = false) (hnx : zNX K) {r0 : Int32} {τ0 : zST} (hq : zQG K (.inr (some (.int r0))) τ0) (hw : eN (kZ K) = (w + 2)) (cs ss : Nat) (hb1 : cs + 14 ≤ 18) (hb2 : ss + 84 ≤ 112) (F : Nat) (a0 : Nat) (a1 : Int32) (a4 : Int32) (a6 : Nat) (t0 : Int32) (ha0 : atCanonCote (kZ K) a0) (ha6 : aI (kZ K) a6 8) (σ : zST) (h : m_L_isRefined_350 F w a0 a1 a4 a6 t0 σ = some (r0, τ0)) : Z K cs ss 350 [(0, .ref (eA (kZ K) a0)), (1, .int a1), (4, .int a4), (6, .ref (eA (kZ K) a6))] [.int t0] σ := by
  unfold m_L_isRefined_350 at h
  refine Z_istore hk (lv' := [(10, .int t0), (0, .ref (eA (kZ K) a0)), (1, .int a1), (4, .int a4), (6, .ref (eA (kZ K) a6))]) dL_isRefined_350 (by decide) rfl ?_
  refine Z_iconst hk dL_isRefined_352 zc_iconst_0 ?_
  refine Z_istore hk (lv' := [(11, .int 0), (10, .int t0), (0, .ref (eA (kZ K) a0)), (1, .int a1), (4, .int a4), (6, .ref (eA (kZ K) a6))]) dL_isRefined_353 (by decide) rfl ?_
  refine Z_sub [2, 3, 4, 5, 1, 0] rfl ?_
  exact w_L_isRefined_355 hk hfl hnx hq hw F 7 cs ss (by omega) (by omega) a0 a1 a4 a6 t0 0 ha0 ha6 σ h
set_option maxRecDepth 100000 in
set_option maxHeartbeats 4000000 in
theorem w_L_isRefined_349 {K : zK} {w : Nat} (hk : zIs K RL cL_isRefined 15 wsL_isRefined (some .boolean) r_L_isRefined) (hfl : (kL K).stackTraces = false) (hnx : zNX K) {r0 : Int32} {τ0 : zST} (hq : zQG K (.inr (some (.int r0))) τ0) (hw : eN (kZ K) = (w + 2)) (cs ss : Nat) (hb1 : cs + 14 ≤ 18) (hb2 : ss + 84 ≤ 112) (F : Nat) (a0 : Nat) (a1 : Int32) (a4 : Int32) (a6 : Nat) (ha0 : atCanonCote (kZ K) a0) (ha6 : aI (kZ K) a6 8) (σ : zST) (h : m_L_isRefined_349 F w a0 a1 a4 a6 σ = some (r0, τ0)) : Z K cs ss 349 [(0, .ref (eA (kZ K) a0)), (1, .int a1), (4, .int a4), (6, .ref (eA (kZ K) a6))] [] σ := by
  unfold m_L_isRefined_349 at h
  refine Z_iconst hk dL_isRefined_349 zc_iconst_0 ?_
  refine Z_sub [0, 1, 2, 3] rfl ?_
  exact w_L_isRefined_350 hk hfl hnx hq hw cs ss (by omega) (by omega) F a0 a1 a4 a6 0 ha0 ha6 σ h
set_option maxRecDepth 100000 in
set_option maxHeartbeats 4000000 in
theorem w_L_isRefined_27 {K : zK} {w : Nat} (hk : zIs K RL cL_isRefined 15 wsL_isRefined (some .boolean) r_L_isRefined) (hfl : (kL K).stackTraces = false) (hnx : zNX K) {r0 : Int32} {τ0 : zST} (hq : zQG K (.inr (some (.int r0))) τ0) (hw : eN (kZ K) = (w + 2)) (cs ss : Nat) (hb1 : cs + 16 ≤ 18) (hb2 : ss + 96 ≤ 112) (F : Nat) : ∀ (n : Nat) (a0 : Nat) (a1 : Int32) (a2 : Int64) (a4 : Int32) (a5 : Nat) (a6 : Nat) (a7 : Int32) (a8 : Int32) (a9 : Int32) (ha0 : atCanonCote (kZ K) a0) (ha5 : aJ (kZ K) a5 8) (ha6 : aI (kZ K) a6 8) (σ : zST), m_L_isRefined_27 F w n a0 a1 a2 a4 a5 a6 a7 a8 a9 σ = some (r0, τ0) → Z K cs ss 27 [(0, .ref (eA (kZ K) a0)), (1, .int a1), (2, .long a2), (4, .int a4), (5, .ref (eA (kZ K) a5)), (6, .ref (eA (kZ K) a6)), (7, .int a7), (8, .int a8), (9, .int a9)] [] σ := by
  intro n
  induction n with
  | zero => intro a0 a1 a2 a4 a5 a6 a7 a8 a9 ha0 ha5 ha6 σ h; cases h
  | succ n ih =>
    intro a0 a1 a2 a4 a5 a6 a7 a8 a9 ha0 ha5 ha6 σ h
    rw [m_L_isRefined_27] at h
    refine Z_iload hk 7 dL_isRefined_27 rfl ?_
    refine Z_iload hk 6 dL_isRefined_29 rfl ?_
    refine Z_icmp_le hk (tgt := 325) dL_isRefined_31 (by decide) (fun c8 => ?_) (fun c8 => ?_)
    · have h := if_yes h c8
      refine Z_aload_n hk 0 dL_isRefined_325 rfl rfl ?_
      refine Z_iload_n hk 1 dL_isRefined_326 rfl rfl ?_
      obtain ⟨x9, s10, h11, h⟩ := br_ok h
      refine ZX_callV 1 hk [.int a1] (c_X7_classes hk.loc hk.inj hfl F a0 a1 ha0 σ h11) gL_isRefined_X7_classes rfl ⟨rfl, by decide +kernel, by decide +kernel, by decide +kernel⟩ ⟨Nat.le_of_ble_eq_true rfl, Nat.le_of_ble_eq_true rfl⟩ ha0.cell.1 (ha0.cell.2 _) rfl rfl rfl (Nat.le_of_ble_eq_true rfl) ⟨by show cs + 1 ≤ 18; omega, by show ss + 6 ≤ 112; omega⟩ dL_isRefined_327 (fun X hX => by cases hX) (fun v hv => ?_)
      cases hv
      show Z K (cs + 1) (ss + 6) 330 [(0, .ref (eA (kZ K) a0)), (1, .int a1), (2, .long a2), (4, .int a4), (5, .ref (eA (kZ K) a5)), (6, .ref (eA (kZ K) a6)), (7, .int a7), (8, .int a8), (9, .int a9)] [.int x9] s10
      refine Z_iload hk 7 dL_isRefined_330 rfl ?_
      refine Z_icmp_ne hk (tgt := 349) dL_isRefined_332 (by decide) (fun c12 => ?_) (fun c12 => ?_)
      · have h := if_yes h c12
        refine Z_aload_n hk 0 dL_isRefined_335 rfl rfl ?_
        refine Z_iload_n hk 1 dL_isRefined_336 rfl rfl ?_
        obtain ⟨x13, s14, h15, h⟩ := br_ok h
        refine ZX_callV 1 hk [.int a1] (c_X7_rounds hk.loc hk.inj hfl F a0 a1 ha0 s10 h15) gL_isRefined_X7_rounds rfl ⟨rfl, by decide +kernel, by decide +kernel, by decide +kernel⟩ ⟨Nat.le_of_ble_eq_true rfl, Nat.le_of_ble_eq_true rfl⟩ ha0.cell.1 (ha0.cell.2 _) rfl rfl rfl (Nat.le_of_ble_eq_true rfl) ⟨by show (cs + 1) + 1 ≤ 18; omega, by show (ss + 6) + 6 ≤ 112; omega⟩ dL_isRefined_337 (fun X hX => by cases hX) (fun v hv => ?_)
        cases hv
        show Z K (cs + 2) (ss + 12) 340 [(0, .ref (eA (kZ K) a0)), (1, .int a1), (2, .long a2), (4, .int a4), (5, .ref (eA (kZ K) a5)), (6, .ref (eA (kZ K) a6)), (7, .int a7), (8, .int a8), (9, .int a9)] [.int x13] s14
        refine Z_iload hk 8 dL_isRefined_340 rfl ?_
        refine Z_icmp_ne hk (tgt := 349) dL_isRefined_342 (by decide) (fun c16 => ?_) (fun c16 => ?_)
        · have h := if_yes h c16
          refine Z_iconst hk dL_isRefined_345 zc_iconst_1 ?_
          refine Z_goto hk (tgt := 350) dL_isRefined_346 (by decide) ?_
          refine Z_sub [0, 1, 3, 5] rfl ?_
          exact w_L_isRefined_350 hk hfl hnx hq hw (cs + 2) (ss + 12) (by omega) (by omega) F a0 a1 a4 a6 1 ha0 ha6 s14 h
        · have h := if_no h c16
          refine Z_sub [0, 1, 3, 5] rfl ?_
          exact w_L_isRefined_349 hk hfl hnx hq hw (cs + 2) (ss + 12) (by omega) (by omega) F a0 a1 a4 a6 ha0 ha6 s14 h
      · have h := if_no h c12
        refine Z_sub [0, 1, 3, 5] rfl ?_
        exact w_L_isRefined_349 hk hfl hnx hq hw (cs + 1) (ss + 6) (by omega) (by omega) F a0 a1 a4 a6 ha0 ha6 s10 h
    · have h := if_no h c8
      refine Z_iload hk 8 dL_isRefined_34 rfl ?_
      refine Z_if_ge hk (tgt := 43) dL_isRefined_36 (by decide) (fun c17 => ?_) (fun c17 => ?_)
      · have h := if_yes h c17
        refine Z_iload hk 7 dL_isRefined_43 rfl ?_
        refine Z_sub [0, 1, 2, 3, 4, 5, 8] rfl ?_
        exact w_L_isRefined_45 hk hfl hnx hq hw cs ss (by omega) (by omega) F (m_L_isRefined_27 F w n) ih a0 a1 a2 a4 a5 a6 a9 a8 ha0 ha5 ha6 σ h
      · have h := if_no h c17
        refine Z_iconst hk dL_isRefined_39 zc_iconst_0 ?_
        refine Z_goto hk (tgt := 45) dL_isRefined_40 (by decide) ?_
        refine Z_sub [0, 1, 2, 3, 4, 5, 8] rfl ?_
        exact w_L_isRefined_45 hk hfl hnx hq hw cs ss (by omega) (by omega) F (m_L_isRefined_27 F w n) ih a0 a1 a2 a4 a5 a6 a9 0 ha0 ha5 ha6 σ h
set_option maxRecDepth 100000 in
set_option maxHeartbeats 4000000 in
theorem w_L_isRefined_16 {K : zK} {w : Nat} (hk : zIs K RL cL_isRefined 15 wsL_isRefined (some .boolean) r_L_isRefined) (hfl : (kL K).stackTraces = false) (hnx : zNX K) {r0 : Int32} {τ0 : zST} (hq : zQG K (.inr (some (.int r0))) τ0) (hw : eN (kZ K) = (w + 2)) (cs ss : Nat) (hb1 : cs + 16 ≤ 18) (hb2 : ss + 96 ≤ 112) (F : Nat) (a0 : Nat) (a1 : Int32) (a2 : Int64) (a4 : Int32) (a5 : Nat) (t0 : Nat) (ha0 : atCanonCote (kZ K) a0) (ha5 : aJ (kZ K) a5 8) (ht0 : aI (kZ K) t0 8) (σ : zST) (h : m_L_isRefined_16 F w a0 a1 a2 a4 a5 t0 σ = some (r0, τ0)) : Z K cs ss 16 [(0, .ref (eA (kZ K) a0)), (1, .int a1), (2, .long a2), (4, .int a4), (5, .ref (eA (kZ K) a5))] [.ref (eA (kZ K) t0)] σ := by
  unfold m_L_isRefined_16 at h
  refine Z_astore hk (lv' := [(6, .ref (eA (kZ K) t0)), (0, .ref (eA (kZ K) a0)), (1, .int a1), (2, .long a2), (4, .int a4), (5, .ref (eA (kZ K) a5))]) dL_isRefined_16 (by decide) rfl ?_
  refine Z_iconst hk dL_isRefined_18 zc_iconst_0 ?_
  refine Z_istore hk (lv' := [(7, .int 0), (6, .ref (eA (kZ K) t0)), (0, .ref (eA (kZ K) a0)), (1, .int a1), (2, .long a2), (4, .int a4), (5, .ref (eA (kZ K) a5))]) dL_isRefined_19 (by decide) rfl ?_
  refine Z_iconst hk dL_isRefined_21 zc_iconst_1 ?_
  refine Z_istore hk (lv' := [(8, .int 1), (7, .int 0), (6, .ref (eA (kZ K) t0)), (0, .ref (eA (kZ K) a0)), (1, .int a1), (2, .long a2), (4, .int a4), (5, .ref (eA (kZ K) a5))]) dL_isRefined_22 (by decide) rfl ?_
  refine Z_iconst hk dL_isRefined_24 zc_iconst_m1 ?_
  refine Z_istore hk (lv' := [(9, .int (-1)), (8, .int 1), (7, .int 0), (6, .ref (eA (kZ K) t0)), (0, .ref (eA (kZ K) a0)), (1, .int a1), (2, .long a2), (4, .int a4), (5, .ref (eA (kZ K) a5))]) dL_isRefined_25 (by decide) rfl ?_
  refine Z_sub [4, 5, 6, 7, 8, 3, 2, 1, 0] rfl ?_
  exact w_L_isRefined_27 hk hfl hnx hq hw cs ss (by omega) (by omega) F F a0 a1 a2 a4 a5 t0 0 1 (-1) ha0 ha5 ht0 σ h
set_option maxRecDepth 100000 in
set_option maxHeartbeats 4000000 in
theorem w_L_isRefined_10 {K : zK} {w : Nat} (hk : zIs K RL cL_isRefined 15 wsL_isRefined (some .boolean) r_L_isRefined) (hfl : (kL K).stackTraces = false) (hnx : zNX K) {r0 : Int32} {τ0 : zST} (hq : zQG K (.inr (some (.int r0))) τ0) (hw : eN (kZ K) = (w + 1)) (cs ss : Nat) (hb1 : cs + 17 ≤ 18) (hb2 : ss + 104 ≤ 112) (F : Nat) (a0 : Nat) (a1 : Int32) (a2 : Int64) (a4 : Int32) (t0 : Nat) (ha0 : atCanonCote (kZ K) a0) (ht0 : aJ (kZ K) t0 8) (σ : zST) (h : m_L_isRefined_10 F w a0 a1 a2 a4 t0 σ = some (r0, τ0)) : Z K cs ss 10 [(0, .ref (eA (kZ K) a0)), (1, .int a1), (2, .long a2), (4, .int a4)] [.ref (eA (kZ K) t0)] σ := by
  unfold m_L_isRefined_10 at h
  refine Z_astore hk (lv' := [(5, .ref (eA (kZ K) t0)), (0, .ref (eA (kZ K) a0)), (1, .int a1), (2, .long a2), (4, .int a4)]) dL_isRefined_10 (by decide) rfl ?_
  refine Z_bipush hk dL_isRefined_12 zc_bipush_8 ?_
  obtain ⟨s6, e7, h⟩ := nm_get h
  refine Z_newI hk hw (N := 8) wd_L_isRefined_1 (by decide) (by decide +kernel) (Nat.le_of_ble_eq_true rfl) ⟨by show cs + 1 ≤ 18; omega, by show ss + 8 ≤ 112; omega⟩ dL_isRefined_14 (fun K1 hk1 hX1 hw1 haN hl1 hnx1 hq1 => ?_)
  rw [← hX1.ad ha0.cell.1]
  rw [← hX1.ad ht0.1]
  replace ha0 := hX1.atCanonCote ha0
  replace ht0 := hX1.j ht0
  refine Z_eqS e7 ?_
  rw [← hl1] at hfl
  have hnx := hnx1 hnx
  have hq := hq1 _ _ hq
  have hk := hk1
  have hw : eN (kZ K1) = (w + 2) := hw1
  refine Z_sub [1, 2, 3, 4, 0] rfl ?_
  exact w_L_isRefined_16 hk hfl hnx hq hw (cs + 1) (ss + 8) (by omega) (by omega) F a0 a1 a2 a4 t0 (w + 1) ha0 ht0 haN s6 h
set_option maxRecDepth 100000 in
set_option maxHeartbeats 4000000 in
theorem w_L_isRefined {K : zK} {w : Nat} (hk : zIs K RL cL_isRefined 15 wsL_isRefined (some .boolean) r_L_isRefined) (hfl : (kL K).stackTraces = false) (hnx : zNX K) {r0 : Int32} {τ0 : zST} (hq : zQG K (.inr (some (.int r0))) τ0) (hw : eN (kZ K) = w) (F : Nat) (a0 : Nat) (a1 : Int32) (a2 : Int64) (ha0 : atCanonCote (kZ K) a0) (σ : zST) (h : m_L_isRefined F w a0 a1 a2 σ = some (r0, τ0)) : Z K 0 0 0 [(0, .ref (eA (kZ K) a0)), (1, .int a1), (2, .long a2)] [] σ := by
  unfold m_L_isRefined at h
  refine Z_lload_n hk 2 dL_isRefined_0 rfl rfl ?_
  obtain ⟨x1, s2, h3, h⟩ := bd_ok h
  refine Z_callT 1 hk [.long a2] (c_L_size hk.loc hk.inj F a2 σ h3) gL_isRefined_L_size rfl ⟨rfl, rfl⟩ (by decide +kernel) ⟨Nat.le_of_ble_eq_true rfl, Nat.le_of_ble_eq_true rfl⟩ rfl rfl (Nat.le_of_ble_eq_true rfl) ⟨by show 0 + 0 ≤ 18; omega, by show 0 + 0 ≤ 112; omega⟩ dL_isRefined_1 ?_
  show Z K 0 0 4 [(0, .ref (eA (kZ K) a0)), (1, .int a1), (2, .long a2)] [.int x1] s2
  refine Z_istore hk (lv' := [(4, .int x1), (0, .ref (eA (kZ K) a0)), (1, .int a1), (2, .long a2)]) dL_isRefined_4 (by decide) rfl ?_
  refine Z_bipush hk dL_isRefined_6 zc_bipush_8 ?_
  obtain ⟨s4, e5, h⟩ := nm_get h
  refine Z_newJ hk hw (N := 8) wd_L_isRefined_0 (by decide) (by decide +kernel) (Nat.le_of_ble_eq_true rfl) ⟨by show 0 + 1 ≤ 18; omega, by show 0 + 8 ≤ 112; omega⟩ dL_isRefined_8 (fun K1 hk1 hX1 hw1 haN hl1 hnx1 hq1 => ?_)
  rw [← hX1.ad ha0.cell.1]
  replace ha0 := hX1.atCanonCote ha0
  refine Z_eqS e5 ?_
  rw [← hl1] at hfl
  have hnx := hnx1 hnx
  have hq := hq1 _ _ hq
  have hk := hk1
  have hw : eN (kZ K1) = (w + 1) := hw1
  refine Z_sub [1, 2, 3, 0] rfl ?_
  exact w_L_isRefined_10 hk hfl hnx hq hw 1 8 (by omega) (by omega) F a0 a1 a2 x1 w ha0 haN s4 h
theorem c_L_isRefined {l : Launch} {E : zE} (hL : eL E) (hJ : eJ E) (hfl : l.stackTraces = false) (F w : Nat) (hw : eN E = w) (a0 : Nat) (a1 : Int32) (a2 : Int64) (ha0 : atCanonCote E a0) (σ : zST) {r0 : Int32} {τ0 : zST} (h : m_L_isRefined F w a0 a1 a2 σ = some (r0, τ0)) : CtX l yL_isRefined wsL_isRefined r_L_isRefined E [.ref (eA E a0), .int a1, .long a2] σ (.inr (some (.int r0))) τ0 := by
  refine CtX_of (by decide) rfl hL hJ (Nat.le_of_ble_eq_true rfl) (fun K hE hl hk hnx hq => ?_)
  subst hE
  subst hl
  exact w_L_isRefined hk hfl hnx (zQG.of hq) hw F a0 a1 a2 ha0 σ h
end

-- CanonCoteLaw.isGraph (LCanonCote;IJ)Z
section
theorem dL_isGraph_0 : decode cL_isGraph 0 = .ok (.lload_n 2, 1) := by decide +kernel
theorem dL_isGraph_1 : decode cL_isGraph 1 = .ok (.invokestatic 23, 3) := by decide +kernel
theorem dL_isGraph_4 : decode cL_isGraph 4 = .ok (.istore 4, 2) := by decide +kernel
theorem dL_isGraph_6 : decode cL_isGraph 6 = .ok (.iconst 0, 1) := by decide +kernel
theorem dL_isGraph_7 : decode cL_isGraph 7 = .ok (.istore 5, 2) := by decide +kernel
theorem dL_isGraph_9 : decode cL_isGraph 9 = .ok (.lload_n 2, 1) := by decide +kernel
theorem dL_isGraph_10 : decode cL_isGraph 10 = .ok (.invokestatic 61, 3) := by decide +kernel
theorem dL_isGraph_13 : decode cL_isGraph 13 = .ok (.istore 6, 2) := by decide +kernel
theorem dL_isGraph_15 : decode cL_isGraph 15 = .ok (.aload_n 0, 1) := by decide +kernel
theorem dL_isGraph_16 : decode cL_isGraph 16 = .ok (.iload_n 1, 1) := by decide +kernel
theorem dL_isGraph_17 : decode cL_isGraph 17 = .ok (.invokevirtual 64, 3) := by decide +kernel
theorem dL_isGraph_20 : decode cL_isGraph 20 = .ok (.iload 4, 2) := by decide +kernel
theorem dL_isGraph_22 : decode cL_isGraph 22 = .ok (.if_icmp .ne 22, 3) := by decide +kernel
theorem dL_isGraph_25 : decode cL_isGraph 25 = .ok (.aload_n 0, 1) := by decide +kernel
theorem dL_isGraph_26 : decode cL_isGraph 26 = .ok (.iload_n 1, 1) := by decide +kernel
theorem dL_isGraph_27 : decode cL_isGraph 27 = .ok (.invokevirtual 66, 3) := by decide +kernel
theorem dL_isGraph_30 : decode cL_isGraph 30 = .ok (.lload_n 2, 1) := by decide +kernel
theorem dL_isGraph_31 : decode cL_isGraph 31 = .ok (.iload 6, 2) := by decide +kernel
theorem dL_isGraph_33 : decode cL_isGraph 33 = .ok (.invokestatic 43, 3) := by decide +kernel
theorem dL_isGraph_36 : decode cL_isGraph 36 = .ok (.lcmp, 1) := by decide +kernel
theorem dL_isGraph_37 : decode cL_isGraph 37 = .ok (.ifCond .ne 7, 3) := by decide +kernel
theorem dL_isGraph_40 : decode cL_isGraph 40 = .ok (.iconst 1, 1) := by decide +kernel
theorem dL_isGraph_41 : decode cL_isGraph 41 = .ok (.goto 4, 3) := by decide +kernel
theorem dL_isGraph_44 : decode cL_isGraph 44 = .ok (.iconst 0, 1) := by decide +kernel
theorem dL_isGraph_45 : decode cL_isGraph 45 = .ok (.istore 7, 2) := by decide +kernel
theorem dL_isGraph_47 : decode cL_isGraph 47 = .ok (.iconst 0, 1) := by decide +kernel
theorem dL_isGraph_48 : decode cL_isGraph 48 = .ok (.istore 8, 2) := by decide +kernel
theorem dL_isGraph_50 : decode cL_isGraph 50 = .ok (.iload 8, 2) := by decide +kernel
theorem dL_isGraph_52 : decode cL_isGraph 52 = .ok (.iload 4, 2) := by decide +kernel
theorem dL_isGraph_54 : decode cL_isGraph 54 = .ok (.if_icmp .ge 139, 3) := by decide +kernel
theorem dL_isGraph_57 : decode cL_isGraph 57 = .ok (.iload 7, 2) := by decide +kernel
theorem dL_isGraph_59 : decode cL_isGraph 59 = .ok (.ifCond .eq 134, 3) := by decide +kernel
theorem dL_isGraph_62 : decode cL_isGraph 62 = .ok (.iconst 0, 1) := by decide +kernel
theorem dL_isGraph_63 : decode cL_isGraph 63 = .ok (.istore 9, 2) := by decide +kernel
theorem dL_isGraph_65 : decode cL_isGraph 65 = .ok (.iconst 0, 1) := by decide +kernel
theorem dL_isGraph_66 : decode cL_isGraph 66 = .ok (.istore 10, 2) := by decide +kernel
theorem dL_isGraph_68 : decode cL_isGraph 68 = .ok (.iload 10, 2) := by decide +kernel
theorem dL_isGraph_70 : decode cL_isGraph 70 = .ok (.iload 4, 2) := by decide +kernel
theorem dL_isGraph_72 : decode cL_isGraph 72 = .ok (.if_icmp .ge 61, 3) := by decide +kernel
theorem dL_isGraph_75 : decode cL_isGraph 75 = .ok (.iload 9, 2) := by decide +kernel
theorem dL_isGraph_77 : decode cL_isGraph 77 = .ok (.lload_n 2, 1) := by decide +kernel
theorem dL_isGraph_78 : decode cL_isGraph 78 = .ok (.iload 8, 2) := by decide +kernel
theorem dL_isGraph_80 : decode cL_isGraph 80 = .ok (.iload 10, 2) := by decide +kernel
theorem dL_isGraph_82 : decode cL_isGraph 82 = .ok (.invokestatic 39, 3) := by decide +kernel
theorem dL_isGraph_85 : decode cL_isGraph 85 = .ok (.ifCond .eq 10, 3) := by decide +kernel
theorem dL_isGraph_88 : decode cL_isGraph 88 = .ok (.iconst 1, 1) := by decide +kernel
theorem dL_isGraph_89 : decode cL_isGraph 89 = .ok (.iload 10, 2) := by decide +kernel
theorem dL_isGraph_91 : decode cL_isGraph 91 = .ok (.ishl, 1) := by decide +kernel
theorem dL_isGraph_92 : decode cL_isGraph 92 = .ok (.goto 4, 3) := by decide +kernel
theorem dL_isGraph_95 : decode cL_isGraph 95 = .ok (.iconst 0, 1) := by decide +kernel
theorem dL_isGraph_96 : decode cL_isGraph 96 = .ok (.ior, 1) := by decide +kernel
theorem dL_isGraph_97 : decode cL_isGraph 97 = .ok (.istore 9, 2) := by decide +kernel
theorem dL_isGraph_99 : decode cL_isGraph 99 = .ok (.iload 5, 2) := by decide +kernel
theorem dL_isGraph_101 : decode cL_isGraph 101 = .ok (.iload 10, 2) := by decide +kernel
theorem dL_isGraph_103 : decode cL_isGraph 103 = .ok (.iload 8, 2) := by decide +kernel
theorem dL_isGraph_105 : decode cL_isGraph 105 = .ok (.if_icmp .ge 18, 3) := by decide +kernel
theorem dL_isGraph_108 : decode cL_isGraph 108 = .ok (.lload_n 2, 1) := by decide +kernel
theorem dL_isGraph_109 : decode cL_isGraph 109 = .ok (.iload 8, 2) := by decide +kernel
theorem dL_isGraph_111 : decode cL_isGraph 111 = .ok (.iload 10, 2) := by decide +kernel
theorem dL_isGraph_113 : decode cL_isGraph 113 = .ok (.invokestatic 39, 3) := by decide +kernel
theorem dL_isGraph_116 : decode cL_isGraph 116 = .ok (.ifCond .eq 7, 3) := by decide +kernel
theorem dL_isGraph_119 : decode cL_isGraph 119 = .ok (.iconst 1, 1) := by decide +kernel
theorem dL_isGraph_120 : decode cL_isGraph 120 = .ok (.goto 4, 3) := by decide +kernel
theorem dL_isGraph_123 : decode cL_isGraph 123 = .ok (.iconst 0, 1) := by decide +kernel
theorem dL_isGraph_124 : decode cL_isGraph 124 = .ok (.iadd, 1) := by decide +kernel
theorem dL_isGraph_125 : decode cL_isGraph 125 = .ok (.istore 5, 2) := by decide +kernel
theorem dL_isGraph_127 : decode cL_isGraph 127 = .ok (.iinc 10 1, 3) := by decide +kernel
theorem dL_isGraph_130 : decode cL_isGraph 130 = .ok (.goto (-62), 3) := by decide +kernel
theorem dL_isGraph_133 : decode cL_isGraph 133 = .ok (.aload_n 0, 1) := by decide +kernel
theorem dL_isGraph_134 : decode cL_isGraph 134 = .ok (.iload_n 1, 1) := by decide +kernel
theorem dL_isGraph_135 : decode cL_isGraph 135 = .ok (.iload 8, 2) := by decide +kernel
theorem dL_isGraph_137 : decode cL_isGraph 137 = .ok (.invokevirtual 70, 3) := by decide +kernel
theorem dL_isGraph_140 : decode cL_isGraph 140 = .ok (.iload 9, 2) := by decide +kernel
theorem dL_isGraph_142 : decode cL_isGraph 142 = .ok (.if_icmp .ne 42, 3) := by decide +kernel
theorem dL_isGraph_145 : decode cL_isGraph 145 = .ok (.aload_n 0, 1) := by decide +kernel
theorem dL_isGraph_146 : decode cL_isGraph 146 = .ok (.iload_n 1, 1) := by decide +kernel
theorem dL_isGraph_147 : decode cL_isGraph 147 = .ok (.iload 8, 2) := by decide +kernel
theorem dL_isGraph_149 : decode cL_isGraph 149 = .ok (.invokevirtual 73, 3) := by decide +kernel
theorem dL_isGraph_152 : decode cL_isGraph 152 = .ok (.lload_n 2, 1) := by decide +kernel
theorem dL_isGraph_153 : decode cL_isGraph 153 = .ok (.iload 8, 2) := by decide +kernel
theorem dL_isGraph_155 : decode cL_isGraph 155 = .ok (.invokestatic 31, 3) := by decide +kernel
theorem dL_isGraph_158 : decode cL_isGraph 158 = .ok (.if_icmp .ne 26, 3) := by decide +kernel
theorem dL_isGraph_161 : decode cL_isGraph 161 = .ok (.aload_n 0, 1) := by decide +kernel
theorem dL_isGraph_162 : decode cL_isGraph 162 = .ok (.iload_n 1, 1) := by decide +kernel
theorem dL_isGraph_163 : decode cL_isGraph 163 = .ok (.iload 8, 2) := by decide +kernel
theorem dL_isGraph_165 : decode cL_isGraph 165 = .ok (.invokevirtual 75, 3) := by decide +kernel
theorem dL_isGraph_168 : decode cL_isGraph 168 = .ok (.iload 4, 2) := by decide +kernel
theorem dL_isGraph_170 : decode cL_isGraph 170 = .ok (.iload 6, 2) := by decide +kernel
theorem dL_isGraph_172 : decode cL_isGraph 172 = .ok (.iload 8, 2) := by decide +kernel
theorem dL_isGraph_174 : decode cL_isGraph 174 = .ok (.invokestatic 27, 3) := by decide +kernel
theorem dL_isGraph_177 : decode cL_isGraph 177 = .ok (.if_icmp .ne 7, 3) := by decide +kernel
theorem dL_isGraph_180 : decode cL_isGraph 180 = .ok (.iconst 1, 1) := by decide +kernel
theorem dL_isGraph_181 : decode cL_isGraph 181 = .ok (.goto 4, 3) := by decide +kernel
theorem dL_isGraph_184 : decode cL_isGraph 184 = .ok (.iconst 0, 1) := by decide +kernel
theorem dL_isGraph_185 : decode cL_isGraph 185 = .ok (.istore 7, 2) := by decide +kernel
theorem dL_isGraph_187 : decode cL_isGraph 187 = .ok (.iinc 8 1, 3) := by decide +kernel
theorem dL_isGraph_190 : decode cL_isGraph 190 = .ok (.goto (-140), 3) := by decide +kernel
theorem dL_isGraph_193 : decode cL_isGraph 193 = .ok (.iload 7, 2) := by decide +kernel
theorem dL_isGraph_195 : decode cL_isGraph 195 = .ok (.ifCond .eq 26, 3) := by decide +kernel
theorem dL_isGraph_198 : decode cL_isGraph 198 = .ok (.aload_n 0, 1) := by decide +kernel
theorem dL_isGraph_199 : decode cL_isGraph 199 = .ok (.iload_n 1, 1) := by decide +kernel
theorem dL_isGraph_200 : decode cL_isGraph 200 = .ok (.invokevirtual 78, 3) := by decide +kernel
theorem dL_isGraph_203 : decode cL_isGraph 203 = .ok (.iload 5, 2) := by decide +kernel
theorem dL_isGraph_205 : decode cL_isGraph 205 = .ok (.if_icmp .ne 16, 3) := by decide +kernel
theorem dL_isGraph_208 : decode cL_isGraph 208 = .ok (.aload_n 0, 1) := by decide +kernel
theorem dL_isGraph_209 : decode cL_isGraph 209 = .ok (.iload_n 1, 1) := by decide +kernel
theorem dL_isGraph_210 : decode cL_isGraph 210 = .ok (.lload_n 2, 1) := by decide +kernel
theorem dL_isGraph_211 : decode cL_isGraph 211 = .ok (.invokestatic 81, 3) := by decide +kernel
theorem dL_isGraph_214 : decode cL_isGraph 214 = .ok (.ifCond .eq 7, 3) := by decide +kernel
theorem dL_isGraph_217 : decode cL_isGraph 217 = .ok (.iconst 1, 1) := by decide +kernel
theorem dL_isGraph_218 : decode cL_isGraph 218 = .ok (.goto 4, 3) := by decide +kernel
theorem dL_isGraph_221 : decode cL_isGraph 221 = .ok (.iconst 0, 1) := by decide +kernel
theorem dL_isGraph_222 : decode cL_isGraph 222 = .ok (.ireturn, 1) := by decide +kernel
set_option maxRecDepth 20000 in
theorem ggL_isGraph_L_size : GoodIn wsL_isGraph wsL_size := goodIn_r _ [4] (by decide +kernel) (by decide +kernel)
set_option maxRecDepth 20000 in
theorem gL_isGraph_L_size : GoodIn wsL_isGraph (va_wsS RL 23 yL_size wsL_size) := goodIn_app (goodIn_of _ (by decide +kernel)) ggL_isGraph_L_size
set_option maxRecDepth 20000 in
theorem ggL_isGraph_L_least : GoodIn wsL_isGraph wsL_least := goodIn_r _ [7, 1, 2, 3, 4, 8, 9, 10, 11, 12, 13, 14, 15, 16, 17, 18, 19, 20, 21, 22, 23, 24, 25, 26, 27, 28, 29, 30, 31] (by decide +kernel) (by decide +kernel)
set_option maxRecDepth 20000 in
theorem gL_isGraph_L_least : GoodIn wsL_isGraph (va_wsS RL 61 yL_least wsL_least) := goodIn_app (goodIn_of _ (by decide +kernel)) ggL_isGraph_L_least
set_option maxRecDepth 20000 in
theorem ggL_isGraph_X7_size : GoodIn wsL_isGraph wsX7_size := goodIn_ca (goodIn_r _ [36, 37, 38, 39, 35, 40, 41, 42, 43, 186, 187, 188, 189, 190, 191, 192, 193, 194] (by decide +kernel) (by decide +kernel)) (goodIn_sub (fun _ h => List.mem_cons_of_mem _ (List.mem_append_right _ h)) (by decide +kernel))
set_option maxRecDepth 20000 in
theorem gL_isGraph_X7_size : GoodIn wsL_isGraph (wsV RL 64 RX7 yX7_size wsX7_size) := goodIn_app (goodIn_of _ (by decide +kernel)) ggL_isGraph_X7_size
set_option maxRecDepth 20000 in
theorem ggL_isGraph_X7_form : GoodIn wsL_isGraph wsX7_form := goodIn_ca (goodIn_r _ [47, 37, 38, 39, 35, 40, 41, 42, 43, 48, 49, 50, 51, 52, 53, 54, 55, 56, 57, 58, 59, 60, 61, 62, 63, 64, 65, 66, 67, 68, 69, 70, 71, 72, 73, 74, 75, 76, 77, 78, 79, 80, 81, 82, 83, 84, 85, 86, 87, 88, 89, 90, 91, 92, 93, 94, 95, 96, 97, 98, 99, 100, 101, 102, 103, 104, 105, 106, 107, 108, 109, 110, 111, 112, 113, 114, 115, 116, 117, 118, 189, 190, 191, 192, 193, 194, 195, 196, 197, 198, 199, 200, 201, 186, 187, 188] (by decide +kernel) (by decide +kernel)) (goodIn_sub (fun _ h => List.mem_cons_of_mem _ (List.mem_append_right _ h)) (by decide +kernel))
set_option maxRecDepth 20000 in
theorem gL_isGraph_X7_form : GoodIn wsL_isGraph (wsV RL 66 RX7 yX7_form wsX7_form) := goodIn_app (goodIn_of _ (by decide +kernel)) ggL_isGraph_X7_form
set_option maxRecDepth 20000 in
theorem ggL_isGraph_L_put : GoodIn wsL_isGraph wsL_put := goodIn_r _ [13, 14, 1, 2, 3, 4, 15, 16, 17, 8, 9, 10, 18, 19, 20, 21, 22, 23, 24, 25, 26, 27, 28, 29, 30, 31] (by decide +kernel) (by decide +kernel)
set_option maxRecDepth 20000 in
theorem gL_isGraph_L_put : GoodIn wsL_isGraph (va_wsS RL 43 yL_put wsL_put) := goodIn_app (goodIn_of _ (by decide +kernel)) ggL_isGraph_L_put
set_option maxRecDepth 20000 in
theorem ggL_isGraph_L_edge : GoodIn wsL_isGraph wsL_edge := goodIn_r _ [28, 29, 30, 3, 31] (by decide +kernel) (by decide +kernel)
set_option maxRecDepth 20000 in
theorem gL_isGraph_L_edge : GoodIn wsL_isGraph (va_wsS RL 39 yL_edge wsL_edge) := goodIn_app (goodIn_of _ (by decide +kernel)) ggL_isGraph_L_edge
set_option maxRecDepth 20000 in
theorem ggL_isGraph_X7_neighbours : GoodIn wsL_isGraph wsX7_neighbours := goodIn_ca (goodIn_r _ [122, 37, 38, 39, 35, 40, 41, 42, 43, 123, 124, 125, 186, 187, 188, 189, 190, 191, 192, 193, 194] (by decide +kernel) (by decide +kernel)) (goodIn_sub (fun _ h => List.mem_cons_of_mem _ (List.mem_append_right _ h)) (by decide +kernel))
set_option maxRecDepth 20000 in
theorem gL_isGraph_X7_neighbours : GoodIn wsL_isGraph (wsV RL 70 RX7 yX7_neighbours wsX7_neighbours) := goodIn_app (goodIn_of _ (by decide +kernel)) ggL_isGraph_X7_neighbours
set_option maxRecDepth 20000 in
theorem ggL_isGraph_X7_colour : GoodIn wsL_isGraph wsX7_colour := goodIn_ca (goodIn_r _ [129, 37, 38, 39, 35, 40, 41, 42, 43, 123, 124, 125, 186, 187, 188, 189, 190, 191, 192, 193, 194] (by decide +kernel) (by decide +kernel)) (goodIn_sub (fun _ h => List.mem_cons_of_mem _ (List.mem_append_right _ h)) (by decide +kernel))
set_option maxRecDepth 20000 in
theorem gL_isGraph_X7_colour : GoodIn wsL_isGraph (wsV RL 73 RX7 yX7_colour wsX7_colour) := goodIn_app (goodIn_of _ (by decide +kernel)) ggL_isGraph_X7_colour
set_option maxRecDepth 20000 in
theorem ggL_isGraph_L_colour : GoodIn wsL_isGraph wsL_colour := goodIn_r _ [20, 21] (by decide +kernel) (by decide +kernel)
set_option maxRecDepth 20000 in
theorem gL_isGraph_L_colour : GoodIn wsL_isGraph (va_wsS RL 31 yL_colour wsL_colour) := goodIn_app (goodIn_of _ (by decide +kernel)) ggL_isGraph_L_colour
set_option maxRecDepth 20000 in
theorem ggL_isGraph_X7_placeOf : GoodIn wsL_isGraph wsX7_placeOf := goodIn_ca (goodIn_r _ [133, 52, 37, 38, 39, 35, 40, 41, 42, 43, 123, 124, 125, 53, 54, 55, 56, 57, 58, 59, 60, 61, 62, 63, 64, 65, 66, 67, 68, 69, 70, 71, 72, 73, 74, 75, 76, 77, 78, 79, 80, 81, 82, 83, 84, 85, 86, 87, 88, 89, 90, 91, 92, 93, 94, 95, 96, 97, 98, 99, 100, 101, 102, 103, 104, 105, 106, 107, 108, 109, 110, 111, 116, 117, 118, 189, 190, 191, 192, 193, 194, 186, 187, 188, 195, 196, 197, 198, 199, 200, 201] (by decide +kernel) (by decide +kernel)) (goodIn_sub (fun _ h => List.mem_cons_of_mem _ (List.mem_append_right _ h)) (by decide +kernel))
set_option maxRecDepth 20000 in
theorem gL_isGraph_X7_placeOf : GoodIn wsL_isGraph (wsV RL 75 RX7 yX7_placeOf wsX7_placeOf) := goodIn_app (goodIn_of _ (by decide +kernel)) ggL_isGraph_X7_placeOf
set_option maxRecDepth 20000 in
theorem ggL_isGraph_L_image : GoodIn wsL_isGraph wsL_image := goodIn_r _ [17, 8, 9, 3, 10] (by decide +kernel) (by decide +kernel)
set_option maxRecDepth 20000 in
theorem gL_isGraph_L_image : GoodIn wsL_isGraph (va_wsS RL 27 yL_image wsL_image) := goodIn_app (goodIn_of _ (by decide +kernel)) ggL_isGraph_L_image
set_option maxRecDepth 20000 in
theorem ggL_isGraph_X7_edges : GoodIn wsL_isGraph wsX7_edges := goodIn_ca (goodIn_r _ [137, 37, 38, 39, 35, 40, 41, 42, 43, 138, 65, 139, 140, 141, 69, 142, 76, 77, 78, 79, 80, 81, 189, 190, 191, 192, 193, 194, 186, 187, 188] (by decide +kernel) (by decide +kernel)) (goodIn_sub (fun _ h => List.mem_cons_of_mem _ (List.mem_append_right _ h)) (by decide +kernel))
set_option maxRecDepth 20000 in
theorem gL_isGraph_X7_edges : GoodIn wsL_isGraph (wsV RL 78 RX7 yX7_edges wsX7_edges) := goodIn_app (goodIn_of _ (by decide +kernel)) ggL_isGraph_X7_edges
set_option maxRecDepth 20000 in
theorem ggL_isGraph_L_isRefined : GoodIn wsL_isGraph wsL_isRefined := goodIn_ca (goodIn_r _ [145, 146, 14, 147, 1, 2, 3, 4, 18, 19, 20, 21, 26, 27, 28, 29, 30, 31, 148, 149, 150, 35, 151, 152, 37, 38, 39, 40, 41, 42, 43, 153, 154, 155, 156, 157, 158, 159, 160, 161, 162, 163, 164, 165, 166, 167, 168, 169, 170, 76, 77, 78, 79, 80, 81, 171, 100, 101, 102, 172, 173, 174, 175, 176, 177, 178, 179, 180, 181, 182, 183, 184, 185, 123, 124, 125, 189, 190, 191, 192, 193, 194, 202, 203, 204, 205, 206, 186, 187, 188] (by decide +kernel) (by decide +kernel)) (goodIn_sub (fun _ h => List.mem_cons_of_mem _ (List.mem_append_right _ h)) (by decide +kernel))
set_option maxRecDepth 20000 in
theorem gL_isGraph_L_isRefined : GoodIn wsL_isGraph (va_wsS RL 81 yL_isRefined wsL_isRefined) := goodIn_app (goodIn_of _ (by decide +kernel)) ggL_isGraph_L_isRefined
def r_L_isGraph : Room := { frames := 16, cells := 185, slots := 1358, locals := 395 }
set_option maxRecDepth 100000 in
set_option maxHeartbeats 4000000 in
theorem w_L_isGraph_124 {K : zK} {w : Nat} (hk : zIs K RL cL_isGraph 11 wsL_isGraph (some .boolean) r_L_isGraph) (hfl : (kL K).stackTraces = false) (hnx : zNX K) {r0 : Int32} {τ0 : zST} (hq : zQG K (.inr (some (.int r0))) τ0) (hw : eN (kZ K) = w) (cs ss : Nat) (C S : Nat) (hr1 : cs + 0 ≤ C) (hr2 : ss + 0 ≤ S) (hb1 : cs + 0 ≤ 185) (hb2 : ss + 0 ≤ 1358) (F : Nat) (k50 : Nat → Int32 → Int64 → Int32 → Int32 → Int32 → Int32 → Int32 → zST → Option (Int32 × zST)) (hk50 : ∀ (a0 : Nat) (a1 : Int32) (a2 : Int64) (a4 : Int32) (a5 : Int32) (a6 : Int32) (a7 : Int32) (a8 : Int32) (ha0 : atCanonCote (kZ K) a0) (σ : zST), k50 a0 a1 a2 a4 a5 a6 a7 a8 σ = some (r0, τ0) → Z K C S 50 [(0, .ref (eA (kZ K) a0)), (1, .int a1), (2, .long a2), (4, .int a4), (5, .int a5), (6, .int a6), (7, .int a7), (8, .int a8)] [] σ) (k68 : Nat → Int32 → Int64 → Int32 → Int32 → Int32 → Int32 → Int32 → Int32 → zST → Option (Int32 × zST)) (hk68 : ∀ (a0 : Nat) (a1 : Int32) (a2 : Int64) (a4 : Int32) (a5 : Int32) (a6 : Int32) (a8 : Int32) (a9 : Int32) (a10 : Int32) (ha0 : atCanonCote (kZ K) a0) (σ : zST), k68 a0 a1 a2 a4 a5 a6 a8 a9 a10 σ = some (r0, τ0) → Z K cs ss 68 [(0, .ref (eA (kZ K) a0)), (1, .int a1), (2, .long a2), (4, .int a4), (5, .int a5), (6, .int a6), (8, .int a8), (9, .int a9), (10, .int a10)] [] σ) (a0 : Nat) (a1 : Int32) (a2 : Int64) (a4 : Int32) (a6 : Int32) (a8 : Int32) (a9 : Int32) (a10 : Int32) (t0 : Int32) (t1 : Int32) (ha0 : atCanonCote (kZ K) a0) (σ : zST) (h : m_L_isGraph_124 F w k50 k68 a0 a1 a2 a4 a6 a8 a9 a10 t0 t1 σ = some (r0, τ0)) : Z K cs ss 124 [(0, .ref (eA (kZ K) a0)), (1, .int a1), (2, .long a2), (4, .int a4), (6, .int a6), (8, .int a8), (9, .int a9), (10, .int a10)] [.int t0, .int t1] σ := by
  unfold m_L_isGraph_124 at h
  refine Z_iadd hk dL_isGraph_124 ?_
  obtain ⟨x61, e62, h⟩ := nm_get h
  refine Z_eqI e62 ?_
  refine Z_istore hk (lv' := [(5, .int x61), (0, .ref (eA (kZ K) a0)), (1, .int a1), (2, .long a2), (4, .int a4), (6, .int a6), (8, .int a8), (9, .int a9), (10, .int a10)]) dL_isGraph_125 (by decide) rfl ?_
  obtain ⟨x63, e64, h⟩ := nm_get h
  refine Z_iinc hk 8 (v := x63) (lv' := [(10, .int x63), (5, .int x61), (0, .ref (eA (kZ K) a0)), (1, .int a1), (2, .long a2), (4, .int a4), (6, .int a6), (8, .int a8), (9, .int a9)]) dL_isGraph_127 rfl (by rw [zc_iinc_1]; exact e64) (by decide) rfl ?_
  refine Z_goto hk (tgt := 68) dL_isGraph_130 (by decide) ?_
  refine Z_sub [2, 3, 4, 5, 1, 6, 7, 8, 0] rfl ?_
  exact hk68 a0 a1 a2 a4 x61 a6 a8 a9 x63 ha0 σ h
set_option maxRecDepth 100000 in
set_option maxHeartbeats 4000000 in
theorem w_L_isGraph_123 {K : zK} {w : Nat} (hk : zIs K RL cL_isGraph 11 wsL_isGraph (some .boolean) r_L_isGraph) (hfl : (kL K).stackTraces = false) (hnx : zNX K) {r0 : Int32} {τ0 : zST} (hq : zQG K (.inr (some (.int r0))) τ0) (hw : eN (kZ K) = w) (cs ss : Nat) (C S : Nat) (hr1 : cs + 0 ≤ C) (hr2 : ss + 0 ≤ S) (hb1 : cs + 0 ≤ 185) (hb2 : ss + 0 ≤ 1358) (F : Nat) (k50 : Nat → Int32 → Int64 → Int32 → Int32 → Int32 → Int32 → Int32 → zST → Option (Int32 × zST)) (hk50 : ∀ (a0 : Nat) (a1 : Int32) (a2 : Int64) (a4 : Int32) (a5 : Int32) (a6 : Int32) (a7 : Int32) (a8 : Int32) (ha0 : atCanonCote (kZ K) a0) (σ : zST), k50 a0 a1 a2 a4 a5 a6 a7 a8 σ = some (r0, τ0) → Z K C S 50 [(0, .ref (eA (kZ K) a0)), (1, .int a1), (2, .long a2), (4, .int a4), (5, .int a5), (6, .int a6), (7, .int a7), (8, .int a8)] [] σ) (k68 : Nat → Int32 → Int64 → Int32 → Int32 → Int32 → Int32 → Int32 → Int32 → zST → Option (Int32 × zST)) (hk68 : ∀ (a0 : Nat) (a1 : Int32) (a2 : Int64) (a4 : Int32) (a5 : Int32) (a6 : Int32) (a8 : Int32) (a9 : Int32) (a10 : Int32) (ha0 : atCanonCote (kZ K) a0) (σ : zST), k68 a0 a1 a2 a4 a5 a6 a8 a9 a10 σ = some (r0, τ0) → Z K cs ss 68 [(0, .ref (eA (kZ K) a0)), (1, .int a1), (2, .long a2), (4, .int a4), (5, .int a5), (6, .int a6), (8, .int a8), (9, .int a9), (10, .int a10)] [] σ) (a0 : Nat) (a1 : Int32) (a2 : Int64) (a4 : Int32) (a6 : Int32) (a8 : Int32) (a9 : Int32) (a10 : Int32) (t0 : Int32) (ha0 : atCanonCote (kZ K) a0) (σ : zST) (h : m_L_isGraph_123 F w k50 k68 a0 a1 a2 a4 a6 a8 a9 a10 t0 σ = some (r0, τ0)) : Z K cs ss 123 [(0, .ref (eA (kZ K) a0)), (1, .int a1), (2, .long a2), (4, .int a4), (6, .int a6), (8, .int a8), (9, .int a9), (10, .int a10)] [.int t0] σ := by
  unfold m_L_isGraph_123 at h
  refine Z_iconst hk dL_isGraph_123 zc_iconst_0 ?_
  refine Z_sub [0, 1, 2, 3, 4, 5, 6, 7] rfl ?_
  exact w_L_isGraph_124 hk hfl hnx hq hw cs ss C S (by omega) (by omega) (by omega) (by omega) F k50 hk50 k68 hk68 a0 a1 a2 a4 a6 a8 a9 a10 0 t0 ha0 σ h
set_option maxRecDepth 100000 in
set_option maxHeartbeats 4000000 in
theorem w_L_isGraph_96 {K : zK} {w : Nat} (hk : zIs K RL cL_isGraph 11 wsL_isGraph (some .boolean) r_L_isGraph) (hfl : (kL K).stackTraces = false) (hnx : zNX K) {r0 : Int32} {τ0 : zST} (hq : zQG K (.inr (some (.int r0))) τ0) (hw : eN (kZ K) = w) (cs ss : Nat) (C S : Nat) (hr1 : cs + 0 ≤ C) (hr2 : ss + 0 ≤ S) (hb1 : cs + 0 ≤ 185) (hb2 : ss + 0 ≤ 1358) (F : Nat) (k50 : Nat → Int32 → Int64 → Int32 → Int32 → Int32 → Int32 → Int32 → zST → Option (Int32 × zST)) (hk50 : ∀ (a0 : Nat) (a1 : Int32) (a2 : Int64) (a4 : Int32) (a5 : Int32) (a6 : Int32) (a7 : Int32) (a8 : Int32) (ha0 : atCanonCote (kZ K) a0) (σ : zST), k50 a0 a1 a2 a4 a5 a6 a7 a8 σ = some (r0, τ0) → Z K C S 50 [(0, .ref (eA (kZ K) a0)), (1, .int a1), (2, .long a2), (4, .int a4), (5, .int a5), (6, .int a6), (7, .int a7), (8, .int a8)] [] σ) (k68 : Nat → Int32 → Int64 → Int32 → Int32 → Int32 → Int32 → Int32 → Int32 → zST → Option (Int32 × zST)) (hk68 : ∀ (a0 : Nat) (a1 : Int32) (a2 : Int64) (a4 : Int32) (a5 : Int32) (a6 : Int32) (a8 : Int32) (a9 : Int32) (a10 : Int32) (ha0 : atCanonCote (kZ K) a0) (σ : zST), k68 a0 a1 a2 a4 a5 a6 a8 a9 a10 σ = some (r0, τ0) → Z K cs ss 68 [(0, .ref (eA (kZ K) a0)), (1, .int a1), (2, .long a2), (4, .int a4), (5, .int a5), (6, .int a6), (8, .int a8), (9, .int a9), (10, .int a10)] [] σ) (a0 : Nat) (a1 : Int32) (a2 : Int64) (a4 : Int32) (a5 : Int32) (a6 : Int32) (a8 : Int32) (a10 : Int32) (t0 : Int32) (t1 : Int32) (ha0 : atCanonCote (kZ K) a0) (σ : zST) (h : m_L_isGraph_96 F w k50 k68 a0 a1 a2 a4 a5 a6 a8 a10 t0 t1 σ = some (r0, τ0)) : Z K cs ss 96 [(0, .ref (eA (kZ K) a0)), (1, .int a1), (2, .long a2), (4, .int a4), (5, .int a5), (6, .int a6), (8, .int a8), (10, .int a10)] [.int t0, .int t1] σ := by
  unfold m_L_isGraph_96 at h
  refine Z_ior hk dL_isGraph_96 ?_
  obtain ⟨x54, e55, h⟩ := nm_get h
  refine Z_eqI e55 ?_
  refine Z_istore hk (lv' := [(9, .int x54), (0, .ref (eA (kZ K) a0)), (1, .int a1), (2, .long a2), (4, .int a4), (5, .int a5), (6, .int a6), (8, .int a8), (10, .int a10)]) dL_isGraph_97 (by decide) rfl ?_
  refine Z_iload hk 5 dL_isGraph_99 rfl ?_
  refine Z_iload hk 8 dL_isGraph_101 rfl ?_
  refine Z_iload hk 7 dL_isGraph_103 rfl ?_
  refine Z_icmp_ge hk (tgt := 123) dL_isGraph_105 (by decide) (fun c56 => ?_) (fun c56 => ?_)
  · have h := if_yes h c56
    refine Z_sub [1, 2, 3, 4, 6, 7, 0, 8] rfl ?_
    exact w_L_isGraph_123 hk hfl hnx hq hw cs ss C S (by omega) (by omega) (by omega) (by omega) F k50 hk50 k68 hk68 a0 a1 a2 a4 a6 a8 x54 a10 a5 ha0 σ h
  · have h := if_no h c56
    refine Z_lload_n hk 3 dL_isGraph_108 rfl rfl ?_
    refine Z_iload hk 7 dL_isGraph_109 rfl ?_
    refine Z_iload hk 8 dL_isGraph_111 rfl ?_
    obtain ⟨x57, s58, h59, h⟩ := bd_ok h
    refine Z_callT 3 hk [.long a2, .int a8, .int a10] (c_L_edge hk.loc hk.inj F a2 a8 a10 σ h59) gL_isGraph_L_edge rfl ⟨rfl, rfl⟩ (by decide +kernel) ⟨Nat.le_of_ble_eq_true rfl, Nat.le_of_ble_eq_true rfl⟩ rfl rfl (Nat.le_of_ble_eq_true rfl) ⟨by show cs + 0 ≤ 185; omega, by show ss + 0 ≤ 1358; omega⟩ dL_isGraph_113 ?_
    show Z K cs ss 116 [(9, .int x54), (0, .ref (eA (kZ K) a0)), (1, .int a1), (2, .long a2), (4, .int a4), (5, .int a5), (6, .int a6), (8, .int a8), (10, .int a10)] [.int x57, .int a5] s58
    refine Z_if_eq hk (tgt := 123) dL_isGraph_116 (by decide) (fun c60 => ?_) (fun c60 => ?_)
    · have h := if_yes h c60
      refine Z_sub [1, 2, 3, 4, 6, 7, 0, 8] rfl ?_
      exact w_L_isGraph_123 hk hfl hnx hq hw cs ss C S (by omega) (by omega) (by omega) (by omega) F k50 hk50 k68 hk68 a0 a1 a2 a4 a6 a8 x54 a10 a5 ha0 s58 h
    · have h := if_no h c60
      refine Z_iconst hk dL_isGraph_119 zc_iconst_1 ?_
      refine Z_goto hk (tgt := 124) dL_isGraph_120 (by decide) ?_
      refine Z_sub [1, 2, 3, 4, 6, 7, 0, 8] rfl ?_
      exact w_L_isGraph_124 hk hfl hnx hq hw cs ss C S (by omega) (by omega) (by omega) (by omega) F k50 hk50 k68 hk68 a0 a1 a2 a4 a6 a8 x54 a10 1 a5 ha0 s58 h
set_option maxRecDepth 100000 in
set_option maxHeartbeats 4000000 in
theorem w_L_isGraph_185 {K : zK} {w : Nat} (hk : zIs K RL cL_isGraph 11 wsL_isGraph (some .boolean) r_L_isGraph) (hfl : (kL K).stackTraces = false) (hnx : zNX K) {r0 : Int32} {τ0 : zST} (hq : zQG K (.inr (some (.int r0))) τ0) (hw : eN (kZ K) = w) (cs ss : Nat) (C S : Nat) (hr1 : cs + 0 ≤ C) (hr2 : ss + 0 ≤ S) (hb1 : cs + 0 ≤ 185) (hb2 : ss + 0 ≤ 1358) (F : Nat) (k50 : Nat → Int32 → Int64 → Int32 → Int32 → Int32 → Int32 → Int32 → zST → Option (Int32 × zST)) (hk50 : ∀ (a0 : Nat) (a1 : Int32) (a2 : Int64) (a4 : Int32) (a5 : Int32) (a6 : Int32) (a7 : Int32) (a8 : Int32) (ha0 : atCanonCote (kZ K) a0) (σ : zST), k50 a0 a1 a2 a4 a5 a6 a7 a8 σ = some (r0, τ0) → Z K C S 50 [(0, .ref (eA (kZ K) a0)), (1, .int a1), (2, .long a2), (4, .int a4), (5, .int a5), (6, .int a6), (7, .int a7), (8, .int a8)] [] σ) (a0 : Nat) (a1 : Int32) (a2 : Int64) (a4 : Int32) (a5 : Int32) (a6 : Int32) (a8 : Int32) (t0 : Int32) (ha0 : atCanonCote (kZ K) a0) (σ : zST) (h : m_L_isGraph_185 F w k50 a0 a1 a2 a4 a5 a6 a8 t0 σ = some (r0, τ0)) : Z K cs ss 185 [(0, .ref (eA (kZ K) a0)), (1, .int a1), (2, .long a2), (4, .int a4), (5, .int a5), (6, .int a6), (8, .int a8)] [.int t0] σ := by
  unfold m_L_isGraph_185 at h
  refine Z_istore hk (lv' := [(7, .int t0), (0, .ref (eA (kZ K) a0)), (1, .int a1), (2, .long a2), (4, .int a4), (5, .int a5), (6, .int a6), (8, .int a8)]) dL_isGraph_185 (by decide) rfl ?_
  obtain ⟨x52, e53, h⟩ := nm_get h
  refine Z_iinc hk 7 (v := x52) (lv' := [(8, .int x52), (7, .int t0), (0, .ref (eA (kZ K) a0)), (1, .int a1), (2, .long a2), (4, .int a4), (5, .int a5), (6, .int a6)]) dL_isGraph_187 rfl (by rw [zc_iinc_1]; exact e53) (by decide) rfl ?_
  refine Z_goto hk (tgt := 50) dL_isGraph_190 (by decide) ?_
  refine Z_sub [2, 3, 4, 5, 6, 7, 1, 0] rfl ?_
  refine Z_widen (cs' := C) (ss' := S) (by omega) (by omega) ?_
  exact hk50 a0 a1 a2 a4 a5 a6 t0 x52 ha0 σ h
set_option maxRecDepth 100000 in
set_option maxHeartbeats 4000000 in
theorem w_L_isGraph_184 {K : zK} {w : Nat} (hk : zIs K RL cL_isGraph 11 wsL_isGraph (some .boolean) r_L_isGraph) (hfl : (kL K).stackTraces = false) (hnx : zNX K) {r0 : Int32} {τ0 : zST} (hq : zQG K (.inr (some (.int r0))) τ0) (hw : eN (kZ K) = w) (cs ss : Nat) (C S : Nat) (hr1 : cs + 0 ≤ C) (hr2 : ss + 0 ≤ S) (hb1 : cs + 0 ≤ 185) (hb2 : ss + 0 ≤ 1358) (F : Nat) (k50 : Nat → Int32 → Int64 → Int32 → Int32 → Int32 → Int32 → Int32 → zST → Option (Int32 × zST)) (hk50 : ∀ (a0 : Nat) (a1 : Int32) (a2 : Int64) (a4 : Int32) (a5 : Int32) (a6 : Int32) (a7 : Int32) (a8 : Int32) (ha0 : atCanonCote (kZ K) a0) (σ : zST), k50 a0 a1 a2 a4 a5 a6 a7 a8 σ = some (r0, τ0) → Z K C S 50 [(0, .ref (eA (kZ K) a0)), (1, .int a1), (2, .long a2), (4, .int a4), (5, .int a5), (6, .int a6), (7, .int a7), (8, .int a8)] [] σ) (a0 : Nat) (a1 : Int32) (a2 : Int64) (a4 : Int32) (a5 : Int32) (a6 : Int32) (a8 : Int32) (ha0 : atCanonCote (kZ K) a0) (σ : zST) (h : m_L_isGraph_184 F w k50 a0 a1 a2 a4 a5 a6 a8 σ = some (r0, τ0)) : Z K cs ss 184 [(0, .ref (eA (kZ K) a0)), (1, .int a1), (2, .long a2), (4, .int a4), (5, .int a5), (6, .int a6), (8, .int a8)] [] σ := by
  unfold m_L_isGraph_184 at h
  refine Z_iconst hk dL_isGraph_184 zc_iconst_0 ?_
  refine Z_sub [0, 1, 2, 3, 4, 5, 6] rfl ?_
  exact w_L_isGraph_185 hk hfl hnx hq hw cs ss C S (by omega) (by omega) (by omega) (by omega) F k50 hk50 a0 a1 a2 a4 a5 a6 a8 0 ha0 σ h
set_option maxRecDepth 100000 in
set_option maxHeartbeats 4000000 in
theorem w_L_isGraph_68 {K : zK} {w : Nat} (hk : zIs K RL cL_isGraph 11 wsL_isGraph (some .boolean) r_L_isGraph) (hfl : (kL K).stackTraces = false) (hnx : zNX K) {r0 : Int32} {τ0 : zST} (hq : zQG K (.inr (some (.int r0))) τ0) (hw : eN (kZ K) = w) (cs ss : Nat) (C S : Nat) (hr1 : cs + 6 ≤ C) (hr2 : ss + 36 ≤ S) (hb1 : cs + 0 ≤ 185) (hb2 : ss + 0 ≤ 1358) (F : Nat) (k50 : Nat → Int32 → Int64 → Int32 → Int32 → Int32 → Int32 → Int32 → zST → Option (Int32 × zST)) (hk50 : ∀ (a0 : Nat) (a1 : Int32) (a2 : Int64) (a4 : Int32) (a5 : Int32) (a6 : Int32) (a7 : Int32) (a8 : Int32) (ha0 : atCanonCote (kZ K) a0) (σ : zST), k50 a0 a1 a2 a4 a5 a6 a7 a8 σ = some (r0, τ0) → Z K C S 50 [(0, .ref (eA (kZ K) a0)), (1, .int a1), (2, .long a2), (4, .int a4), (5, .int a5), (6, .int a6), (7, .int a7), (8, .int a8)] [] σ) : ∀ (n : Nat) (a0 : Nat) (a1 : Int32) (a2 : Int64) (a4 : Int32) (a5 : Int32) (a6 : Int32) (a8 : Int32) (a9 : Int32) (a10 : Int32) (ha0 : atCanonCote (kZ K) a0) (σ : zST), m_L_isGraph_68 F w k50 n a0 a1 a2 a4 a5 a6 a8 a9 a10 σ = some (r0, τ0) → Z K cs ss 68 [(0, .ref (eA (kZ K) a0)), (1, .int a1), (2, .long a2), (4, .int a4), (5, .int a5), (6, .int a6), (8, .int a8), (9, .int a9), (10, .int a10)] [] σ := by
  intro n
  induction n with
  | zero => intro a0 a1 a2 a4 a5 a6 a8 a9 a10 ha0 σ h; cases h
  | succ n ih =>
    intro a0 a1 a2 a4 a5 a6 a8 a9 a10 ha0 σ h
    rw [m_L_isGraph_68] at h
    refine Z_iload hk 8 dL_isGraph_68 rfl ?_
    refine Z_iload hk 3 dL_isGraph_70 rfl ?_
    refine Z_icmp_ge hk (tgt := 133) dL_isGraph_72 (by decide) (fun c29 => ?_) (fun c29 => ?_)
    · have h := if_yes h c29
      refine Z_aload_n hk 0 dL_isGraph_133 rfl rfl ?_
      refine Z_iload_n hk 1 dL_isGraph_134 rfl rfl ?_
      refine Z_iload hk 6 dL_isGraph_135 rfl ?_
      obtain ⟨x30, s31, h32, h⟩ := br_ok h
      refine ZX_callV 2 hk [.int a1, .int a8] (c_X7_neighbours hk.loc hk.inj hfl F a0 a1 a8 ha0 σ h32) gL_isGraph_X7_neighbours rfl ⟨rfl, by decide +kernel, by decide +kernel, by decide +kernel⟩ ⟨Nat.le_of_ble_eq_true rfl, Nat.le_of_ble_eq_true rfl⟩ ha0.cell.1 (ha0.cell.2 _) rfl rfl rfl (Nat.le_of_ble_eq_true rfl) ⟨by show cs + 2 ≤ 185; omega, by show ss + 12 ≤ 1358; omega⟩ dL_isGraph_137 (fun X hX => by cases hX) (fun v hv => ?_)
      cases hv
      show Z K (cs + 2) (ss + 12) 140 [(0, .ref (eA (kZ K) a0)), (1, .int a1), (2, .long a2), (4, .int a4), (5, .int a5), (6, .int a6), (8, .int a8), (9, .int a9), (10, .int a10)] [.int x30] s31
      refine Z_iload hk 7 dL_isGraph_140 rfl ?_
      refine Z_icmp_ne hk (tgt := 184) dL_isGraph_142 (by decide) (fun c33 => ?_) (fun c33 => ?_)
      · have h := if_yes h c33
        refine Z_aload_n hk 0 dL_isGraph_145 rfl rfl ?_
        refine Z_iload_n hk 1 dL_isGraph_146 rfl rfl ?_
        refine Z_iload hk 6 dL_isGraph_147 rfl ?_
        obtain ⟨x34, s35, h36, h⟩ := br_ok h
        refine ZX_callV 2 hk [.int a1, .int a8] (c_X7_colour hk.loc hk.inj hfl F a0 a1 a8 ha0 s31 h36) gL_isGraph_X7_colour rfl ⟨rfl, by decide +kernel, by decide +kernel, by decide +kernel⟩ ⟨Nat.le_of_ble_eq_true rfl, Nat.le_of_ble_eq_true rfl⟩ ha0.cell.1 (ha0.cell.2 _) rfl rfl rfl (Nat.le_of_ble_eq_true rfl) ⟨by show (cs + 2) + 2 ≤ 185; omega, by show (ss + 12) + 12 ≤ 1358; omega⟩ dL_isGraph_149 (fun X hX => by cases hX) (fun v hv => ?_)
        cases hv
        show Z K (cs + 4) (ss + 24) 152 [(0, .ref (eA (kZ K) a0)), (1, .int a1), (2, .long a2), (4, .int a4), (5, .int a5), (6, .int a6), (8, .int a8), (9, .int a9), (10, .int a10)] [.int x34] s35
        refine Z_lload_n hk 2 dL_isGraph_152 rfl rfl ?_
        refine Z_iload hk 6 dL_isGraph_153 rfl ?_
        obtain ⟨x37, s38, h39, h⟩ := bd_ok h
        refine Z_callT 2 hk [.long a2, .int a8] (c_L_colour hk.loc hk.inj F a2 a8 s35 h39) gL_isGraph_L_colour rfl ⟨rfl, rfl⟩ (by decide +kernel) ⟨Nat.le_of_ble_eq_true rfl, Nat.le_of_ble_eq_true rfl⟩ rfl rfl (Nat.le_of_ble_eq_true rfl) ⟨by show (cs + 4) + 0 ≤ 185; omega, by show (ss + 24) + 0 ≤ 1358; omega⟩ dL_isGraph_155 ?_
        show Z K (cs + 4) (ss + 24) 158 [(0, .ref (eA (kZ K) a0)), (1, .int a1), (2, .long a2), (4, .int a4), (5, .int a5), (6, .int a6), (8, .int a8), (9, .int a9), (10, .int a10)] [.int x37, .int x34] s38
        refine Z_icmp_ne hk (tgt := 184) dL_isGraph_158 (by decide) (fun c40 => ?_) (fun c40 => ?_)
        · have h := if_yes h c40
          refine Z_aload_n hk 0 dL_isGraph_161 rfl rfl ?_
          refine Z_iload_n hk 1 dL_isGraph_162 rfl rfl ?_
          refine Z_iload hk 6 dL_isGraph_163 rfl ?_
          obtain ⟨x41, s42, h43, h⟩ := br_ok h
          refine ZX_callV 2 hk [.int a1, .int a8] (c_X7_placeOf hk.loc hk.inj hfl F a0 a1 a8 ha0 s38 h43) gL_isGraph_X7_placeOf rfl ⟨rfl, by decide +kernel, by decide +kernel, by decide +kernel⟩ ⟨Nat.le_of_ble_eq_true rfl, Nat.le_of_ble_eq_true rfl⟩ ha0.cell.1 (ha0.cell.2 _) rfl rfl rfl (Nat.le_of_ble_eq_true rfl) ⟨by show (cs + 4) + 2 ≤ 185; omega, by show (ss + 24) + 12 ≤ 1358; omega⟩ dL_isGraph_165 (fun X hX => by cases hX) (fun v hv => ?_)
          cases hv
          show Z K (cs + 6) (ss + 36) 168 [(0, .ref (eA (kZ K) a0)), (1, .int a1), (2, .long a2), (4, .int a4), (5, .int a5), (6, .int a6), (8, .int a8), (9, .int a9), (10, .int a10)] [.int x41] s42
          refine Z_iload hk 3 dL_isGraph_168 rfl ?_
          refine Z_iload hk 5 dL_isGraph_170 rfl ?_
          refine Z_iload hk 6 dL_isGraph_172 rfl ?_
          obtain ⟨x44, s45, h46, h⟩ := bd_ok h
          refine Z_callT 3 hk [.int a4, .int a6, .int a8] (c_L_image hk.loc hk.inj F a4 a6 a8 s42 h46) gL_isGraph_L_image rfl ⟨rfl, rfl⟩ (by decide +kernel) ⟨Nat.le_of_ble_eq_true rfl, Nat.le_of_ble_eq_true rfl⟩ rfl rfl (Nat.le_of_ble_eq_true rfl) ⟨by show (cs + 6) + 0 ≤ 185; omega, by show (ss + 36) + 0 ≤ 1358; omega⟩ dL_isGraph_174 ?_
          show Z K (cs + 6) (ss + 36) 177 [(0, .ref (eA (kZ K) a0)), (1, .int a1), (2, .long a2), (4, .int a4), (5, .int a5), (6, .int a6), (8, .int a8), (9, .int a9), (10, .int a10)] [.int x44, .int x41] s45
          refine Z_icmp_ne hk (tgt := 184) dL_isGraph_177 (by decide) (fun c47 => ?_) (fun c47 => ?_)
          · have h := if_yes h c47
            refine Z_iconst hk dL_isGraph_180 zc_iconst_1 ?_
            refine Z_goto hk (tgt := 185) dL_isGraph_181 (by decide) ?_
            refine Z_sub [0, 1, 2, 3, 4, 5, 6] rfl ?_
            exact w_L_isGraph_185 hk hfl hnx hq hw (cs + 6) (ss + 36) C S (by omega) (by omega) (by omega) (by omega) F k50 hk50 a0 a1 a2 a4 a5 a6 a8 1 ha0 s45 h
          · have h := if_no h c47
            refine Z_sub [0, 1, 2, 3, 4, 5, 6] rfl ?_
            exact w_L_isGraph_184 hk hfl hnx hq hw (cs + 6) (ss + 36) C S (by omega) (by omega) (by omega) (by omega) F k50 hk50 a0 a1 a2 a4 a5 a6 a8 ha0 s45 h
        · have h := if_no h c40
          refine Z_sub [0, 1, 2, 3, 4, 5, 6] rfl ?_
          exact w_L_isGraph_184 hk hfl hnx hq hw (cs + 4) (ss + 24) C S (by omega) (by omega) (by omega) (by omega) F k50 hk50 a0 a1 a2 a4 a5 a6 a8 ha0 s38 h
      · have h := if_no h c33
        refine Z_sub [0, 1, 2, 3, 4, 5, 6] rfl ?_
        exact w_L_isGraph_184 hk hfl hnx hq hw (cs + 2) (ss + 12) C S (by omega) (by omega) (by omega) (by omega) F k50 hk50 a0 a1 a2 a4 a5 a6 a8 ha0 s31 h
    · have h := if_no h c29
      refine Z_iload hk 7 dL_isGraph_75 rfl ?_
      refine Z_lload_n hk 2 dL_isGraph_77 rfl rfl ?_
      refine Z_iload hk 6 dL_isGraph_78 rfl ?_
      refine Z_iload hk 8 dL_isGraph_80 rfl ?_
      obtain ⟨x48, s49, h50, h⟩ := bd_ok h
      refine Z_callT 3 hk [.long a2, .int a8, .int a10] (c_L_edge hk.loc hk.inj F a2 a8 a10 σ h50) gL_isGraph_L_edge rfl ⟨rfl, rfl⟩ (by decide +kernel) ⟨Nat.le_of_ble_eq_true rfl, Nat.le_of_ble_eq_true rfl⟩ rfl rfl (Nat.le_of_ble_eq_true rfl) ⟨by show cs + 0 ≤ 185; omega, by show ss + 0 ≤ 1358; omega⟩ dL_isGraph_82 ?_
      show Z K cs ss 85 [(0, .ref (eA (kZ K) a0)), (1, .int a1), (2, .long a2), (4, .int a4), (5, .int a5), (6, .int a6), (8, .int a8), (9, .int a9), (10, .int a10)] [.int x48, .int a9] s49
      refine Z_if_eq hk (tgt := 95) dL_isGraph_85 (by decide) (fun c51 => ?_) (fun c51 => ?_)
      · have h := if_yes h c51
        refine Z_iconst hk dL_isGraph_95 zc_iconst_0 ?_
        refine Z_sub [0, 1, 2, 3, 4, 5, 6, 8] rfl ?_
        exact w_L_isGraph_96 hk hfl hnx hq hw cs ss C S (by omega) (by omega) (by omega) (by omega) F k50 hk50 (m_L_isGraph_68 F w k50 n) ih a0 a1 a2 a4 a5 a6 a8 a10 0 a9 ha0 s49 h
      · have h := if_no h c51
        refine Z_iconst hk dL_isGraph_88 zc_iconst_1 ?_
        refine Z_iload hk 8 dL_isGraph_89 rfl ?_
        refine Z_ishl hk dL_isGraph_91 ?_
        refine Z_goto hk (tgt := 96) dL_isGraph_92 (by decide) ?_
        refine Z_sub [0, 1, 2, 3, 4, 5, 6, 8] rfl ?_
        exact w_L_isGraph_96 hk hfl hnx hq hw cs ss C S (by omega) (by omega) (by omega) (by omega) F k50 hk50 (m_L_isGraph_68 F w k50 n) ih a0 a1 a2 a4 a5 a6 a8 a10 (jshl 1 a10) a9 ha0 s49 h
set_option maxRecDepth 100000 in
set_option maxHeartbeats 4000000 in
theorem w_L_isGraph_221 {K : zK} {w : Nat} (hk : zIs K RL cL_isGraph 11 wsL_isGraph (some .boolean) r_L_isGraph) (hfl : (kL K).stackTraces = false) (hnx : zNX K) {r0 : Int32} {τ0 : zST} (hq : zQG K (.inr (some (.int r0))) τ0) (hw : eN (kZ K) = w) (cs ss : Nat) (hb1 : cs + 0 ≤ 185) (hb2 : ss + 0 ≤ 1358) (F : Nat)  (σ : zST) (h : m_L_isGraph_221 F w σ = some (r0, τ0)) : Z K cs ss 221 [] [] σ := by
  unfold m_L_isGraph_221 at h
  refine Z_iconst hk dL_isGraph_221 zc_iconst_0 ?_
  cases h
  exact ZG_zret hk (by decide) hq ⟨by show cs + 0 ≤ 185; omega, by show ss + 0 ≤ 1358; omega⟩ dL_isGraph_222
set_option maxRecDepth 100000 in
set_option maxHeartbeats 4000000 in
theorem w_L_isGraph_193 {K : zK} {w : Nat} (hk : zIs K RL cL_isGraph 11 wsL_isGraph (some .boolean) r_L_isGraph) (hfl : (kL K).stackTraces = false) (hnx : zNX K) {r0 : Int32} {τ0 : zST} (hq : zQG K (.inr (some (.int r0))) τ0) (hw : eN (kZ K) = w) (cs ss : Nat) (hb1 : cs + 19 ≤ 185) (hb2 : ss + 118 ≤ 1358) (F : Nat) (a0 : Nat) (a1 : Int32) (a2 : Int64) (a5 : Int32) (a7 : Int32) (ha0 : atCanonCote (kZ K) a0) (σ : zST) (h : m_L_isGraph_193 F w a0 a1 a2 a5 a7 σ = some (r0, τ0)) : Z K cs ss 193 [(0, .ref (eA (kZ K) a0)), (1, .int a1), (2, .long a2), (5, .int a5), (7, .int a7)] [] σ := by
  unfold m_L_isGraph_193 at h
  refine Z_iload hk 4 dL_isGraph_193 rfl ?_
  refine Z_if_eq hk (tgt := 221) dL_isGraph_195 (by decide) (fun c20 => ?_) (fun c20 => ?_)
  · have h := if_yes h c20
    refine Z_sub [] rfl ?_
    exact w_L_isGraph_221 hk hfl hnx hq hw cs ss (by omega) (by omega) F σ h
  · have h := if_no h c20
    refine Z_aload_n hk 0 dL_isGraph_198 rfl rfl ?_
    refine Z_iload_n hk 1 dL_isGraph_199 rfl rfl ?_
    obtain ⟨x21, s22, h23, h⟩ := br_ok h
    refine ZX_callV 1 hk [.int a1] (c_X7_edges hk.loc hk.inj hfl F a0 a1 ha0 σ h23) gL_isGraph_X7_edges rfl ⟨rfl, by decide +kernel, by decide +kernel, by decide +kernel⟩ ⟨Nat.le_of_ble_eq_true rfl, Nat.le_of_ble_eq_true rfl⟩ ha0.cell.1 (ha0.cell.2 _) rfl rfl rfl (Nat.le_of_ble_eq_true rfl) ⟨by show cs + 1 ≤ 185; omega, by show ss + 6 ≤ 1358; omega⟩ dL_isGraph_200 (fun X hX => by cases hX) (fun v hv => ?_)
    cases hv
    show Z K (cs + 1) (ss + 6) 203 [(0, .ref (eA (kZ K) a0)), (1, .int a1), (2, .long a2), (5, .int a5), (7, .int a7)] [.int x21] s22
    refine Z_iload hk 3 dL_isGraph_203 rfl ?_
    refine Z_icmp_ne hk (tgt := 221) dL_isGraph_205 (by decide) (fun c24 => ?_) (fun c24 => ?_)
    · have h := if_yes h c24
      refine Z_aload_n hk 0 dL_isGraph_208 rfl rfl ?_
      refine Z_iload_n hk 1 dL_isGraph_209 rfl rfl ?_
      refine Z_lload_n hk 2 dL_isGraph_210 rfl rfl ?_
      obtain ⟨x25, s26, h27, h⟩ := bd_ok h
      refine ZX_callT 3 hk [.ref (eA (kZ K) a0), .int a1, .long a2] (c_L_isRefined hk.loc hk.inj hfl F w hw a0 a1 a2 ha0 s22 h27) gL_isGraph_L_isRefined rfl ⟨by decide +kernel, by decide +kernel, by decide +kernel⟩ ⟨Nat.le_of_ble_eq_true rfl, Nat.le_of_ble_eq_true rfl⟩ rfl rfl (Nat.le_of_ble_eq_true rfl) ⟨by show (cs + 1) + 18 ≤ 185; omega, by show (ss + 6) + 112 ≤ 1358; omega⟩ dL_isGraph_211 (fun X hX => by cases hX) (fun v hv => ?_)
      cases hv
      show Z K (cs + 19) (ss + 118) 214 [(0, .ref (eA (kZ K) a0)), (1, .int a1), (2, .long a2), (5, .int a5), (7, .int a7)] [.int x25] s26
      refine Z_if_eq hk (tgt := 221) dL_isGraph_214 (by decide) (fun c28 => ?_) (fun c28 => ?_)
      · have h := if_yes h c28
        refine Z_sub [] rfl ?_
        exact w_L_isGraph_221 hk hfl hnx hq hw (cs + 19) (ss + 118) (by omega) (by omega) F s26 h
      · have h := if_no h c28
        refine Z_iconst hk dL_isGraph_217 zc_iconst_1 ?_
        refine Z_goto hk (tgt := 222) dL_isGraph_218 (by decide) ?_
        cases h
        exact ZG_zret hk (by decide) hq ⟨by show (cs + 19) + 0 ≤ 185; omega, by show (ss + 118) + 0 ≤ 1358; omega⟩ dL_isGraph_222
    · have h := if_no h c24
      refine Z_sub [] rfl ?_
      exact w_L_isGraph_221 hk hfl hnx hq hw (cs + 1) (ss + 6) (by omega) (by omega) F s22 h
set_option maxRecDepth 100000 in
set_option maxHeartbeats 4000000 in
theorem w_L_isGraph_50 {K : zK} {w : Nat} (hk : zIs K RL cL_isGraph 11 wsL_isGraph (some .boolean) r_L_isGraph) (hfl : (kL K).stackTraces = false) (hnx : zNX K) {r0 : Int32} {τ0 : zST} (hq : zQG K (.inr (some (.int r0))) τ0) (hw : eN (kZ K) = w) (F : Nat) : ∀ (n : Nat) (cs ss : Nat) (hb1 : cs + 6 * n + 19 ≤ 185) (hb2 : ss + 36 * n + 118 ≤ 1358) (a0 : Nat) (a1 : Int32) (a2 : Int64) (a4 : Int32) (a5 : Int32) (a6 : Int32) (a7 : Int32) (a8 : Int32) (ha0 : atCanonCote (kZ K) a0) (σ : zST), m_L_isGraph_50 F w n a0 a1 a2 a4 a5 a6 a7 a8 σ = some (r0, τ0) → Z K cs ss 50 [(0, .ref (eA (kZ K) a0)), (1, .int a1), (2, .long a2), (4, .int a4), (5, .int a5), (6, .int a6), (7, .int a7), (8, .int a8)] [] σ := by
  intro n
  induction n with
  | zero => intro cs ss hb1 hb2 a0 a1 a2 a4 a5 a6 a7 a8 ha0 σ h; cases h
  | succ n ih0 =>
    intro cs ss hb1 hb2 a0 a1 a2 a4 a5 a6 a7 a8 ha0 σ h
    have ih := ih0 (cs + 6) (ss + 36) (by omega) (by omega)
    rw [m_L_isGraph_50] at h
    refine Z_iload hk 7 dL_isGraph_50 rfl ?_
    refine Z_iload hk 3 dL_isGraph_52 rfl ?_
    refine Z_icmp_ge hk (tgt := 193) dL_isGraph_54 (by decide) (fun c18 => ?_) (fun c18 => ?_)
    · have h := if_yes h c18
      refine Z_sub [0, 1, 2, 4, 6] rfl ?_
      exact w_L_isGraph_193 hk hfl hnx hq hw cs ss (by omega) (by omega) F a0 a1 a2 a5 a7 ha0 σ h
    · have h := if_no h c18
      refine Z_iload hk 6 dL_isGraph_57 rfl ?_
      refine Z_if_eq hk (tgt := 193) dL_isGraph_59 (by decide) (fun c19 => ?_) (fun c19 => ?_)
      · have h := if_yes h c19
        refine Z_sub [0, 1, 2, 4, 6] rfl ?_
        exact w_L_isGraph_193 hk hfl hnx hq hw cs ss (by omega) (by omega) F a0 a1 a2 a5 a7 ha0 σ h
      · have h := if_no h c19
        refine Z_iconst hk dL_isGraph_62 zc_iconst_0 ?_
        refine Z_istore hk (lv' := [(9, .int 0), (0, .ref (eA (kZ K) a0)), (1, .int a1), (2, .long a2), (4, .int a4), (5, .int a5), (6, .int a6), (7, .int a7), (8, .int a8)]) dL_isGraph_63 (by decide) rfl ?_
        refine Z_iconst hk dL_isGraph_65 zc_iconst_0 ?_
        refine Z_istore hk (lv' := [(10, .int 0), (9, .int 0), (0, .ref (eA (kZ K) a0)), (1, .int a1), (2, .long a2), (4, .int a4), (5, .int a5), (6, .int a6), (7, .int a7), (8, .int a8)]) dL_isGraph_66 (by decide) rfl ?_
        refine Z_sub [2, 3, 4, 5, 6, 7, 9, 1, 0] rfl ?_
        exact w_L_isGraph_68 hk hfl hnx hq hw cs ss (cs + 6) (ss + 36) (by omega) (by omega) (by omega) (by omega) F (m_L_isGraph_50 F w n) ih F a0 a1 a2 a4 a5 a6 a8 0 0 ha0 σ h
set_option maxRecDepth 100000 in
set_option maxHeartbeats 4000000 in
theorem w_L_isGraph_45 {K : zK} {w : Nat} (hk : zIs K RL cL_isGraph 11 wsL_isGraph (some .boolean) r_L_isGraph) (hfl : (kL K).stackTraces = false) (hnx : zNX K) {r0 : Int32} {τ0 : zST} (hq : zQG K (.inr (some (.int r0))) τ0) (hw : eN (kZ K) = w) (cs ss : Nat) (hb1 : cs + 61 ≤ 185) (hb2 : ss + 370 ≤ 1358) (F : Nat) (a0 : Nat) (a1 : Int32) (a2 : Int64) (a4 : Int32) (a5 : Int32) (a6 : Int32) (t0 : Int32) (ha0 : atCanonCote (kZ K) a0) (σ : zST) (h : m_L_isGraph_45 F w a0 a1 a2 a4 a5 a6 t0 σ = some (r0, τ0)) : Z K cs ss 45 [(0, .ref (eA (kZ K) a0)), (1, .int a1), (2, .long a2), (4, .int a4), (5, .int a5), (6, .int a6)] [.int t0] σ := by
  unfold m_L_isGraph_45 at h
  refine Z_istore hk (lv' := [(7, .int t0), (0, .ref (eA (kZ K) a0)), (1, .int a1), (2, .long a2), (4, .int a4), (5, .int a5), (6, .int a6)]) dL_isGraph_45 (by decide) rfl ?_
  refine Z_iconst hk dL_isGraph_47 zc_iconst_0 ?_
  refine Z_istore hk (lv' := [(8, .int 0), (7, .int t0), (0, .ref (eA (kZ K) a0)), (1, .int a1), (2, .long a2), (4, .int a4), (5, .int a5), (6, .int a6)]) dL_isGraph_48 (by decide) rfl ?_
  refine Z_sub [2, 3, 4, 5, 6, 7, 1, 0] rfl ?_
  exact w_L_isGraph_50 hk hfl hnx hq hw F 7 cs ss (by omega) (by omega) a0 a1 a2 a4 a5 a6 t0 0 ha0 σ h
set_option maxRecDepth 100000 in
set_option maxHeartbeats 4000000 in
theorem w_L_isGraph_44 {K : zK} {w : Nat} (hk : zIs K RL cL_isGraph 11 wsL_isGraph (some .boolean) r_L_isGraph) (hfl : (kL K).stackTraces = false) (hnx : zNX K) {r0 : Int32} {τ0 : zST} (hq : zQG K (.inr (some (.int r0))) τ0) (hw : eN (kZ K) = w) (cs ss : Nat) (hb1 : cs + 61 ≤ 185) (hb2 : ss + 370 ≤ 1358) (F : Nat) (a0 : Nat) (a1 : Int32) (a2 : Int64) (a4 : Int32) (a5 : Int32) (a6 : Int32) (ha0 : atCanonCote (kZ K) a0) (σ : zST) (h : m_L_isGraph_44 F w a0 a1 a2 a4 a5 a6 σ = some (r0, τ0)) : Z K cs ss 44 [(0, .ref (eA (kZ K) a0)), (1, .int a1), (2, .long a2), (4, .int a4), (5, .int a5), (6, .int a6)] [] σ := by
  unfold m_L_isGraph_44 at h
  refine Z_iconst hk dL_isGraph_44 zc_iconst_0 ?_
  refine Z_sub [0, 1, 2, 3, 4, 5] rfl ?_
  exact w_L_isGraph_45 hk hfl hnx hq hw cs ss (by omega) (by omega) F a0 a1 a2 a4 a5 a6 0 ha0 σ h
set_option maxRecDepth 100000 in
set_option maxHeartbeats 4000000 in
theorem w_L_isGraph {K : zK} {w : Nat} (hk : zIs K RL cL_isGraph 11 wsL_isGraph (some .boolean) r_L_isGraph) (hfl : (kL K).stackTraces = false) (hnx : zNX K) {r0 : Int32} {τ0 : zST} (hq : zQG K (.inr (some (.int r0))) τ0) (hw : eN (kZ K) = w) (F : Nat) (a0 : Nat) (a1 : Int32) (a2 : Int64) (ha0 : atCanonCote (kZ K) a0) (σ : zST) (h : m_L_isGraph F w a0 a1 a2 σ = some (r0, τ0)) : Z K 0 0 0 [(0, .ref (eA (kZ K) a0)), (1, .int a1), (2, .long a2)] [] σ := by
  unfold m_L_isGraph at h
  refine Z_lload_n hk 2 dL_isGraph_0 rfl rfl ?_
  obtain ⟨x1, s2, h3, h⟩ := bd_ok h
  refine Z_callT 1 hk [.long a2] (c_L_size hk.loc hk.inj F a2 σ h3) gL_isGraph_L_size rfl ⟨rfl, rfl⟩ (by decide +kernel) ⟨Nat.le_of_ble_eq_true rfl, Nat.le_of_ble_eq_true rfl⟩ rfl rfl (Nat.le_of_ble_eq_true rfl) ⟨by show 0 + 0 ≤ 185; omega, by show 0 + 0 ≤ 1358; omega⟩ dL_isGraph_1 ?_
  show Z K 0 0 4 [(0, .ref (eA (kZ K) a0)), (1, .int a1), (2, .long a2)] [.int x1] s2
  refine Z_istore hk (lv' := [(4, .int x1), (0, .ref (eA (kZ K) a0)), (1, .int a1), (2, .long a2)]) dL_isGraph_4 (by decide) rfl ?_
  refine Z_iconst hk dL_isGraph_6 zc_iconst_0 ?_
  refine Z_istore hk (lv' := [(5, .int 0), (4, .int x1), (0, .ref (eA (kZ K) a0)), (1, .int a1), (2, .long a2)]) dL_isGraph_7 (by decide) rfl ?_
  refine Z_lload_n hk 4 dL_isGraph_9 rfl rfl ?_
  obtain ⟨x4, s5, h6, h⟩ := bd_ok h
  refine ZX_callT 1 hk [.long a2] (c_L_least hk.loc hk.inj hfl F w hw a2 s2 h6) gL_isGraph_L_least rfl ⟨by decide +kernel, by decide +kernel, by decide +kernel⟩ ⟨Nat.le_of_ble_eq_true rfl, Nat.le_of_ble_eq_true rfl⟩ rfl rfl (Nat.le_of_ble_eq_true rfl) ⟨by show 0 + 121 ≤ 185; omega, by show 0 + 968 ≤ 1358; omega⟩ dL_isGraph_10 (fun X hX => by cases hX) (fun v hv => ?_)
  cases hv
  show Z K 121 968 13 [(5, .int 0), (4, .int x1), (0, .ref (eA (kZ K) a0)), (1, .int a1), (2, .long a2)] [.int x4] s5
  refine Z_istore hk (lv' := [(6, .int x4), (5, .int 0), (4, .int x1), (0, .ref (eA (kZ K) a0)), (1, .int a1), (2, .long a2)]) dL_isGraph_13 (by decide) rfl ?_
  refine Z_aload_n hk 3 dL_isGraph_15 rfl rfl ?_
  refine Z_iload_n hk 4 dL_isGraph_16 rfl rfl ?_
  obtain ⟨x7, s8, h9, h⟩ := br_ok h
  refine ZX_callV 1 hk [.int a1] (c_X7_size hk.loc hk.inj hfl F a0 a1 ha0 s5 h9) gL_isGraph_X7_size rfl ⟨rfl, by decide +kernel, by decide +kernel, by decide +kernel⟩ ⟨Nat.le_of_ble_eq_true rfl, Nat.le_of_ble_eq_true rfl⟩ ha0.cell.1 (ha0.cell.2 _) rfl rfl rfl (Nat.le_of_ble_eq_true rfl) ⟨by show 121 + 1 ≤ 185; omega, by show 968 + 6 ≤ 1358; omega⟩ dL_isGraph_17 (fun X hX => by cases hX) (fun v hv => ?_)
  cases hv
  show Z K 122 974 20 [(6, .int x4), (5, .int 0), (4, .int x1), (0, .ref (eA (kZ K) a0)), (1, .int a1), (2, .long a2)] [.int x7] s8
  refine Z_iload hk 2 dL_isGraph_20 rfl ?_
  refine Z_icmp_ne hk (tgt := 44) dL_isGraph_22 (by decide) (fun c10 => ?_) (fun c10 => ?_)
  · have h := if_yes h c10
    refine Z_aload_n hk 3 dL_isGraph_25 rfl rfl ?_
    refine Z_iload_n hk 4 dL_isGraph_26 rfl rfl ?_
    obtain ⟨x11, s12, h13, h⟩ := br_ok h
    refine ZX_callV 1 hk [.int a1] (c_X7_form hk.loc hk.inj hfl F a0 a1 ha0 s8 h13) gL_isGraph_X7_form rfl ⟨rfl, by decide +kernel, by decide +kernel, by decide +kernel⟩ ⟨Nat.le_of_ble_eq_true rfl, Nat.le_of_ble_eq_true rfl⟩ ha0.cell.1 (ha0.cell.2 _) rfl rfl rfl (Nat.le_of_ble_eq_true rfl) ⟨by show 122 + 1 ≤ 185; omega, by show 974 + 6 ≤ 1358; omega⟩ dL_isGraph_27 (fun X hX => by cases hX) (fun v hv => ?_)
    cases hv
    show Z K 123 980 30 [(6, .int x4), (5, .int 0), (4, .int x1), (0, .ref (eA (kZ K) a0)), (1, .int a1), (2, .long a2)] [.long x11] s12
    refine Z_lload_n hk 5 dL_isGraph_30 rfl rfl ?_
    refine Z_iload hk 0 dL_isGraph_31 rfl ?_
    obtain ⟨x14, s15, h16, h⟩ := bd_ok h
    refine ZX_callT 2 hk [.long a2, .int x4] (c_L_put hk.loc hk.inj hfl F w hw a2 x4 s12 h16) gL_isGraph_L_put rfl ⟨by decide +kernel, by decide +kernel, by decide +kernel⟩ ⟨Nat.le_of_ble_eq_true rfl, Nat.le_of_ble_eq_true rfl⟩ rfl rfl (Nat.le_of_ble_eq_true rfl) ⟨by show 123 + 1 ≤ 185; omega, by show 980 + 8 ≤ 1358; omega⟩ dL_isGraph_33 (fun X hX => by cases hX) (fun v hv => ?_)
    cases hv
    show Z K 124 988 36 [(6, .int x4), (5, .int 0), (4, .int x1), (0, .ref (eA (kZ K) a0)), (1, .int a1), (2, .long a2)] [.long x14, .long x11] s15
    refine Z_lcmp hk dL_isGraph_36 ?_
    refine Z_if_ne hk (tgt := 44) dL_isGraph_37 (by decide) (fun c17 => ?_) (fun c17 => ?_)
    · have h := if_yes h c17
      refine Z_iconst hk dL_isGraph_40 zc_iconst_1 ?_
      refine Z_goto hk (tgt := 45) dL_isGraph_41 (by decide) ?_
      refine Z_sub [3, 4, 5, 2, 1, 0] rfl ?_
      exact w_L_isGraph_45 hk hfl hnx hq hw 124 988 (by omega) (by omega) F a0 a1 a2 x1 0 x4 1 ha0 s15 h
    · have h := if_no h c17
      refine Z_sub [3, 4, 5, 2, 1, 0] rfl ?_
      exact w_L_isGraph_44 hk hfl hnx hq hw 124 988 (by omega) (by omega) F a0 a1 a2 x1 0 x4 ha0 s15 h
  · have h := if_no h c10
    refine Z_sub [3, 4, 5, 2, 1, 0] rfl ?_
    exact w_L_isGraph_44 hk hfl hnx hq hw 122 974 (by omega) (by omega) F a0 a1 a2 x1 0 x4 ha0 s8 h
theorem c_L_isGraph {l : Launch} {E : zE} (hL : eL E) (hJ : eJ E) (hfl : l.stackTraces = false) (F w : Nat) (hw : eN E = w) (a0 : Nat) (a1 : Int32) (a2 : Int64) (ha0 : atCanonCote E a0) (σ : zST) {r0 : Int32} {τ0 : zST} (h : m_L_isGraph F w a0 a1 a2 σ = some (r0, τ0)) : CtX l yL_isGraph wsL_isGraph r_L_isGraph E [.ref (eA E a0), .int a1, .long a2] σ (.inr (some (.int r0))) τ0 := by
  refine CtX_of (by decide) rfl hL hJ (Nat.le_of_ble_eq_true rfl) (fun K hE hl hk hnx hq => ?_)
  subst hE
  subst hl
  exact w_L_isGraph hk hfl hnx (zQG.of hq) hw F a0 a1 a2 ha0 σ h
end

-- CanonCoteLaw.isTurned (LCanonCote;IJ)Z
section
theorem dL_isTurned_0 : decode cL_isTurned 0 = .ok (.lload_n 2, 1) := by decide +kernel
theorem dL_isTurned_1 : decode cL_isTurned 1 = .ok (.invokestatic 23, 3) := by decide +kernel
theorem dL_isTurned_4 : decode cL_isTurned 4 = .ok (.istore 4, 2) := by decide +kernel
theorem dL_isTurned_6 : decode cL_isTurned 6 = .ok (.iconst 0, 1) := by decide +kernel
theorem dL_isTurned_7 : decode cL_isTurned 7 = .ok (.istore 5, 2) := by decide +kernel
theorem dL_isTurned_9 : decode cL_isTurned 9 = .ok (.bipush 8, 2) := by decide +kernel
theorem dL_isTurned_11 : decode cL_isTurned 11 = .ok (.newarray .int, 2) := by decide +kernel
theorem dL_isTurned_13 : decode cL_isTurned 13 = .ok (.astore 6, 2) := by decide +kernel
theorem dL_isTurned_15 : decode cL_isTurned 15 = .ok (.iconst 0, 1) := by decide +kernel
theorem dL_isTurned_16 : decode cL_isTurned 16 = .ok (.istore 7, 2) := by decide +kernel
theorem dL_isTurned_18 : decode cL_isTurned 18 = .ok (.iload 7, 2) := by decide +kernel
theorem dL_isTurned_20 : decode cL_isTurned 20 = .ok (.iload 4, 2) := by decide +kernel
theorem dL_isTurned_22 : decode cL_isTurned 22 = .ok (.invokestatic 19, 3) := by decide +kernel
theorem dL_isTurned_25 : decode cL_isTurned 25 = .ok (.if_icmp .ge 82, 3) := by decide +kernel
theorem dL_isTurned_28 : decode cL_isTurned 28 = .ok (.lload_n 2, 1) := by decide +kernel
theorem dL_isTurned_29 : decode cL_isTurned 29 = .ok (.iload 7, 2) := by decide +kernel
theorem dL_isTurned_31 : decode cL_isTurned 31 = .ok (.invokestatic 43, 3) := by decide +kernel
theorem dL_isTurned_34 : decode cL_isTurned 34 = .ok (.lload_n 2, 1) := by decide +kernel
theorem dL_isTurned_35 : decode cL_isTurned 35 = .ok (.lcmp, 1) := by decide +kernel
theorem dL_isTurned_36 : decode cL_isTurned 36 = .ok (.ifCond .ne 7, 3) := by decide +kernel
theorem dL_isTurned_39 : decode cL_isTurned 39 = .ok (.iconst 1, 1) := by decide +kernel
theorem dL_isTurned_40 : decode cL_isTurned 40 = .ok (.goto 4, 3) := by decide +kernel
theorem dL_isTurned_43 : decode cL_isTurned 43 = .ok (.iconst 0, 1) := by decide +kernel
theorem dL_isTurned_44 : decode cL_isTurned 44 = .ok (.istore 8, 2) := by decide +kernel
theorem dL_isTurned_46 : decode cL_isTurned 46 = .ok (.iload 5, 2) := by decide +kernel
theorem dL_isTurned_48 : decode cL_isTurned 48 = .ok (.iload 8, 2) := by decide +kernel
theorem dL_isTurned_50 : decode cL_isTurned 50 = .ok (.ifCond .eq 7, 3) := by decide +kernel
theorem dL_isTurned_53 : decode cL_isTurned 53 = .ok (.iconst 1, 1) := by decide +kernel
theorem dL_isTurned_54 : decode cL_isTurned 54 = .ok (.goto 4, 3) := by decide +kernel
theorem dL_isTurned_57 : decode cL_isTurned 57 = .ok (.iconst 0, 1) := by decide +kernel
theorem dL_isTurned_58 : decode cL_isTurned 58 = .ok (.iadd, 1) := by decide +kernel
theorem dL_isTurned_59 : decode cL_isTurned 59 = .ok (.istore 5, 2) := by decide +kernel
theorem dL_isTurned_61 : decode cL_isTurned 61 = .ok (.iconst 0, 1) := by decide +kernel
theorem dL_isTurned_62 : decode cL_isTurned 62 = .ok (.istore 9, 2) := by decide +kernel
theorem dL_isTurned_64 : decode cL_isTurned 64 = .ok (.iload 9, 2) := by decide +kernel
theorem dL_isTurned_66 : decode cL_isTurned 66 = .ok (.iload 4, 2) := by decide +kernel
theorem dL_isTurned_68 : decode cL_isTurned 68 = .ok (.if_icmp .ge 33, 3) := by decide +kernel
theorem dL_isTurned_71 : decode cL_isTurned 71 = .ok (.iload 8, 2) := by decide +kernel
theorem dL_isTurned_73 : decode cL_isTurned 73 = .ok (.ifCond .eq 28, 3) := by decide +kernel
theorem dL_isTurned_76 : decode cL_isTurned 76 = .ok (.aload 6, 2) := by decide +kernel
theorem dL_isTurned_78 : decode cL_isTurned 78 = .ok (.iload 9, 2) := by decide +kernel
theorem dL_isTurned_80 : decode cL_isTurned 80 = .ok (.dup2, 1) := by decide +kernel
theorem dL_isTurned_81 : decode cL_isTurned 81 = .ok (.iaload, 1) := by decide +kernel
theorem dL_isTurned_82 : decode cL_isTurned 82 = .ok (.iconst 1, 1) := by decide +kernel
theorem dL_isTurned_83 : decode cL_isTurned 83 = .ok (.iload 4, 2) := by decide +kernel
theorem dL_isTurned_85 : decode cL_isTurned 85 = .ok (.iload 7, 2) := by decide +kernel
theorem dL_isTurned_87 : decode cL_isTurned 87 = .ok (.iload 9, 2) := by decide +kernel
theorem dL_isTurned_89 : decode cL_isTurned 89 = .ok (.invokestatic 27, 3) := by decide +kernel
theorem dL_isTurned_92 : decode cL_isTurned 92 = .ok (.ishl, 1) := by decide +kernel
theorem dL_isTurned_93 : decode cL_isTurned 93 = .ok (.ior, 1) := by decide +kernel
theorem dL_isTurned_94 : decode cL_isTurned 94 = .ok (.iastore, 1) := by decide +kernel
theorem dL_isTurned_95 : decode cL_isTurned 95 = .ok (.iinc 9 1, 3) := by decide +kernel
theorem dL_isTurned_98 : decode cL_isTurned 98 = .ok (.goto (-34), 3) := by decide +kernel
theorem dL_isTurned_101 : decode cL_isTurned 101 = .ok (.iinc 7 1, 3) := by decide +kernel
theorem dL_isTurned_104 : decode cL_isTurned 104 = .ok (.goto (-86), 3) := by decide +kernel
theorem dL_isTurned_107 : decode cL_isTurned 107 = .ok (.iconst 0, 1) := by decide +kernel
theorem dL_isTurned_108 : decode cL_isTurned 108 = .ok (.istore 7, 2) := by decide +kernel
theorem dL_isTurned_110 : decode cL_isTurned 110 = .ok (.aload_n 0, 1) := by decide +kernel
theorem dL_isTurned_111 : decode cL_isTurned 111 = .ok (.iload_n 1, 1) := by decide +kernel
theorem dL_isTurned_112 : decode cL_isTurned 112 = .ok (.invokevirtual 85, 3) := by decide +kernel
theorem dL_isTurned_115 : decode cL_isTurned 115 = .ok (.iload 5, 2) := by decide +kernel
theorem dL_isTurned_117 : decode cL_isTurned 117 = .ok (.if_icmp .ne 7, 3) := by decide +kernel
theorem dL_isTurned_120 : decode cL_isTurned 120 = .ok (.iconst 1, 1) := by decide +kernel
theorem dL_isTurned_121 : decode cL_isTurned 121 = .ok (.goto 4, 3) := by decide +kernel
theorem dL_isTurned_124 : decode cL_isTurned 124 = .ok (.iconst 0, 1) := by decide +kernel
theorem dL_isTurned_125 : decode cL_isTurned 125 = .ok (.istore 8, 2) := by decide +kernel
theorem dL_isTurned_127 : decode cL_isTurned 127 = .ok (.iconst 0, 1) := by decide +kernel
theorem dL_isTurned_128 : decode cL_isTurned 128 = .ok (.istore 9, 2) := by decide +kernel
theorem dL_isTurned_130 : decode cL_isTurned 130 = .ok (.iload 9, 2) := by decide +kernel
theorem dL_isTurned_132 : decode cL_isTurned 132 = .ok (.iload 4, 2) := by decide +kernel
theorem dL_isTurned_134 : decode cL_isTurned 134 = .ok (.if_icmp .ge 59, 3) := by decide +kernel
theorem dL_isTurned_137 : decode cL_isTurned 137 = .ok (.iload 7, 2) := by decide +kernel
theorem dL_isTurned_139 : decode cL_isTurned 139 = .ok (.aload 6, 2) := by decide +kernel
theorem dL_isTurned_141 : decode cL_isTurned 141 = .ok (.iload 9, 2) := by decide +kernel
theorem dL_isTurned_143 : decode cL_isTurned 143 = .ok (.iaload, 1) := by decide +kernel
theorem dL_isTurned_144 : decode cL_isTurned 144 = .ok (.iconst 1, 1) := by decide +kernel
theorem dL_isTurned_145 : decode cL_isTurned 145 = .ok (.iload 9, 2) := by decide +kernel
theorem dL_isTurned_147 : decode cL_isTurned 147 = .ok (.ishl, 1) := by decide +kernel
theorem dL_isTurned_148 : decode cL_isTurned 148 = .ok (.irem, 1) := by decide +kernel
theorem dL_isTurned_149 : decode cL_isTurned 149 = .ok (.ifCond .ne 7, 3) := by decide +kernel
theorem dL_isTurned_152 : decode cL_isTurned 152 = .ok (.iconst 1, 1) := by decide +kernel
theorem dL_isTurned_153 : decode cL_isTurned 153 = .ok (.goto 4, 3) := by decide +kernel
theorem dL_isTurned_156 : decode cL_isTurned 156 = .ok (.iconst 0, 1) := by decide +kernel
theorem dL_isTurned_157 : decode cL_isTurned 157 = .ok (.iadd, 1) := by decide +kernel
theorem dL_isTurned_158 : decode cL_isTurned 158 = .ok (.istore 7, 2) := by decide +kernel
theorem dL_isTurned_160 : decode cL_isTurned 160 = .ok (.iload 8, 2) := by decide +kernel
theorem dL_isTurned_162 : decode cL_isTurned 162 = .ok (.ifCond .eq 22, 3) := by decide +kernel
theorem dL_isTurned_165 : decode cL_isTurned 165 = .ok (.aload_n 0, 1) := by decide +kernel
theorem dL_isTurned_166 : decode cL_isTurned 166 = .ok (.iload_n 1, 1) := by decide +kernel
theorem dL_isTurned_167 : decode cL_isTurned 167 = .ok (.iload 9, 2) := by decide +kernel
theorem dL_isTurned_169 : decode cL_isTurned 169 = .ok (.invokevirtual 88, 3) := by decide +kernel
theorem dL_isTurned_172 : decode cL_isTurned 172 = .ok (.aload 6, 2) := by decide +kernel
theorem dL_isTurned_174 : decode cL_isTurned 174 = .ok (.iload 9, 2) := by decide +kernel
theorem dL_isTurned_176 : decode cL_isTurned 176 = .ok (.iaload, 1) := by decide +kernel
theorem dL_isTurned_177 : decode cL_isTurned 177 = .ok (.if_icmp .ne 7, 3) := by decide +kernel
theorem dL_isTurned_180 : decode cL_isTurned 180 = .ok (.iconst 1, 1) := by decide +kernel
theorem dL_isTurned_181 : decode cL_isTurned 181 = .ok (.goto 4, 3) := by decide +kernel
theorem dL_isTurned_184 : decode cL_isTurned 184 = .ok (.iconst 0, 1) := by decide +kernel
theorem dL_isTurned_185 : decode cL_isTurned 185 = .ok (.istore 8, 2) := by decide +kernel
theorem dL_isTurned_187 : decode cL_isTurned 187 = .ok (.iinc 9 1, 3) := by decide +kernel
theorem dL_isTurned_190 : decode cL_isTurned 190 = .ok (.goto (-60), 3) := by decide +kernel
theorem dL_isTurned_193 : decode cL_isTurned 193 = .ok (.iload 8, 2) := by decide +kernel
theorem dL_isTurned_195 : decode cL_isTurned 195 = .ok (.ifCond .eq 17, 3) := by decide +kernel
theorem dL_isTurned_198 : decode cL_isTurned 198 = .ok (.aload_n 0, 1) := by decide +kernel
theorem dL_isTurned_199 : decode cL_isTurned 199 = .ok (.iload_n 1, 1) := by decide +kernel
theorem dL_isTurned_200 : decode cL_isTurned 200 = .ok (.invokevirtual 91, 3) := by decide +kernel
theorem dL_isTurned_203 : decode cL_isTurned 203 = .ok (.iload 7, 2) := by decide +kernel
theorem dL_isTurned_205 : decode cL_isTurned 205 = .ok (.if_icmp .ne 7, 3) := by decide +kernel
theorem dL_isTurned_208 : decode cL_isTurned 208 = .ok (.iconst 1, 1) := by decide +kernel
theorem dL_isTurned_209 : decode cL_isTurned 209 = .ok (.goto 4, 3) := by decide +kernel
theorem dL_isTurned_212 : decode cL_isTurned 212 = .ok (.iconst 0, 1) := by decide +kernel
theorem dL_isTurned_213 : decode cL_isTurned 213 = .ok (.ireturn, 1) := by decide +kernel
set_option maxRecDepth 20000 in
theorem ggL_isTurned_L_size : GoodIn wsL_isTurned wsL_size := goodIn_r _ [5] (by decide +kernel) (by decide +kernel)
set_option maxRecDepth 20000 in
theorem gL_isTurned_L_size : GoodIn wsL_isTurned (va_wsS RL 23 yL_size wsL_size) := goodIn_app (goodIn_of _ (by decide +kernel)) ggL_isTurned_L_size
set_option maxRecDepth 20000 in
theorem ggL_isTurned_L_maps : GoodIn wsL_isTurned wsL_maps := goodIn_r _ [8] (by decide +kernel) (by decide +kernel)
set_option maxRecDepth 20000 in
theorem gL_isTurned_L_maps : GoodIn wsL_isTurned (va_wsS RL 19 yL_maps wsL_maps) := goodIn_app (goodIn_of _ (by decide +kernel)) ggL_isTurned_L_maps
set_option maxRecDepth 20000 in
theorem ggL_isTurned_L_put : GoodIn wsL_isTurned wsL_put := goodIn_r _ [11, 1, 2, 3, 4, 5, 12, 13, 14, 6, 7, 8, 15, 16, 17, 18, 19, 20, 21, 22, 23, 24, 25, 26, 27, 28] (by decide +kernel) (by decide +kernel)
set_option maxRecDepth 20000 in
theorem gL_isTurned_L_put : GoodIn wsL_isTurned (va_wsS RL 43 yL_put wsL_put) := goodIn_app (goodIn_of _ (by decide +kernel)) ggL_isTurned_L_put
set_option maxRecDepth 20000 in
theorem ggL_isTurned_L_image : GoodIn wsL_isTurned wsL_image := goodIn_r _ [14, 6, 7, 4, 8] (by decide +kernel) (by decide +kernel)
set_option maxRecDepth 20000 in
theorem gL_isTurned_L_image : GoodIn wsL_isTurned (va_wsS RL 27 yL_image wsL_image) := goodIn_app (goodIn_of _ (by decide +kernel)) ggL_isTurned_L_image
set_option maxRecDepth 20000 in
theorem ggL_isTurned_X7_symmetries : GoodIn wsL_isTurned wsX7_symmetries := goodIn_ca (goodIn_r _ [33, 34, 35, 36, 37, 32, 38, 39, 40, 41, 42, 43, 44, 45, 46, 47, 48, 49, 50, 51, 52, 53, 54, 55, 56, 57, 58, 59, 60, 61, 62, 63, 64, 65, 66, 67, 68, 69, 70, 71, 72, 73, 74, 75, 76, 77, 78, 79, 80, 81, 82, 83, 84, 85, 86, 87, 88, 89, 90, 91, 92, 93, 94, 95, 96, 97, 98, 99, 100, 101, 102, 103, 123, 124, 125, 126, 127, 128, 129, 130, 131, 132, 133, 134, 135, 136, 137, 138] (by decide +kernel) (by decide +kernel)) (goodIn_sub (fun _ h => List.mem_cons_of_mem _ (List.mem_append_right _ h)) (by decide +kernel))
set_option maxRecDepth 20000 in
theorem gL_isTurned_X7_symmetries : GoodIn wsL_isTurned (wsV RL 85 RX7 yX7_symmetries wsX7_symmetries) := goodIn_app (goodIn_of _ (by decide +kernel)) ggL_isTurned_X7_symmetries
set_option maxRecDepth 20000 in
theorem ggL_isTurned_X7_orbit : GoodIn wsL_isTurned wsX7_orbit := goodIn_ca (goodIn_r _ [107, 34, 35, 36, 37, 32, 38, 39, 40, 41, 108, 109, 110, 42, 43, 44, 45, 46, 47, 48, 49, 50, 51, 52, 53, 54, 55, 56, 57, 58, 59, 60, 61, 62, 63, 64, 65, 66, 67, 68, 69, 70, 71, 72, 73, 74, 75, 76, 77, 78, 79, 80, 81, 82, 83, 84, 85, 86, 87, 88, 89, 90, 91, 92, 93, 94, 95, 96, 97, 98, 99, 100, 111, 112, 113, 114, 115, 116, 117, 123, 124, 125, 126, 127, 128, 129, 130, 131, 132, 133, 134, 135, 136, 137, 138] (by decide +kernel) (by decide +kernel)) (goodIn_sub (fun _ h => List.mem_cons_of_mem _ (List.mem_append_right _ h)) (by decide +kernel))
set_option maxRecDepth 20000 in
theorem gL_isTurned_X7_orbit : GoodIn wsL_isTurned (wsV RL 88 RX7 yX7_orbit wsX7_orbit) := goodIn_app (goodIn_of _ (by decide +kernel)) ggL_isTurned_X7_orbit
set_option maxRecDepth 20000 in
theorem ggL_isTurned_X7_orbits : GoodIn wsL_isTurned wsX7_orbits := goodIn_ca (goodIn_r _ [121, 34, 35, 36, 37, 32, 38, 39, 40, 41, 42, 43, 44, 45, 46, 47, 48, 49, 50, 51, 52, 53, 54, 55, 56, 57, 58, 59, 60, 61, 62, 63, 64, 65, 66, 67, 68, 69, 70, 71, 72, 73, 74, 75, 76, 77, 78, 79, 80, 81, 82, 83, 84, 85, 86, 87, 88, 89, 90, 91, 92, 93, 94, 95, 96, 97, 98, 99, 100, 111, 112, 113, 114, 115, 116, 117, 122, 123, 124, 125, 126, 127, 128, 129, 130, 131, 132, 133, 134, 135, 136, 137, 138] (by decide +kernel) (by decide +kernel)) (goodIn_sub (fun _ h => List.mem_cons_of_mem _ (List.mem_append_right _ h)) (by decide +kernel))
set_option maxRecDepth 20000 in
theorem gL_isTurned_X7_orbits : GoodIn wsL_isTurned (wsV RL 91 RX7 yX7_orbits wsX7_orbits) := goodIn_app (goodIn_of _ (by decide +kernel)) ggL_isTurned_X7_orbits
theorem wd_L_isTurned_0 : Cond.arrayClass .int ∈ wsL_isTurned := by decide +kernel
def r_L_isTurned : Room := { frames := 15, cells := 139, slots := 1080, locals := 377 }
set_option maxRecDepth 100000 in
set_option maxHeartbeats 4000000 in
theorem w_L_isTurned_101 {K : zK} {w : Nat} (hk : zIs K RL cL_isTurned 10 wsL_isTurned (some .boolean) r_L_isTurned) (hfl : (kL K).stackTraces = false) (hnx : zNX K) {r0 : Int32} {τ0 : zST} (hq : zQG K (.inr (some (.int r0))) τ0) (hw : eN (kZ K) = (w + 1)) (cs ss : Nat) (C S : Nat) (hr1 : cs + 0 ≤ C) (hr2 : ss + 0 ≤ S) (hb1 : cs + 0 ≤ 139) (hb2 : ss + 0 ≤ 1080) (F : Nat) (k18 : Nat → Int32 → Int64 → Int32 → Int32 → Nat → Int32 → zST → Option (Int32 × zST)) (hk18 : ∀ (a0 : Nat) (a1 : Int32) (a2 : Int64) (a4 : Int32) (a5 : Int32) (a6 : Nat) (a7 : Int32) (ha0 : atCanonCote (kZ K) a0) (ha6 : aI (kZ K) a6 8) (σ : zST), k18 a0 a1 a2 a4 a5 a6 a7 σ = some (r0, τ0) → Z K C S 18 [(0, .ref (eA (kZ K) a0)), (1, .int a1), (2, .long a2), (4, .int a4), (5, .int a5), (6, .ref (eA (kZ K) a6)), (7, .int a7)] [] σ) (a0 : Nat) (a1 : Int32) (a2 : Int64) (a4 : Int32) (a5 : Int32) (a6 : Nat) (a7 : Int32) (ha0 : atCanonCote (kZ K) a0) (ha6 : aI (kZ K) a6 8) (σ : zST) (h : m_L_isTurned_101 F w k18 a0 a1 a2 a4 a5 a6 a7 σ = some (r0, τ0)) : Z K cs ss 101 [(0, .ref (eA (kZ K) a0)), (1, .int a1), (2, .long a2), (4, .int a4), (5, .int a5), (6, .ref (eA (kZ K) a6)), (7, .int a7)] [] σ := by
  unfold m_L_isTurned_101 at h
  obtain ⟨x57, e58, h⟩ := nm_get h
  refine Z_iinc hk 6 (v := x57) (lv' := [(7, .int x57), (0, .ref (eA (kZ K) a0)), (1, .int a1), (2, .long a2), (4, .int a4), (5, .int a5), (6, .ref (eA (kZ K) a6))]) dL_isTurned_101 rfl (by rw [zc_iinc_1]; exact e58) (by decide) rfl ?_
  refine Z_goto hk (tgt := 18) dL_isTurned_104 (by decide) ?_
  refine Z_sub [1, 2, 3, 4, 5, 6, 0] rfl ?_
  refine Z_widen (cs' := C) (ss' := S) (by omega) (by omega) ?_
  exact hk18 a0 a1 a2 a4 a5 a6 x57 ha0 ha6 σ h
set_option maxRecDepth 100000 in
set_option maxHeartbeats 4000000 in
theorem w_L_isTurned_64 {K : zK} {w : Nat} (hk : zIs K RL cL_isTurned 10 wsL_isTurned (some .boolean) r_L_isTurned) (hfl : (kL K).stackTraces = false) (hnx : zNX K) {r0 : Int32} {τ0 : zST} (hq : zQG K (.inr (some (.int r0))) τ0) (hw : eN (kZ K) = (w + 1)) (cs ss : Nat) (C S : Nat) (hr1 : cs + 0 ≤ C) (hr2 : ss + 0 ≤ S) (hb1 : cs + 0 ≤ 139) (hb2 : ss + 0 ≤ 1080) (F : Nat) (k18 : Nat → Int32 → Int64 → Int32 → Int32 → Nat → Int32 → zST → Option (Int32 × zST)) (hk18 : ∀ (a0 : Nat) (a1 : Int32) (a2 : Int64) (a4 : Int32) (a5 : Int32) (a6 : Nat) (a7 : Int32) (ha0 : atCanonCote (kZ K) a0) (ha6 : aI (kZ K) a6 8) (σ : zST), k18 a0 a1 a2 a4 a5 a6 a7 σ = some (r0, τ0) → Z K C S 18 [(0, .ref (eA (kZ K) a0)), (1, .int a1), (2, .long a2), (4, .int a4), (5, .int a5), (6, .ref (eA (kZ K) a6)), (7, .int a7)] [] σ) : ∀ (n : Nat) (a0 : Nat) (a1 : Int32) (a2 : Int64) (a4 : Int32) (a5 : Int32) (a6 : Nat) (a7 : Int32) (a8 : Int32) (a9 : Int32) (ha0 : atCanonCote (kZ K) a0) (ha6 : aI (kZ K) a6 8) (σ : zST), m_L_isTurned_64 F w k18 n a0 a1 a2 a4 a5 a6 a7 a8 a9 σ = some (r0, τ0) → Z K cs ss 64 [(0, .ref (eA (kZ K) a0)), (1, .int a1), (2, .long a2), (4, .int a4), (5, .int a5), (6, .ref (eA (kZ K) a6)), (7, .int a7), (8, .int a8), (9, .int a9)] [] σ := by
  intro n
  induction n with
  | zero => intro a0 a1 a2 a4 a5 a6 a7 a8 a9 ha0 ha6 σ h; cases h
  | succ n ih =>
    intro a0 a1 a2 a4 a5 a6 a7 a8 a9 ha0 ha6 σ h
    rw [m_L_isTurned_64] at h
    refine Z_iload hk 8 dL_isTurned_64 rfl ?_
    refine Z_iload hk 3 dL_isTurned_66 rfl ?_
    refine Z_icmp_ge hk (tgt := 101) dL_isTurned_68 (by decide) (fun c42 => ?_) (fun c42 => ?_)
    · have h := if_yes h c42
      refine Z_sub [0, 1, 2, 3, 4, 5, 6] rfl ?_
      exact w_L_isTurned_101 hk hfl hnx hq hw cs ss C S (by omega) (by omega) (by omega) (by omega) F k18 hk18 a0 a1 a2 a4 a5 a6 a7 ha0 ha6 σ h
    · have h := if_no h c42
      refine Z_iload hk 7 dL_isTurned_71 rfl ?_
      refine Z_if_eq hk (tgt := 101) dL_isTurned_73 (by decide) (fun c43 => ?_) (fun c43 => ?_)
      · have h := if_yes h c43
        refine Z_sub [0, 1, 2, 3, 4, 5, 6] rfl ?_
        exact w_L_isTurned_101 hk hfl hnx hq hw cs ss C S (by omega) (by omega) (by omega) (by omega) F k18 hk18 a0 a1 a2 a4 a5 a6 a7 ha0 ha6 σ h
      · have h := if_no h c43
        refine Z_aload hk 5 dL_isTurned_76 rfl ?_
        refine Z_iload hk 8 dL_isTurned_78 rfl ?_
        refine Z_dup2 hk dL_isTurned_80 rfl rfl ?_
        obtain ⟨i46, x44, e45, h⟩ := ldI_get h
        refine Z_iald hk ha6 i46 dL_isTurned_81 ?_
        refine Z_eqI e45 ?_
        refine Z_iconst hk dL_isTurned_82 zc_iconst_1 ?_
        refine Z_iload hk 3 dL_isTurned_83 rfl ?_
        refine Z_iload hk 6 dL_isTurned_85 rfl ?_
        refine Z_iload hk 8 dL_isTurned_87 rfl ?_
        obtain ⟨x47, s48, h49, h⟩ := bd_ok h
        refine Z_callT 3 hk [.int a4, .int a7, .int a9] (c_L_image hk.loc hk.inj F a4 a7 a9 σ h49) gL_isTurned_L_image rfl ⟨rfl, rfl⟩ (by decide +kernel) ⟨Nat.le_of_ble_eq_true rfl, Nat.le_of_ble_eq_true rfl⟩ rfl rfl (Nat.le_of_ble_eq_true rfl) ⟨by show cs + 0 ≤ 139; omega, by show ss + 0 ≤ 1080; omega⟩ dL_isTurned_89 ?_
        show Z K cs ss 92 [(0, .ref (eA (kZ K) a0)), (1, .int a1), (2, .long a2), (4, .int a4), (5, .int a5), (6, .ref (eA (kZ K) a6)), (7, .int a7), (8, .int a8), (9, .int a9)] [.int x47, .int 1, .int x44, .int a9, .ref (eA (kZ K) a6)] s48
        refine Z_ishl hk dL_isTurned_92 ?_
        refine Z_ior hk dL_isTurned_93 ?_
        obtain ⟨i52, s50, e51, h⟩ := stI_get h
        refine Z_iast hk ha6 i52 dL_isTurned_94 ?_
        refine Z_eqS e51 ?_
        obtain ⟨x53, e54, h⟩ := nm_get h
        refine Z_iinc hk 8 (v := x53) (lv' := [(9, .int x53), (0, .ref (eA (kZ K) a0)), (1, .int a1), (2, .long a2), (4, .int a4), (5, .int a5), (6, .ref (eA (kZ K) a6)), (7, .int a7), (8, .int a8)]) dL_isTurned_95 rfl (by rw [zc_iinc_1]; exact e54) (by decide) rfl ?_
        refine Z_goto hk (tgt := 64) dL_isTurned_98 (by decide) ?_
        refine Z_sub [1, 2, 3, 4, 5, 6, 7, 8, 0] rfl ?_
        exact ih a0 a1 a2 a4 a5 a6 a7 a8 x53 ha0 ha6 s50 h
set_option maxRecDepth 100000 in
set_option maxHeartbeats 4000000 in
theorem w_L_isTurned_58 {K : zK} {w : Nat} (hk : zIs K RL cL_isTurned 10 wsL_isTurned (some .boolean) r_L_isTurned) (hfl : (kL K).stackTraces = false) (hnx : zNX K) {r0 : Int32} {τ0 : zST} (hq : zQG K (.inr (some (.int r0))) τ0) (hw : eN (kZ K) = (w + 1)) (cs ss : Nat) (C S : Nat) (hr1 : cs + 0 ≤ C) (hr2 : ss + 0 ≤ S) (hb1 : cs + 0 ≤ 139) (hb2 : ss + 0 ≤ 1080) (F : Nat) (k18 : Nat → Int32 → Int64 → Int32 → Int32 → Nat → Int32 → zST → Option (Int32 × zST)) (hk18 : ∀ (a0 : Nat) (a1 : Int32) (a2 : Int64) (a4 : Int32) (a5 : Int32) (a6 : Nat) (a7 : Int32) (ha0 : atCanonCote (kZ K) a0) (ha6 : aI (kZ K) a6 8) (σ : zST), k18 a0 a1 a2 a4 a5 a6 a7 σ = some (r0, τ0) → Z K C S 18 [(0, .ref (eA (kZ K) a0)), (1, .int a1), (2, .long a2), (4, .int a4), (5, .int a5), (6, .ref (eA (kZ K) a6)), (7, .int a7)] [] σ) (a0 : Nat) (a1 : Int32) (a2 : Int64) (a4 : Int32) (a6 : Nat) (a7 : Int32) (a8 : Int32) (t0 : Int32) (t1 : Int32) (ha0 : atCanonCote (kZ K) a0) (ha6 : aI (kZ K) a6 8) (σ : zST) (h : m_L_isTurned_58 F w k18 a0 a1 a2 a4 a6 a7 a8 t0 t1 σ = some (r0, τ0)) : Z K cs ss 58 [(0, .ref (eA (kZ K) a0)), (1, .int a1), (2, .long a2), (4, .int a4), (6, .ref (eA (kZ K) a6)), (7, .int a7), (8, .int a8)] [.int t0, .int t1] σ := by
  unfold m_L_isTurned_58 at h
  refine Z_iadd hk dL_isTurned_58 ?_
  obtain ⟨x30, e31, h⟩ := nm_get h
  refine Z_eqI e31 ?_
  refine Z_istore hk (lv' := [(5, .int x30), (0, .ref (eA (kZ K) a0)), (1, .int a1), (2, .long a2), (4, .int a4), (6, .ref (eA (kZ K) a6)), (7, .int a7), (8, .int a8)]) dL_isTurned_59 (by decide) rfl ?_
  refine Z_iconst hk dL_isTurned_61 zc_iconst_0 ?_
  refine Z_istore hk (lv' := [(9, .int 0), (5, .int x30), (0, .ref (eA (kZ K) a0)), (1, .int a1), (2, .long a2), (4, .int a4), (6, .ref (eA (kZ K) a6)), (7, .int a7), (8, .int a8)]) dL_isTurned_62 (by decide) rfl ?_
  refine Z_sub [2, 3, 4, 5, 1, 6, 7, 8, 0] rfl ?_
  exact w_L_isTurned_64 hk hfl hnx hq hw cs ss C S (by omega) (by omega) (by omega) (by omega) F k18 hk18 F a0 a1 a2 a4 x30 a6 a7 a8 0 ha0 ha6 σ h
set_option maxRecDepth 100000 in
set_option maxHeartbeats 4000000 in
theorem w_L_isTurned_44 {K : zK} {w : Nat} (hk : zIs K RL cL_isTurned 10 wsL_isTurned (some .boolean) r_L_isTurned) (hfl : (kL K).stackTraces = false) (hnx : zNX K) {r0 : Int32} {τ0 : zST} (hq : zQG K (.inr (some (.int r0))) τ0) (hw : eN (kZ K) = (w + 1)) (cs ss : Nat) (C S : Nat) (hr1 : cs + 0 ≤ C) (hr2 : ss + 0 ≤ S) (hb1 : cs + 0 ≤ 139) (hb2 : ss + 0 ≤ 1080) (F : Nat) (k18 : Nat → Int32 → Int64 → Int32 → Int32 → Nat → Int32 → zST → Option (Int32 × zST)) (hk18 : ∀ (a0 : Nat) (a1 : Int32) (a2 : Int64) (a4 : Int32) (a5 : Int32) (a6 : Nat) (a7 : Int32) (ha0 : atCanonCote (kZ K) a0) (ha6 : aI (kZ K) a6 8) (σ : zST), k18 a0 a1 a2 a4 a5 a6 a7 σ = some (r0, τ0) → Z K C S 18 [(0, .ref (eA (kZ K) a0)), (1, .int a1), (2, .long a2), (4, .int a4), (5, .int a5), (6, .ref (eA (kZ K) a6)), (7, .int a7)] [] σ) (a0 : Nat) (a1 : Int32) (a2 : Int64) (a4 : Int32) (a5 : Int32) (a6 : Nat) (a7 : Int32) (t0 : Int32) (ha0 : atCanonCote (kZ K) a0) (ha6 : aI (kZ K) a6 8) (σ : zST) (h : m_L_isTurned_44 F w k18 a0 a1 a2 a4 a5 a6 a7 t0 σ = some (r0, τ0)) : Z K cs ss 44 [(0, .ref (eA (kZ K) a0)), (1, .int a1), (2, .long a2), (4, .int a4), (5, .int a5), (6, .ref (eA (kZ K) a6)), (7, .int a7)] [.int t0] σ := by
  unfold m_L_isTurned_44 at h
  refine Z_istore hk (lv' := [(8, .int t0), (0, .ref (eA (kZ K) a0)), (1, .int a1), (2, .long a2), (4, .int a4), (5, .int a5), (6, .ref (eA (kZ K) a6)), (7, .int a7)]) dL_isTurned_44 (by decide) rfl ?_
  refine Z_iload hk 5 dL_isTurned_46 rfl ?_
  refine Z_iload hk 0 dL_isTurned_48 rfl ?_
  refine Z_if_eq hk (tgt := 57) dL_isTurned_50 (by decide) (fun c18 => ?_) (fun c18 => ?_)
  · have h := if_yes h c18
    refine Z_iconst hk dL_isTurned_57 zc_iconst_0 ?_
    refine Z_sub [1, 2, 3, 4, 6, 7, 0] rfl ?_
    exact w_L_isTurned_58 hk hfl hnx hq hw cs ss C S (by omega) (by omega) (by omega) (by omega) F k18 hk18 a0 a1 a2 a4 a6 a7 t0 0 a5 ha0 ha6 σ h
  · have h := if_no h c18
    refine Z_iconst hk dL_isTurned_53 zc_iconst_1 ?_
    refine Z_goto hk (tgt := 58) dL_isTurned_54 (by decide) ?_
    refine Z_sub [1, 2, 3, 4, 6, 7, 0] rfl ?_
    exact w_L_isTurned_58 hk hfl hnx hq hw cs ss C S (by omega) (by omega) (by omega) (by omega) F k18 hk18 a0 a1 a2 a4 a6 a7 t0 1 a5 ha0 ha6 σ h
set_option maxRecDepth 100000 in
set_option maxHeartbeats 4000000 in
theorem w_L_isTurned_185 {K : zK} {w : Nat} (hk : zIs K RL cL_isTurned 10 wsL_isTurned (some .boolean) r_L_isTurned) (hfl : (kL K).stackTraces = false) (hnx : zNX K) {r0 : Int32} {τ0 : zST} (hq : zQG K (.inr (some (.int r0))) τ0) (hw : eN (kZ K) = (w + 1)) (cs ss : Nat) (C S : Nat) (hr1 : cs + 0 ≤ C) (hr2 : ss + 0 ≤ S) (hb1 : cs + 0 ≤ 139) (hb2 : ss + 0 ≤ 1080) (F : Nat) (k130 : Nat → Int32 → Int32 → Nat → Int32 → Int32 → Int32 → zST → Option (Int32 × zST)) (hk130 : ∀ (a0 : Nat) (a1 : Int32) (a4 : Int32) (a6 : Nat) (a7 : Int32) (a8 : Int32) (a9 : Int32) (ha0 : atCanonCote (kZ K) a0) (ha6 : aI (kZ K) a6 8) (σ : zST), k130 a0 a1 a4 a6 a7 a8 a9 σ = some (r0, τ0) → Z K C S 130 [(0, .ref (eA (kZ K) a0)), (1, .int a1), (4, .int a4), (6, .ref (eA (kZ K) a6)), (7, .int a7), (8, .int a8), (9, .int a9)] [] σ) (a0 : Nat) (a1 : Int32) (a4 : Int32) (a6 : Nat) (a7 : Int32) (a9 : Int32) (t0 : Int32) (ha0 : atCanonCote (kZ K) a0) (ha6 : aI (kZ K) a6 8) (σ : zST) (h : m_L_isTurned_185 F w k130 a0 a1 a4 a6 a7 a9 t0 σ = some (r0, τ0)) : Z K cs ss 185 [(0, .ref (eA (kZ K) a0)), (1, .int a1), (4, .int a4), (6, .ref (eA (kZ K) a6)), (7, .int a7), (9, .int a9)] [.int t0] σ := by
  unfold m_L_isTurned_185 at h
  refine Z_istore hk (lv' := [(8, .int t0), (0, .ref (eA (kZ K) a0)), (1, .int a1), (4, .int a4), (6, .ref (eA (kZ K) a6)), (7, .int a7), (9, .int a9)]) dL_isTurned_185 (by decide) rfl ?_
  obtain ⟨x55, e56, h⟩ := nm_get h
  refine Z_iinc hk 6 (v := x55) (lv' := [(9, .int x55), (8, .int t0), (0, .ref (eA (kZ K) a0)), (1, .int a1), (4, .int a4), (6, .ref (eA (kZ K) a6)), (7, .int a7)]) dL_isTurned_187 rfl (by rw [zc_iinc_1]; exact e56) (by decide) rfl ?_
  refine Z_goto hk (tgt := 130) dL_isTurned_190 (by decide) ?_
  refine Z_sub [2, 3, 4, 5, 6, 1, 0] rfl ?_
  refine Z_widen (cs' := C) (ss' := S) (by omega) (by omega) ?_
  exact hk130 a0 a1 a4 a6 a7 t0 x55 ha0 ha6 σ h
set_option maxRecDepth 100000 in
set_option maxHeartbeats 4000000 in
theorem w_L_isTurned_184 {K : zK} {w : Nat} (hk : zIs K RL cL_isTurned 10 wsL_isTurned (some .boolean) r_L_isTurned) (hfl : (kL K).stackTraces = false) (hnx : zNX K) {r0 : Int32} {τ0 : zST} (hq : zQG K (.inr (some (.int r0))) τ0) (hw : eN (kZ K) = (w + 1)) (cs ss : Nat) (C S : Nat) (hr1 : cs + 0 ≤ C) (hr2 : ss + 0 ≤ S) (hb1 : cs + 0 ≤ 139) (hb2 : ss + 0 ≤ 1080) (F : Nat) (k130 : Nat → Int32 → Int32 → Nat → Int32 → Int32 → Int32 → zST → Option (Int32 × zST)) (hk130 : ∀ (a0 : Nat) (a1 : Int32) (a4 : Int32) (a6 : Nat) (a7 : Int32) (a8 : Int32) (a9 : Int32) (ha0 : atCanonCote (kZ K) a0) (ha6 : aI (kZ K) a6 8) (σ : zST), k130 a0 a1 a4 a6 a7 a8 a9 σ = some (r0, τ0) → Z K C S 130 [(0, .ref (eA (kZ K) a0)), (1, .int a1), (4, .int a4), (6, .ref (eA (kZ K) a6)), (7, .int a7), (8, .int a8), (9, .int a9)] [] σ) (a0 : Nat) (a1 : Int32) (a4 : Int32) (a6 : Nat) (a7 : Int32) (a9 : Int32) (ha0 : atCanonCote (kZ K) a0) (ha6 : aI (kZ K) a6 8) (σ : zST) (h : m_L_isTurned_184 F w k130 a0 a1 a4 a6 a7 a9 σ = some (r0, τ0)) : Z K cs ss 184 [(0, .ref (eA (kZ K) a0)), (1, .int a1), (4, .int a4), (6, .ref (eA (kZ K) a6)), (7, .int a7), (9, .int a9)] [] σ := by
  unfold m_L_isTurned_184 at h
  refine Z_iconst hk dL_isTurned_184 zc_iconst_0 ?_
  refine Z_sub [0, 1, 2, 3, 4, 5] rfl ?_
  exact w_L_isTurned_185 hk hfl hnx hq hw cs ss C S (by omega) (by omega) (by omega) (by omega) F k130 hk130 a0 a1 a4 a6 a7 a9 0 ha0 ha6 σ h
set_option maxRecDepth 100000 in
set_option maxHeartbeats 4000000 in
theorem w_L_isTurned_157 {K : zK} {w : Nat} (hk : zIs K RL cL_isTurned 10 wsL_isTurned (some .boolean) r_L_isTurned) (hfl : (kL K).stackTraces = false) (hnx : zNX K) {r0 : Int32} {τ0 : zST} (hq : zQG K (.inr (some (.int r0))) τ0) (hw : eN (kZ K) = (w + 1)) (cs ss : Nat) (C S : Nat) (hr1 : cs + 2 ≤ C) (hr2 : ss + 12 ≤ S) (hb1 : cs + 0 ≤ 139) (hb2 : ss + 0 ≤ 1080) (F : Nat) (k130 : Nat → Int32 → Int32 → Nat → Int32 → Int32 → Int32 → zST → Option (Int32 × zST)) (hk130 : ∀ (a0 : Nat) (a1 : Int32) (a4 : Int32) (a6 : Nat) (a7 : Int32) (a8 : Int32) (a9 : Int32) (ha0 : atCanonCote (kZ K) a0) (ha6 : aI (kZ K) a6 8) (σ : zST), k130 a0 a1 a4 a6 a7 a8 a9 σ = some (r0, τ0) → Z K C S 130 [(0, .ref (eA (kZ K) a0)), (1, .int a1), (4, .int a4), (6, .ref (eA (kZ K) a6)), (7, .int a7), (8, .int a8), (9, .int a9)] [] σ) (a0 : Nat) (a1 : Int32) (a4 : Int32) (a6 : Nat) (a8 : Int32) (a9 : Int32) (t0 : Int32) (t1 : Int32) (ha0 : atCanonCote (kZ K) a0) (ha6 : aI (kZ K) a6 8) (σ : zST) (h : m_L_isTurned_157 F w k130 a0 a1 a4 a6 a8 a9 t0 t1 σ = some (r0, τ0)) : Z K cs ss 157 [(0, .ref (eA (kZ K) a0)), (1, .int a1), (4, .int a4), (6, .ref (eA (kZ K) a6)), (8, .int a8), (9, .int a9)] [.int t0, .int t1] σ := by
  unfold m_L_isTurned_157 at h
  refine Z_iadd hk dL_isTurned_157 ?_
  obtain ⟨x32, e33, h⟩ := nm_get h
  refine Z_eqI e33 ?_
  refine Z_istore hk (lv' := [(7, .int x32), (0, .ref (eA (kZ K) a0)), (1, .int a1), (4, .int a4), (6, .ref (eA (kZ K) a6)), (8, .int a8), (9, .int a9)]) dL_isTurned_158 (by decide) rfl ?_
  refine Z_iload hk 5 dL_isTurned_160 rfl ?_
  refine Z_if_eq hk (tgt := 184) dL_isTurned_162 (by decide) (fun c34 => ?_) (fun c34 => ?_)
  · have h := if_yes h c34
    refine Z_sub [1, 2, 3, 4, 0, 6] rfl ?_
    exact w_L_isTurned_184 hk hfl hnx hq hw cs ss C S (by omega) (by omega) (by omega) (by omega) F k130 hk130 a0 a1 a4 a6 x32 a9 ha0 ha6 σ h
  · have h := if_no h c34
    refine Z_aload_n hk 1 dL_isTurned_165 rfl rfl ?_
    refine Z_iload_n hk 2 dL_isTurned_166 rfl rfl ?_
    refine Z_iload hk 6 dL_isTurned_167 rfl ?_
    obtain ⟨x35, s36, h37, h⟩ := br_ok h
    refine ZX_callV 2 hk [.int a1, .int a9] (c_X7_orbit hk.loc hk.inj hfl F a0 a1 a9 ha0 σ h37) gL_isTurned_X7_orbit rfl ⟨rfl, by decide +kernel, by decide +kernel, by decide +kernel⟩ ⟨Nat.le_of_ble_eq_true rfl, Nat.le_of_ble_eq_true rfl⟩ ha0.cell.1 (ha0.cell.2 _) rfl rfl rfl (Nat.le_of_ble_eq_true rfl) ⟨by show cs + 2 ≤ 139; omega, by show ss + 12 ≤ 1080; omega⟩ dL_isTurned_169 (fun X hX => by cases hX) (fun v hv => ?_)
    cases hv
    show Z K (cs + 2) (ss + 12) 172 [(7, .int x32), (0, .ref (eA (kZ K) a0)), (1, .int a1), (4, .int a4), (6, .ref (eA (kZ K) a6)), (8, .int a8), (9, .int a9)] [.int x35] s36
    refine Z_aload hk 4 dL_isTurned_172 rfl ?_
    refine Z_iload hk 6 dL_isTurned_174 rfl ?_
    obtain ⟨i40, x38, e39, h⟩ := ldI_get h
    refine Z_iald hk ha6 i40 dL_isTurned_176 ?_
    refine Z_eqI e39 ?_
    refine Z_icmp_ne hk (tgt := 184) dL_isTurned_177 (by decide) (fun c41 => ?_) (fun c41 => ?_)
    · have h := if_yes h c41
      refine Z_iconst hk dL_isTurned_180 zc_iconst_1 ?_
      refine Z_goto hk (tgt := 185) dL_isTurned_181 (by decide) ?_
      refine Z_sub [1, 2, 3, 4, 0, 6] rfl ?_
      exact w_L_isTurned_185 hk hfl hnx hq hw (cs + 2) (ss + 12) C S (by omega) (by omega) (by omega) (by omega) F k130 hk130 a0 a1 a4 a6 x32 a9 1 ha0 ha6 s36 h
    · have h := if_no h c41
      refine Z_sub [1, 2, 3, 4, 0, 6] rfl ?_
      exact w_L_isTurned_184 hk hfl hnx hq hw (cs + 2) (ss + 12) C S (by omega) (by omega) (by omega) (by omega) F k130 hk130 a0 a1 a4 a6 x32 a9 ha0 ha6 s36 h
set_option maxRecDepth 100000 in
set_option maxHeartbeats 4000000 in
theorem w_L_isTurned_212 {K : zK} {w : Nat} (hk : zIs K RL cL_isTurned 10 wsL_isTurned (some .boolean) r_L_isTurned) (hfl : (kL K).stackTraces = false) (hnx : zNX K) {r0 : Int32} {τ0 : zST} (hq : zQG K (.inr (some (.int r0))) τ0) (hw : eN (kZ K) = (w + 1)) (cs ss : Nat) (hb1 : cs + 0 ≤ 139) (hb2 : ss + 0 ≤ 1080) (F : Nat)  (σ : zST) (h : m_L_isTurned_212 F w σ = some (r0, τ0)) : Z K cs ss 212 [] [] σ := by
  unfold m_L_isTurned_212 at h
  refine Z_iconst hk dL_isTurned_212 zc_iconst_0 ?_
  cases h
  exact ZG_zret hk (by decide) hq ⟨by show cs + 0 ≤ 139; omega, by show ss + 0 ≤ 1080; omega⟩ dL_isTurned_213
set_option maxRecDepth 100000 in
set_option maxHeartbeats 4000000 in
theorem w_L_isTurned_130 {K : zK} {w : Nat} (hk : zIs K RL cL_isTurned 10 wsL_isTurned (some .boolean) r_L_isTurned) (hfl : (kL K).stackTraces = false) (hnx : zNX K) {r0 : Int32} {τ0 : zST} (hq : zQG K (.inr (some (.int r0))) τ0) (hw : eN (kZ K) = (w + 1)) (F : Nat) : ∀ (n : Nat) (cs ss : Nat) (hb1 : cs + 2 * n + 1 ≤ 139) (hb2 : ss + 12 * n + 6 ≤ 1080) (a0 : Nat) (a1 : Int32) (a4 : Int32) (a6 : Nat) (a7 : Int32) (a8 : Int32) (a9 : Int32) (ha0 : atCanonCote (kZ K) a0) (ha6 : aI (kZ K) a6 8) (σ : zST), m_L_isTurned_130 F w n a0 a1 a4 a6 a7 a8 a9 σ = some (r0, τ0) → Z K cs ss 130 [(0, .ref (eA (kZ K) a0)), (1, .int a1), (4, .int a4), (6, .ref (eA (kZ K) a6)), (7, .int a7), (8, .int a8), (9, .int a9)] [] σ := by
  intro n
  induction n with
  | zero => intro cs ss hb1 hb2 a0 a1 a4 a6 a7 a8 a9 ha0 ha6 σ h; cases h
  | succ n ih0 =>
    intro cs ss hb1 hb2 a0 a1 a4 a6 a7 a8 a9 ha0 ha6 σ h
    have ih := ih0 (cs + 2) (ss + 12) (by omega) (by omega)
    rw [m_L_isTurned_130] at h
    refine Z_iload hk 6 dL_isTurned_130 rfl ?_
    refine Z_iload hk 2 dL_isTurned_132 rfl ?_
    refine Z_icmp_ge hk (tgt := 193) dL_isTurned_134 (by decide) (fun c19 => ?_) (fun c19 => ?_)
    · have h := if_yes h c19
      refine Z_iload hk 5 dL_isTurned_193 rfl ?_
      refine Z_if_eq hk (tgt := 212) dL_isTurned_195 (by decide) (fun c20 => ?_) (fun c20 => ?_)
      · have h := if_yes h c20
        refine Z_sub [] rfl ?_
        exact w_L_isTurned_212 hk hfl hnx hq hw cs ss (by omega) (by omega) F σ h
      · have h := if_no h c20
        refine Z_aload_n hk 0 dL_isTurned_198 rfl rfl ?_
        refine Z_iload_n hk 1 dL_isTurned_199 rfl rfl ?_
        obtain ⟨x21, s22, h23, h⟩ := br_ok h
        refine ZX_callV 1 hk [.int a1] (c_X7_orbits hk.loc hk.inj hfl F a0 a1 ha0 σ h23) gL_isTurned_X7_orbits rfl ⟨rfl, by decide +kernel, by decide +kernel, by decide +kernel⟩ ⟨Nat.le_of_ble_eq_true rfl, Nat.le_of_ble_eq_true rfl⟩ ha0.cell.1 (ha0.cell.2 _) rfl rfl rfl (Nat.le_of_ble_eq_true rfl) ⟨by show cs + 1 ≤ 139; omega, by show ss + 6 ≤ 1080; omega⟩ dL_isTurned_200 (fun X hX => by cases hX) (fun v hv => ?_)
        cases hv
        show Z K (cs + 1) (ss + 6) 203 [(0, .ref (eA (kZ K) a0)), (1, .int a1), (4, .int a4), (6, .ref (eA (kZ K) a6)), (7, .int a7), (8, .int a8), (9, .int a9)] [.int x21] s22
        refine Z_iload hk 4 dL_isTurned_203 rfl ?_
        refine Z_icmp_ne hk (tgt := 212) dL_isTurned_205 (by decide) (fun c24 => ?_) (fun c24 => ?_)
        · have h := if_yes h c24
          refine Z_iconst hk dL_isTurned_208 zc_iconst_1 ?_
          refine Z_goto hk (tgt := 213) dL_isTurned_209 (by decide) ?_
          cases h
          exact ZG_zret hk (by decide) hq ⟨by show (cs + 1) + 0 ≤ 139; omega, by show (ss + 6) + 0 ≤ 1080; omega⟩ dL_isTurned_213
        · have h := if_no h c24
          refine Z_sub [] rfl ?_
          exact w_L_isTurned_212 hk hfl hnx hq hw (cs + 1) (ss + 6) (by omega) (by omega) F s22 h
    · have h := if_no h c19
      refine Z_iload hk 4 dL_isTurned_137 rfl ?_
      refine Z_aload hk 3 dL_isTurned_139 rfl ?_
      refine Z_iload hk 6 dL_isTurned_141 rfl ?_
      obtain ⟨i27, x25, e26, h⟩ := ldI_get h
      refine Z_iald hk ha6 i27 dL_isTurned_143 ?_
      refine Z_eqI e26 ?_
      refine Z_iconst hk dL_isTurned_144 zc_iconst_1 ?_
      refine Z_iload hk 6 dL_isTurned_145 rfl ?_
      refine Z_ishl hk dL_isTurned_147 ?_
      obtain ⟨z28, h⟩ := gd_some h
      refine Z_irem hk dL_isTurned_148 z28 ?_
      refine Z_if_ne hk (tgt := 156) dL_isTurned_149 (by decide) (fun c29 => ?_) (fun c29 => ?_)
      · have h := if_yes h c29
        refine Z_iconst hk dL_isTurned_152 zc_iconst_1 ?_
        refine Z_goto hk (tgt := 157) dL_isTurned_153 (by decide) ?_
        refine Z_sub [0, 1, 2, 3, 5, 6] rfl ?_
        exact w_L_isTurned_157 hk hfl hnx hq hw cs ss (cs + 2) (ss + 12) (by omega) (by omega) (by omega) (by omega) F (m_L_isTurned_130 F w n) ih a0 a1 a4 a6 a8 a9 1 a7 ha0 ha6 σ h
      · have h := if_no h c29
        refine Z_iconst hk dL_isTurned_156 zc_iconst_0 ?_
        refine Z_sub [0, 1, 2, 3, 5, 6] rfl ?_
        exact w_L_isTurned_157 hk hfl hnx hq hw cs ss (cs + 2) (ss + 12) (by omega) (by omega) (by omega) (by omega) F (m_L_isTurned_130 F w n) ih a0 a1 a4 a6 a8 a9 0 a7 ha0 ha6 σ h
set_option maxRecDepth 100000 in
set_option maxHeartbeats 4000000 in
theorem w_L_isTurned_125 {K : zK} {w : Nat} (hk : zIs K RL cL_isTurned 10 wsL_isTurned (some .boolean) r_L_isTurned) (hfl : (kL K).stackTraces = false) (hnx : zNX K) {r0 : Int32} {τ0 : zST} (hq : zQG K (.inr (some (.int r0))) τ0) (hw : eN (kZ K) = (w + 1)) (cs ss : Nat) (hb1 : cs + 15 ≤ 139) (hb2 : ss + 90 ≤ 1080) (F : Nat) (a0 : Nat) (a1 : Int32) (a4 : Int32) (a6 : Nat) (a7 : Int32) (t0 : Int32) (ha0 : atCanonCote (kZ K) a0) (ha6 : aI (kZ K) a6 8) (σ : zST) (h : m_L_isTurned_125 F w a0 a1 a4 a6 a7 t0 σ = some (r0, τ0)) : Z K cs ss 125 [(0, .ref (eA (kZ K) a0)), (1, .int a1), (4, .int a4), (6, .ref (eA (kZ K) a6)), (7, .int a7)] [.int t0] σ := by
  unfold m_L_isTurned_125 at h
  refine Z_istore hk (lv' := [(8, .int t0), (0, .ref (eA (kZ K) a0)), (1, .int a1), (4, .int a4), (6, .ref (eA (kZ K) a6)), (7, .int a7)]) dL_isTurned_125 (by decide) rfl ?_
  refine Z_iconst hk dL_isTurned_127 zc_iconst_0 ?_
  refine Z_istore hk (lv' := [(9, .int 0), (8, .int t0), (0, .ref (eA (kZ K) a0)), (1, .int a1), (4, .int a4), (6, .ref (eA (kZ K) a6)), (7, .int a7)]) dL_isTurned_128 (by decide) rfl ?_
  refine Z_sub [2, 3, 4, 5, 6, 1, 0] rfl ?_
  exact w_L_isTurned_130 hk hfl hnx hq hw F 7 cs ss (by omega) (by omega) a0 a1 a4 a6 a7 t0 0 ha0 ha6 σ h
set_option maxRecDepth 100000 in
set_option maxHeartbeats 4000000 in
theorem w_L_isTurned_18 {K : zK} {w : Nat} (hk : zIs K RL cL_isTurned 10 wsL_isTurned (some .boolean) r_L_isTurned) (hfl : (kL K).stackTraces = false) (hnx : zNX K) {r0 : Int32} {τ0 : zST} (hq : zQG K (.inr (some (.int r0))) τ0) (hw : eN (kZ K) = (w + 1)) (F : Nat) : ∀ (n : Nat) (cs ss : Nat) (hb1 : cs + 1 * n + 16 ≤ 139) (hb2 : ss + 8 * n + 96 ≤ 1080) (a0 : Nat) (a1 : Int32) (a2 : Int64) (a4 : Int32) (a5 : Int32) (a6 : Nat) (a7 : Int32) (ha0 : atCanonCote (kZ K) a0) (ha6 : aI (kZ K) a6 8) (σ : zST), m_L_isTurned_18 F w n a0 a1 a2 a4 a5 a6 a7 σ = some (r0, τ0) → Z K cs ss 18 [(0, .ref (eA (kZ K) a0)), (1, .int a1), (2, .long a2), (4, .int a4), (5, .int a5), (6, .ref (eA (kZ K) a6)), (7, .int a7)] [] σ := by
  intro n
  induction n with
  | zero => intro cs ss hb1 hb2 a0 a1 a2 a4 a5 a6 a7 ha0 ha6 σ h; cases h
  | succ n ih0 =>
    intro cs ss hb1 hb2 a0 a1 a2 a4 a5 a6 a7 ha0 ha6 σ h
    have ih := ih0 (cs + 1) (ss + 8) (by omega) (by omega)
    rw [m_L_isTurned_18] at h
    refine Z_iload hk 6 dL_isTurned_18 rfl ?_
    refine Z_iload hk 3 dL_isTurned_20 rfl ?_
    obtain ⟨x6, s7, h8, h⟩ := bd_ok h
    refine Z_callT 1 hk [.int a4] (c_L_maps hk.loc hk.inj F a4 σ h8) gL_isTurned_L_maps rfl ⟨rfl, rfl⟩ (by decide +kernel) ⟨Nat.le_of_ble_eq_true rfl, Nat.le_of_ble_eq_true rfl⟩ rfl rfl (Nat.le_of_ble_eq_true rfl) ⟨by show cs + 0 ≤ 139; omega, by show ss + 0 ≤ 1080; omega⟩ dL_isTurned_22 ?_
    show Z K cs ss 25 [(0, .ref (eA (kZ K) a0)), (1, .int a1), (2, .long a2), (4, .int a4), (5, .int a5), (6, .ref (eA (kZ K) a6)), (7, .int a7)] [.int x6, .int a7] s7
    refine Z_icmp_ge hk (tgt := 107) dL_isTurned_25 (by decide) (fun c9 => ?_) (fun c9 => ?_)
    · have h := if_yes h c9
      refine Z_iconst hk dL_isTurned_107 zc_iconst_0 ?_
      refine Z_istore hk (lv' := [(7, .int 0), (0, .ref (eA (kZ K) a0)), (1, .int a1), (2, .long a2), (4, .int a4), (5, .int a5), (6, .ref (eA (kZ K) a6))]) dL_isTurned_108 (by decide) rfl ?_
      refine Z_aload_n hk 1 dL_isTurned_110 rfl rfl ?_
      refine Z_iload_n hk 2 dL_isTurned_111 rfl rfl ?_
      obtain ⟨x10, s11, h12, h⟩ := br_ok h
      refine ZX_callV 1 hk [.int a1] (c_X7_symmetries hk.loc hk.inj hfl F a0 a1 ha0 s7 h12) gL_isTurned_X7_symmetries rfl ⟨rfl, by decide +kernel, by decide +kernel, by decide +kernel⟩ ⟨Nat.le_of_ble_eq_true rfl, Nat.le_of_ble_eq_true rfl⟩ ha0.cell.1 (ha0.cell.2 _) rfl rfl rfl (Nat.le_of_ble_eq_true rfl) ⟨by show cs + 1 ≤ 139; omega, by show ss + 6 ≤ 1080; omega⟩ dL_isTurned_112 (fun X hX => by cases hX) (fun v hv => ?_)
      cases hv
      show Z K (cs + 1) (ss + 6) 115 [(7, .int 0), (0, .ref (eA (kZ K) a0)), (1, .int a1), (2, .long a2), (4, .int a4), (5, .int a5), (6, .ref (eA (kZ K) a6))] [.int x10] s11
      refine Z_iload hk 5 dL_isTurned_115 rfl ?_
      refine Z_icmp_ne hk (tgt := 124) dL_isTurned_117 (by decide) (fun c13 => ?_) (fun c13 => ?_)
      · have h := if_yes h c13
        refine Z_iconst hk dL_isTurned_120 zc_iconst_1 ?_
        refine Z_goto hk (tgt := 125) dL_isTurned_121 (by decide) ?_
        refine Z_sub [1, 2, 4, 6, 0] rfl ?_
        exact w_L_isTurned_125 hk hfl hnx hq hw (cs + 1) (ss + 6) (by omega) (by omega) F a0 a1 a4 a6 0 1 ha0 ha6 s11 h
      · have h := if_no h c13
        refine Z_iconst hk dL_isTurned_124 zc_iconst_0 ?_
        refine Z_sub [1, 2, 4, 6, 0] rfl ?_
        exact w_L_isTurned_125 hk hfl hnx hq hw (cs + 1) (ss + 6) (by omega) (by omega) F a0 a1 a4 a6 0 0 ha0 ha6 s11 h
    · have h := if_no h c9
      refine Z_lload_n hk 2 dL_isTurned_28 rfl rfl ?_
      refine Z_iload hk 6 dL_isTurned_29 rfl ?_
      obtain ⟨x14, s15, h16, h⟩ := bd_ok h
      refine ZX_callT 2 hk [.long a2, .int a7] (c_L_put hk.loc hk.inj hfl F (w + 1) hw a2 a7 s7 h16) gL_isTurned_L_put rfl ⟨by decide +kernel, by decide +kernel, by decide +kernel⟩ ⟨Nat.le_of_ble_eq_true rfl, Nat.le_of_ble_eq_true rfl⟩ rfl rfl (Nat.le_of_ble_eq_true rfl) ⟨by show cs + 1 ≤ 139; omega, by show ss + 8 ≤ 1080; omega⟩ dL_isTurned_31 (fun X hX => by cases hX) (fun v hv => ?_)
      cases hv
      show Z K (cs + 1) (ss + 8) 34 [(0, .ref (eA (kZ K) a0)), (1, .int a1), (2, .long a2), (4, .int a4), (5, .int a5), (6, .ref (eA (kZ K) a6)), (7, .int a7)] [.long x14] s15
      refine Z_lload_n hk 2 dL_isTurned_34 rfl rfl ?_
      refine Z_lcmp hk dL_isTurned_35 ?_
      refine Z_if_ne hk (tgt := 43) dL_isTurned_36 (by decide) (fun c17 => ?_) (fun c17 => ?_)
      · have h := if_yes h c17
        refine Z_iconst hk dL_isTurned_39 zc_iconst_1 ?_
        refine Z_goto hk (tgt := 44) dL_isTurned_40 (by decide) ?_
        refine Z_sub [0, 1, 2, 3, 4, 5, 6] rfl ?_
        exact w_L_isTurned_44 hk hfl hnx hq hw (cs + 1) (ss + 8) (cs + 1) (ss + 8) (by omega) (by omega) (by omega) (by omega) F (m_L_isTurned_18 F w n) ih a0 a1 a2 a4 a5 a6 a7 1 ha0 ha6 s15 h
      · have h := if_no h c17
        refine Z_iconst hk dL_isTurned_43 zc_iconst_0 ?_
        refine Z_sub [0, 1, 2, 3, 4, 5, 6] rfl ?_
        exact w_L_isTurned_44 hk hfl hnx hq hw (cs + 1) (ss + 8) (cs + 1) (ss + 8) (by omega) (by omega) (by omega) (by omega) F (m_L_isTurned_18 F w n) ih a0 a1 a2 a4 a5 a6 a7 0 ha0 ha6 s15 h
set_option maxRecDepth 100000 in
set_option maxHeartbeats 4000000 in
theorem w_L_isTurned_13 {K : zK} {w : Nat} (hk : zIs K RL cL_isTurned 10 wsL_isTurned (some .boolean) r_L_isTurned) (hfl : (kL K).stackTraces = false) (hnx : zNX K) {r0 : Int32} {τ0 : zST} (hq : zQG K (.inr (some (.int r0))) τ0) (hw : eN (kZ K) = (w + 1)) (cs ss : Nat) (hb1 : cs + 138 ≤ 139) (hb2 : ss + 1072 ≤ 1080) (F : Nat) (a0 : Nat) (a1 : Int32) (a2 : Int64) (a4 : Int32) (a5 : Int32) (t0 : Nat) (ha0 : atCanonCote (kZ K) a0) (ht0 : aI (kZ K) t0 8) (σ : zST) (h : m_L_isTurned_13 F w a0 a1 a2 a4 a5 t0 σ = some (r0, τ0)) : Z K cs ss 13 [(0, .ref (eA (kZ K) a0)), (1, .int a1), (2, .long a2), (4, .int a4), (5, .int a5)] [.ref (eA (kZ K) t0)] σ := by
  unfold m_L_isTurned_13 at h
  refine Z_astore hk (lv' := [(6, .ref (eA (kZ K) t0)), (0, .ref (eA (kZ K) a0)), (1, .int a1), (2, .long a2), (4, .int a4), (5, .int a5)]) dL_isTurned_13 (by decide) rfl ?_
  refine Z_iconst hk dL_isTurned_15 zc_iconst_0 ?_
  refine Z_istore hk (lv' := [(7, .int 0), (6, .ref (eA (kZ K) t0)), (0, .ref (eA (kZ K) a0)), (1, .int a1), (2, .long a2), (4, .int a4), (5, .int a5)]) dL_isTurned_16 (by decide) rfl ?_
  refine Z_sub [2, 3, 4, 5, 6, 1, 0] rfl ?_
  exact w_L_isTurned_18 hk hfl hnx hq hw F 122 cs ss (by omega) (by omega) a0 a1 a2 a4 a5 t0 0 ha0 ht0 σ h
set_option maxRecDepth 100000 in
set_option maxHeartbeats 4000000 in
theorem w_L_isTurned {K : zK} {w : Nat} (hk : zIs K RL cL_isTurned 10 wsL_isTurned (some .boolean) r_L_isTurned) (hfl : (kL K).stackTraces = false) (hnx : zNX K) {r0 : Int32} {τ0 : zST} (hq : zQG K (.inr (some (.int r0))) τ0) (hw : eN (kZ K) = w) (F : Nat) (a0 : Nat) (a1 : Int32) (a2 : Int64) (ha0 : atCanonCote (kZ K) a0) (σ : zST) (h : m_L_isTurned F w a0 a1 a2 σ = some (r0, τ0)) : Z K 0 0 0 [(0, .ref (eA (kZ K) a0)), (1, .int a1), (2, .long a2)] [] σ := by
  unfold m_L_isTurned at h
  refine Z_lload_n hk 2 dL_isTurned_0 rfl rfl ?_
  obtain ⟨x1, s2, h3, h⟩ := bd_ok h
  refine Z_callT 1 hk [.long a2] (c_L_size hk.loc hk.inj F a2 σ h3) gL_isTurned_L_size rfl ⟨rfl, rfl⟩ (by decide +kernel) ⟨Nat.le_of_ble_eq_true rfl, Nat.le_of_ble_eq_true rfl⟩ rfl rfl (Nat.le_of_ble_eq_true rfl) ⟨by show 0 + 0 ≤ 139; omega, by show 0 + 0 ≤ 1080; omega⟩ dL_isTurned_1 ?_
  show Z K 0 0 4 [(0, .ref (eA (kZ K) a0)), (1, .int a1), (2, .long a2)] [.int x1] s2
  refine Z_istore hk (lv' := [(4, .int x1), (0, .ref (eA (kZ K) a0)), (1, .int a1), (2, .long a2)]) dL_isTurned_4 (by decide) rfl ?_
  refine Z_iconst hk dL_isTurned_6 zc_iconst_0 ?_
  refine Z_istore hk (lv' := [(5, .int 0), (4, .int x1), (0, .ref (eA (kZ K) a0)), (1, .int a1), (2, .long a2)]) dL_isTurned_7 (by decide) rfl ?_
  refine Z_bipush hk dL_isTurned_9 zc_bipush_8 ?_
  obtain ⟨s4, e5, h⟩ := nm_get h
  refine Z_newI hk hw (N := 8) wd_L_isTurned_0 (by decide) (by decide +kernel) (Nat.le_of_ble_eq_true rfl) ⟨by show 0 + 1 ≤ 139; omega, by show 0 + 8 ≤ 1080; omega⟩ dL_isTurned_11 (fun K1 hk1 hX1 hw1 haN hl1 hnx1 hq1 => ?_)
  rw [← hX1.ad ha0.cell.1]
  replace ha0 := hX1.atCanonCote ha0
  refine Z_eqS e5 ?_
  rw [← hl1] at hfl
  have hnx := hnx1 hnx
  have hq := hq1 _ _ hq
  have hk := hk1
  have hw : eN (kZ K1) = (w + 1) := hw1
  refine Z_sub [2, 3, 4, 1, 0] rfl ?_
  exact w_L_isTurned_13 hk hfl hnx hq hw 1 8 (by omega) (by omega) F a0 a1 a2 x1 0 w ha0 haN s4 h
theorem c_L_isTurned {l : Launch} {E : zE} (hL : eL E) (hJ : eJ E) (hfl : l.stackTraces = false) (F w : Nat) (hw : eN E = w) (a0 : Nat) (a1 : Int32) (a2 : Int64) (ha0 : atCanonCote E a0) (σ : zST) {r0 : Int32} {τ0 : zST} (h : m_L_isTurned F w a0 a1 a2 σ = some (r0, τ0)) : CtX l yL_isTurned wsL_isTurned r_L_isTurned E [.ref (eA E a0), .int a1, .long a2] σ (.inr (some (.int r0))) τ0 := by
  refine CtX_of (by decide) rfl hL hJ (Nat.le_of_ble_eq_true rfl) (fun K hE hl hk hnx hq => ?_)
  subst hE
  subst hl
  exact w_L_isTurned hk hfl hnx (zQG.of hq) hw F a0 a1 a2 ha0 σ h
end

-- CanonCoteLaw.arePairs (LCanonCote;[JII)Z
section
theorem dL_arePairs_0 : decode cL_arePairs 0 = .ok (.aload_n 1, 1) := by decide +kernel
theorem dL_arePairs_1 : decode cL_arePairs 1 = .ok (.iload_n 2, 1) := by decide +kernel
theorem dL_arePairs_2 : decode cL_arePairs 2 = .ok (.laload, 1) := by decide +kernel
theorem dL_arePairs_3 : decode cL_arePairs 3 = .ok (.aload_n 1, 1) := by decide +kernel
theorem dL_arePairs_4 : decode cL_arePairs 4 = .ok (.iload_n 3, 1) := by decide +kernel
theorem dL_arePairs_5 : decode cL_arePairs 5 = .ok (.laload, 1) := by decide +kernel
theorem dL_arePairs_6 : decode cL_arePairs 6 = .ok (.invokestatic 94, 3) := by decide +kernel
theorem dL_arePairs_9 : decode cL_arePairs 9 = .ok (.istore 4, 2) := by decide +kernel
theorem dL_arePairs_11 : decode cL_arePairs 11 = .ok (.aload_n 0, 1) := by decide +kernel
theorem dL_arePairs_12 : decode cL_arePairs 12 = .ok (.iload_n 2, 1) := by decide +kernel
theorem dL_arePairs_13 : decode cL_arePairs 13 = .ok (.iload_n 3, 1) := by decide +kernel
theorem dL_arePairs_14 : decode cL_arePairs 14 = .ok (.invokevirtual 98, 3) := by decide +kernel
theorem dL_arePairs_17 : decode cL_arePairs 17 = .ok (.iload 4, 2) := by decide +kernel
theorem dL_arePairs_19 : decode cL_arePairs 19 = .ok (.ifCond .lt 7, 3) := by decide +kernel
theorem dL_arePairs_22 : decode cL_arePairs 22 = .ok (.iconst 1, 1) := by decide +kernel
theorem dL_arePairs_23 : decode cL_arePairs 23 = .ok (.goto 4, 3) := by decide +kernel
theorem dL_arePairs_26 : decode cL_arePairs 26 = .ok (.iconst 0, 1) := by decide +kernel
theorem dL_arePairs_27 : decode cL_arePairs 27 = .ok (.if_icmp .ne 7, 3) := by decide +kernel
theorem dL_arePairs_30 : decode cL_arePairs 30 = .ok (.iconst 1, 1) := by decide +kernel
theorem dL_arePairs_31 : decode cL_arePairs 31 = .ok (.goto 4, 3) := by decide +kernel
theorem dL_arePairs_34 : decode cL_arePairs 34 = .ok (.iconst 0, 1) := by decide +kernel
theorem dL_arePairs_35 : decode cL_arePairs 35 = .ok (.istore 5, 2) := by decide +kernel
theorem dL_arePairs_37 : decode cL_arePairs 37 = .ok (.iconst 0, 1) := by decide +kernel
theorem dL_arePairs_38 : decode cL_arePairs 38 = .ok (.istore 6, 2) := by decide +kernel
theorem dL_arePairs_40 : decode cL_arePairs 40 = .ok (.iload 6, 2) := by decide +kernel
theorem dL_arePairs_42 : decode cL_arePairs 42 = .ok (.aload_n 1, 1) := by decide +kernel
theorem dL_arePairs_43 : decode cL_arePairs 43 = .ok (.iload_n 2, 1) := by decide +kernel
theorem dL_arePairs_44 : decode cL_arePairs 44 = .ok (.laload, 1) := by decide +kernel
theorem dL_arePairs_45 : decode cL_arePairs 45 = .ok (.invokestatic 23, 3) := by decide +kernel
theorem dL_arePairs_48 : decode cL_arePairs 48 = .ok (.if_icmp .ge 54, 3) := by decide +kernel
theorem dL_arePairs_51 : decode cL_arePairs 51 = .ok (.iload 5, 2) := by decide +kernel
theorem dL_arePairs_53 : decode cL_arePairs 53 = .ok (.ifCond .eq 49, 3) := by decide +kernel
theorem dL_arePairs_56 : decode cL_arePairs 56 = .ok (.aload_n 0, 1) := by decide +kernel
theorem dL_arePairs_57 : decode cL_arePairs 57 = .ok (.iload_n 2, 1) := by decide +kernel
theorem dL_arePairs_58 : decode cL_arePairs 58 = .ok (.iload_n 3, 1) := by decide +kernel
theorem dL_arePairs_59 : decode cL_arePairs 59 = .ok (.iload 6, 2) := by decide +kernel
theorem dL_arePairs_61 : decode cL_arePairs 61 = .ok (.invokevirtual 102, 3) := by decide +kernel
theorem dL_arePairs_64 : decode cL_arePairs 64 = .ok (.iload 4, 2) := by decide +kernel
theorem dL_arePairs_66 : decode cL_arePairs 66 = .ok (.ifCond .ge 7, 3) := by decide +kernel
theorem dL_arePairs_69 : decode cL_arePairs 69 = .ok (.iconst (-1), 1) := by decide +kernel
theorem dL_arePairs_70 : decode cL_arePairs 70 = .ok (.goto 16, 3) := by decide +kernel
theorem dL_arePairs_73 : decode cL_arePairs 73 = .ok (.aload_n 1, 1) := by decide +kernel
theorem dL_arePairs_74 : decode cL_arePairs 74 = .ok (.iload_n 2, 1) := by decide +kernel
theorem dL_arePairs_75 : decode cL_arePairs 75 = .ok (.laload, 1) := by decide +kernel
theorem dL_arePairs_76 : decode cL_arePairs 76 = .ok (.invokestatic 23, 3) := by decide +kernel
theorem dL_arePairs_79 : decode cL_arePairs 79 = .ok (.iload 4, 2) := by decide +kernel
theorem dL_arePairs_81 : decode cL_arePairs 81 = .ok (.iload 6, 2) := by decide +kernel
theorem dL_arePairs_83 : decode cL_arePairs 83 = .ok (.invokestatic 27, 3) := by decide +kernel
theorem dL_arePairs_86 : decode cL_arePairs 86 = .ok (.if_icmp .ne 7, 3) := by decide +kernel
theorem dL_arePairs_89 : decode cL_arePairs 89 = .ok (.iconst 1, 1) := by decide +kernel
theorem dL_arePairs_90 : decode cL_arePairs 90 = .ok (.goto 4, 3) := by decide +kernel
theorem dL_arePairs_93 : decode cL_arePairs 93 = .ok (.iconst 0, 1) := by decide +kernel
theorem dL_arePairs_94 : decode cL_arePairs 94 = .ok (.istore 5, 2) := by decide +kernel
theorem dL_arePairs_96 : decode cL_arePairs 96 = .ok (.iinc 6 1, 3) := by decide +kernel
theorem dL_arePairs_99 : decode cL_arePairs 99 = .ok (.goto (-59), 3) := by decide +kernel
theorem dL_arePairs_102 : decode cL_arePairs 102 = .ok (.iconst 0, 1) := by decide +kernel
theorem dL_arePairs_103 : decode cL_arePairs 103 = .ok (.istore 6, 2) := by decide +kernel
theorem dL_arePairs_105 : decode cL_arePairs 105 = .ok (.iconst 0, 1) := by decide +kernel
theorem dL_arePairs_106 : decode cL_arePairs 106 = .ok (.istore 7, 2) := by decide +kernel
theorem dL_arePairs_108 : decode cL_arePairs 108 = .ok (.iload 7, 2) := by decide +kernel
theorem dL_arePairs_110 : decode cL_arePairs 110 = .ok (.iconst 1, 1) := by decide +kernel
theorem dL_arePairs_111 : decode cL_arePairs 111 = .ok (.aload_n 1, 1) := by decide +kernel
theorem dL_arePairs_112 : decode cL_arePairs 112 = .ok (.iload_n 3, 1) := by decide +kernel
theorem dL_arePairs_113 : decode cL_arePairs 113 = .ok (.laload, 1) := by decide +kernel
theorem dL_arePairs_114 : decode cL_arePairs 114 = .ok (.invokestatic 23, 3) := by decide +kernel
theorem dL_arePairs_117 : decode cL_arePairs 117 = .ok (.ishl, 1) := by decide +kernel
theorem dL_arePairs_118 : decode cL_arePairs 118 = .ok (.if_icmp .ge 54, 3) := by decide +kernel
theorem dL_arePairs_121 : decode cL_arePairs 121 = .ok (.aload_n 1, 1) := by decide +kernel
theorem dL_arePairs_122 : decode cL_arePairs 122 = .ok (.iload_n 3, 1) := by decide +kernel
theorem dL_arePairs_123 : decode cL_arePairs 123 = .ok (.laload, 1) := by decide +kernel
theorem dL_arePairs_124 : decode cL_arePairs 124 = .ok (.iload 7, 2) := by decide +kernel
theorem dL_arePairs_126 : decode cL_arePairs 126 = .ok (.invokestatic 103, 3) := by decide +kernel
theorem dL_arePairs_129 : decode cL_arePairs 129 = .ok (.lstore 8, 2) := by decide +kernel
theorem dL_arePairs_131 : decode cL_arePairs 131 = .ok (.iload 6, 2) := by decide +kernel
theorem dL_arePairs_133 : decode cL_arePairs 133 = .ok (.lload 8, 2) := by decide +kernel
theorem dL_arePairs_135 : decode cL_arePairs 135 = .ok (.invokestatic 23, 3) := by decide +kernel
theorem dL_arePairs_138 : decode cL_arePairs 138 = .ok (.aload_n 1, 1) := by decide +kernel
theorem dL_arePairs_139 : decode cL_arePairs 139 = .ok (.iload_n 2, 1) := by decide +kernel
theorem dL_arePairs_140 : decode cL_arePairs 140 = .ok (.laload, 1) := by decide +kernel
theorem dL_arePairs_141 : decode cL_arePairs 141 = .ok (.invokestatic 23, 3) := by decide +kernel
theorem dL_arePairs_144 : decode cL_arePairs 144 = .ok (.if_icmp .ne 18, 3) := by decide +kernel
theorem dL_arePairs_147 : decode cL_arePairs 147 = .ok (.lload 8, 2) := by decide +kernel
theorem dL_arePairs_149 : decode cL_arePairs 149 = .ok (.aload_n 1, 1) := by decide +kernel
theorem dL_arePairs_150 : decode cL_arePairs 150 = .ok (.iload_n 2, 1) := by decide +kernel
theorem dL_arePairs_151 : decode cL_arePairs 151 = .ok (.laload, 1) := by decide +kernel
theorem dL_arePairs_152 : decode cL_arePairs 152 = .ok (.invokestatic 94, 3) := by decide +kernel
theorem dL_arePairs_155 : decode cL_arePairs 155 = .ok (.ifCond .lt 7, 3) := by decide +kernel
theorem dL_arePairs_158 : decode cL_arePairs 158 = .ok (.iconst 1, 1) := by decide +kernel
theorem dL_arePairs_159 : decode cL_arePairs 159 = .ok (.goto 4, 3) := by decide +kernel
theorem dL_arePairs_162 : decode cL_arePairs 162 = .ok (.iconst 0, 1) := by decide +kernel
theorem dL_arePairs_163 : decode cL_arePairs 163 = .ok (.iadd, 1) := by decide +kernel
theorem dL_arePairs_164 : decode cL_arePairs 164 = .ok (.istore 6, 2) := by decide +kernel
theorem dL_arePairs_166 : decode cL_arePairs 166 = .ok (.iinc 7 1, 3) := by decide +kernel
theorem dL_arePairs_169 : decode cL_arePairs 169 = .ok (.goto (-61), 3) := by decide +kernel
theorem dL_arePairs_172 : decode cL_arePairs 172 = .ok (.iload 5, 2) := by decide +kernel
theorem dL_arePairs_174 : decode cL_arePairs 174 = .ok (.ifCond .eq 18, 3) := by decide +kernel
theorem dL_arePairs_177 : decode cL_arePairs 177 = .ok (.aload_n 0, 1) := by decide +kernel
theorem dL_arePairs_178 : decode cL_arePairs 178 = .ok (.iload_n 2, 1) := by decide +kernel
theorem dL_arePairs_179 : decode cL_arePairs 179 = .ok (.iload_n 3, 1) := by decide +kernel
theorem dL_arePairs_180 : decode cL_arePairs 180 = .ok (.invokevirtual 106, 3) := by decide +kernel
theorem dL_arePairs_183 : decode cL_arePairs 183 = .ok (.iload 6, 2) := by decide +kernel
theorem dL_arePairs_185 : decode cL_arePairs 185 = .ok (.if_icmp .ne 7, 3) := by decide +kernel
theorem dL_arePairs_188 : decode cL_arePairs 188 = .ok (.iconst 1, 1) := by decide +kernel
theorem dL_arePairs_189 : decode cL_arePairs 189 = .ok (.goto 4, 3) := by decide +kernel
theorem dL_arePairs_192 : decode cL_arePairs 192 = .ok (.iconst 0, 1) := by decide +kernel
theorem dL_arePairs_193 : decode cL_arePairs 193 = .ok (.ireturn, 1) := by decide +kernel
set_option maxRecDepth 20000 in
theorem ggL_arePairs_L_first : GoodIn wsL_arePairs wsL_first := goodIn_r _ [4, 5, 6, 7, 3, 8, 9, 10, 11, 12, 13, 14, 15, 16, 17, 18, 19, 20, 21, 22, 23, 24, 25, 26, 27, 28, 29, 30, 31, 32] (by decide +kernel) (by decide +kernel)
set_option maxRecDepth 20000 in
theorem gL_arePairs_L_first : GoodIn wsL_arePairs (va_wsS RL 94 yL_first wsL_first) := goodIn_app (goodIn_of _ (by decide +kernel)) ggL_arePairs_L_first
set_option maxRecDepth 20000 in
theorem ggL_arePairs_X7_areAlike : GoodIn wsL_arePairs wsX7_areAlike := goodIn_ca (goodIn_r _ [37, 38, 39, 40, 36, 41, 42, 43, 44, 45, 46, 47, 48, 49, 50, 51, 52, 53, 54, 55, 56, 57, 58, 59, 60, 61, 62, 63, 64, 65, 66, 67, 68, 69, 70, 71, 72, 73, 74, 75, 76, 77, 78, 79, 80, 81, 82, 83, 84, 85, 86, 87, 88, 89, 90, 91, 92, 93, 94, 95, 96, 97, 98, 99, 100, 101, 102, 103, 104, 105, 106, 107, 108, 109, 110, 111, 112, 113, 114, 115, 116, 117, 118, 119, 190, 191, 192, 193, 194, 195, 196, 197, 198, 199, 200, 201, 202, 203, 204, 205] (by decide +kernel) (by decide +kernel)) (goodIn_sub (fun _ h => List.mem_cons_of_mem _ (List.mem_append_right _ h)) (by decide +kernel))
set_option maxRecDepth 20000 in
theorem gL_arePairs_X7_areAlike : GoodIn wsL_arePairs (wsV RL 98 RX7 yX7_areAlike wsX7_areAlike) := goodIn_app (goodIn_of _ (by decide +kernel)) ggL_arePairs_X7_areAlike
set_option maxRecDepth 20000 in
theorem ggL_arePairs_L_size : GoodIn wsL_arePairs wsL_size := goodIn_r _ [8] (by decide +kernel) (by decide +kernel)
set_option maxRecDepth 20000 in
theorem gL_arePairs_L_size : GoodIn wsL_arePairs (va_wsS RL 23 yL_size wsL_size) := goodIn_app (goodIn_of _ (by decide +kernel)) ggL_arePairs_L_size
set_option maxRecDepth 20000 in
theorem ggL_arePairs_X7_image : GoodIn wsL_arePairs wsX7_image := goodIn_ca (goodIn_r _ [123, 124, 38, 39, 40, 36, 41, 42, 43, 44, 125, 126, 127, 45, 46, 47, 48, 49, 50, 51, 52, 53, 54, 55, 56, 57, 58, 59, 60, 61, 62, 63, 64, 65, 66, 67, 68, 69, 70, 71, 72, 73, 74, 75, 76, 77, 78, 79, 80, 81, 82, 83, 84, 85, 86, 87, 88, 89, 90, 91, 92, 93, 94, 95, 96, 97, 98, 99, 100, 101, 102, 103, 104, 105, 106, 107, 108, 109, 110, 111, 112, 113, 114, 115, 116, 117, 118, 119, 128, 129, 130, 131, 132, 133, 134, 135, 136, 137, 138, 139, 140, 141, 142, 143, 144, 145, 146, 147, 148, 149, 150, 151, 152, 153, 154, 155, 156, 157, 158, 159, 160, 161, 162, 163, 164, 165, 166, 167, 168, 169, 190, 191, 192, 193, 194, 195, 206, 207, 208, 203, 204, 205, 196, 197, 198, 199, 200, 201, 202, 209, 210, 211, 212, 213] (by decide +kernel) (by decide +kernel)) (goodIn_sub (fun _ h => List.mem_cons_of_mem _ (List.mem_append_right _ h)) (by decide +kernel))
set_option maxRecDepth 20000 in
theorem gL_arePairs_X7_image : GoodIn wsL_arePairs (wsV RL 102 RX7 yX7_image wsX7_image) := goodIn_app (goodIn_of _ (by decide +kernel)) ggL_arePairs_X7_image
set_option maxRecDepth 20000 in
theorem ggL_arePairs_L_image : GoodIn wsL_arePairs wsL_image := goodIn_r _ [18, 9, 10, 3, 11] (by decide +kernel) (by decide +kernel)
set_option maxRecDepth 20000 in
theorem gL_arePairs_L_image : GoodIn wsL_arePairs (va_wsS RL 27 yL_image wsL_image) := goodIn_app (goodIn_of _ (by decide +kernel)) ggL_arePairs_L_image
set_option maxRecDepth 20000 in
theorem ggL_arePairs_L_part : GoodIn wsL_arePairs wsL_part := goodIn_r _ [172, 6, 7, 3, 8, 19, 20, 21, 22, 23, 24, 25, 26, 27, 28, 29, 30, 31, 32] (by decide +kernel) (by decide +kernel)
set_option maxRecDepth 20000 in
theorem gL_arePairs_L_part : GoodIn wsL_arePairs (va_wsS RL 103 yL_part wsL_part) := goodIn_app (goodIn_of _ (by decide +kernel)) ggL_arePairs_L_part
set_option maxRecDepth 20000 in
theorem ggL_arePairs_X7_copies : GoodIn wsL_arePairs wsX7_copies := goodIn_ca (goodIn_r _ [176, 177, 38, 39, 40, 36, 41, 42, 43, 44, 49, 50, 51, 52, 53, 54, 55, 56, 57, 58, 59, 60, 61, 62, 63, 64, 65, 66, 67, 68, 69, 70, 71, 72, 73, 74, 75, 76, 77, 78, 79, 80, 81, 82, 83, 84, 85, 86, 87, 88, 89, 90, 91, 92, 93, 94, 95, 96, 97, 98, 99, 100, 101, 102, 103, 104, 105, 106, 107, 108, 109, 110, 111, 112, 113, 114, 115, 116, 117, 118, 119, 178, 179, 180, 181, 182, 153, 154, 183, 184, 185, 186, 187, 188, 189, 203, 204, 205, 190, 191, 192, 193, 194, 195, 196, 197, 198, 199, 200, 201, 202] (by decide +kernel) (by decide +kernel)) (goodIn_sub (fun _ h => List.mem_cons_of_mem _ (List.mem_append_right _ h)) (by decide +kernel))
set_option maxRecDepth 20000 in
theorem gL_arePairs_X7_copies : GoodIn wsL_arePairs (wsV RL 106 RX7 yX7_copies wsX7_copies) := goodIn_app (goodIn_of _ (by decide +kernel)) ggL_arePairs_X7_copies
def r_L_arePairs : Room := { frames := 17, cells := 4330, slots := 34590, locals := 421 }
set_option maxRecDepth 100000 in
set_option maxHeartbeats 4000000 in
theorem w_L_arePairs_94 {K : zK} {w : Nat} (hk : zIs K RL cL_arePairs 10 wsL_arePairs (some .boolean) r_L_arePairs) (hfl : (kL K).stackTraces = false) (hnx : zNX K) {r0 : Int32} {τ0 : zST} (hq : zQG K (.inr (some (.int r0))) τ0) (hw : eN (kZ K) = w) (cs ss : Nat) (C S : Nat) (hr1 : cs + 0 ≤ C) (hr2 : ss + 0 ≤ S) (hb1 : cs + 0 ≤ 4330) (hb2 : ss + 0 ≤ 34590) (F : Nat) (k40 : Nat → Nat → Int32 → Int32 → Int32 → Int32 → Int32 → zST → Option (Int32 × zST)) (hk40 : ∀ (a0 : Nat) (a1 : Nat) (a2 : Int32) (a3 : Int32) (a4 : Int32) (a5 : Int32) (a6 : Int32) (ha0 : atCanonCote (kZ K) a0) (ha1 : aJ (kZ K) a1 4) (σ : zST), k40 a0 a1 a2 a3 a4 a5 a6 σ = some (r0, τ0) → Z K C S 40 [(0, .ref (eA (kZ K) a0)), (1, .ref (eA (kZ K) a1)), (2, .int a2), (3, .int a3), (4, .int a4), (5, .int a5), (6, .int a6)] [] σ) (a0 : Nat) (a1 : Nat) (a2 : Int32) (a3 : Int32) (a4 : Int32) (a6 : Int32) (t0 : Int32) (ha0 : atCanonCote (kZ K) a0) (ha1 : aJ (kZ K) a1 4) (σ : zST) (h : m_L_arePairs_94 F w k40 a0 a1 a2 a3 a4 a6 t0 σ = some (r0, τ0)) : Z K cs ss 94 [(0, .ref (eA (kZ K) a0)), (1, .ref (eA (kZ K) a1)), (2, .int a2), (3, .int a3), (4, .int a4), (6, .int a6)] [.int t0] σ := by
  unfold m_L_arePairs_94 at h
  refine Z_istore hk (lv' := [(5, .int t0), (0, .ref (eA (kZ K) a0)), (1, .ref (eA (kZ K) a1)), (2, .int a2), (3, .int a3), (4, .int a4), (6, .int a6)]) dL_arePairs_94 (by decide) rfl ?_
  obtain ⟨x72, e73, h⟩ := nm_get h
  refine Z_iinc hk 6 (v := x72) (lv' := [(6, .int x72), (5, .int t0), (0, .ref (eA (kZ K) a0)), (1, .ref (eA (kZ K) a1)), (2, .int a2), (3, .int a3), (4, .int a4)]) dL_arePairs_96 rfl (by rw [zc_iinc_1]; exact e73) (by decide) rfl ?_
  refine Z_goto hk (tgt := 40) dL_arePairs_99 (by decide) ?_
  refine Z_sub [2, 3, 4, 5, 6, 1, 0] rfl ?_
  refine Z_widen (cs' := C) (ss' := S) (by omega) (by omega) ?_
  exact hk40 a0 a1 a2 a3 a4 t0 x72 ha0 ha1 σ h
set_option maxRecDepth 100000 in
set_option maxHeartbeats 4000000 in
theorem w_L_arePairs_86 {K : zK} {w : Nat} (hk : zIs K RL cL_arePairs 10 wsL_arePairs (some .boolean) r_L_arePairs) (hfl : (kL K).stackTraces = false) (hnx : zNX K) {r0 : Int32} {τ0 : zST} (hq : zQG K (.inr (some (.int r0))) τ0) (hw : eN (kZ K) = w) (cs ss : Nat) (C S : Nat) (hr1 : cs + 0 ≤ C) (hr2 : ss + 0 ≤ S) (hb1 : cs + 0 ≤ 4330) (hb2 : ss + 0 ≤ 34590) (F : Nat) (k40 : Nat → Nat → Int32 → Int32 → Int32 → Int32 → Int32 → zST → Option (Int32 × zST)) (hk40 : ∀ (a0 : Nat) (a1 : Nat) (a2 : Int32) (a3 : Int32) (a4 : Int32) (a5 : Int32) (a6 : Int32) (ha0 : atCanonCote (kZ K) a0) (ha1 : aJ (kZ K) a1 4) (σ : zST), k40 a0 a1 a2 a3 a4 a5 a6 σ = some (r0, τ0) → Z K C S 40 [(0, .ref (eA (kZ K) a0)), (1, .ref (eA (kZ K) a1)), (2, .int a2), (3, .int a3), (4, .int a4), (5, .int a5), (6, .int a6)] [] σ) (a0 : Nat) (a1 : Nat) (a2 : Int32) (a3 : Int32) (a4 : Int32) (a6 : Int32) (t0 : Int32) (t1 : Int32) (ha0 : atCanonCote (kZ K) a0) (ha1 : aJ (kZ K) a1 4) (σ : zST) (h : m_L_arePairs_86 F w k40 a0 a1 a2 a3 a4 a6 t0 t1 σ = some (r0, τ0)) : Z K cs ss 86 [(0, .ref (eA (kZ K) a0)), (1, .ref (eA (kZ K) a1)), (2, .int a2), (3, .int a3), (4, .int a4), (6, .int a6)] [.int t0, .int t1] σ := by
  unfold m_L_arePairs_86 at h
  refine Z_icmp_ne hk (tgt := 93) dL_arePairs_86 (by decide) (fun c36 => ?_) (fun c36 => ?_)
  · have h := if_yes h c36
    refine Z_iconst hk dL_arePairs_89 zc_iconst_1 ?_
    refine Z_goto hk (tgt := 94) dL_arePairs_90 (by decide) ?_
    refine Z_sub [0, 1, 2, 3, 4, 5] rfl ?_
    exact w_L_arePairs_94 hk hfl hnx hq hw cs ss C S (by omega) (by omega) (by omega) (by omega) F k40 hk40 a0 a1 a2 a3 a4 a6 1 ha0 ha1 σ h
  · have h := if_no h c36
    refine Z_iconst hk dL_arePairs_93 zc_iconst_0 ?_
    refine Z_sub [0, 1, 2, 3, 4, 5] rfl ?_
    exact w_L_arePairs_94 hk hfl hnx hq hw cs ss C S (by omega) (by omega) (by omega) (by omega) F k40 hk40 a0 a1 a2 a3 a4 a6 0 ha0 ha1 σ h
set_option maxRecDepth 100000 in
set_option maxHeartbeats 4000000 in
theorem w_L_arePairs_163 {K : zK} {w : Nat} (hk : zIs K RL cL_arePairs 10 wsL_arePairs (some .boolean) r_L_arePairs) (hfl : (kL K).stackTraces = false) (hnx : zNX K) {r0 : Int32} {τ0 : zST} (hq : zQG K (.inr (some (.int r0))) τ0) (hw : eN (kZ K) = w) (cs ss : Nat) (C S : Nat) (hr1 : cs + 0 ≤ C) (hr2 : ss + 0 ≤ S) (hb1 : cs + 0 ≤ 4330) (hb2 : ss + 0 ≤ 34590) (F : Nat) (k108 : Nat → Nat → Int32 → Int32 → Int32 → Int32 → Int32 → zST → Option (Int32 × zST)) (hk108 : ∀ (a0 : Nat) (a1 : Nat) (a2 : Int32) (a3 : Int32) (a5 : Int32) (a6 : Int32) (a7 : Int32) (ha0 : atCanonCote (kZ K) a0) (ha1 : aJ (kZ K) a1 4) (σ : zST), k108 a0 a1 a2 a3 a5 a6 a7 σ = some (r0, τ0) → Z K C S 108 [(0, .ref (eA (kZ K) a0)), (1, .ref (eA (kZ K) a1)), (2, .int a2), (3, .int a3), (5, .int a5), (6, .int a6), (7, .int a7)] [] σ) (a0 : Nat) (a1 : Nat) (a2 : Int32) (a3 : Int32) (a5 : Int32) (a7 : Int32) (t0 : Int32) (t1 : Int32) (ha0 : atCanonCote (kZ K) a0) (ha1 : aJ (kZ K) a1 4) (σ : zST) (h : m_L_arePairs_163 F w k108 a0 a1 a2 a3 a5 a7 t0 t1 σ = some (r0, τ0)) : Z K cs ss 163 [(0, .ref (eA (kZ K) a0)), (1, .ref (eA (kZ K) a1)), (2, .int a2), (3, .int a3), (5, .int a5), (7, .int a7)] [.int t0, .int t1] σ := by
  unfold m_L_arePairs_163 at h
  refine Z_iadd hk dL_arePairs_163 ?_
  obtain ⟨x74, e75, h⟩ := nm_get h
  refine Z_eqI e75 ?_
  refine Z_istore hk (lv' := [(6, .int x74), (0, .ref (eA (kZ K) a0)), (1, .ref (eA (kZ K) a1)), (2, .int a2), (3, .int a3), (5, .int a5), (7, .int a7)]) dL_arePairs_164 (by decide) rfl ?_
  obtain ⟨x76, e77, h⟩ := nm_get h
  refine Z_iinc hk 6 (v := x76) (lv' := [(7, .int x76), (6, .int x74), (0, .ref (eA (kZ K) a0)), (1, .ref (eA (kZ K) a1)), (2, .int a2), (3, .int a3), (5, .int a5)]) dL_arePairs_166 rfl (by rw [zc_iinc_1]; exact e77) (by decide) rfl ?_
  refine Z_goto hk (tgt := 108) dL_arePairs_169 (by decide) ?_
  refine Z_sub [2, 3, 4, 5, 6, 1, 0] rfl ?_
  refine Z_widen (cs' := C) (ss' := S) (by omega) (by omega) ?_
  exact hk108 a0 a1 a2 a3 a5 x74 x76 ha0 ha1 σ h
set_option maxRecDepth 100000 in
set_option maxHeartbeats 4000000 in
theorem w_L_arePairs_162 {K : zK} {w : Nat} (hk : zIs K RL cL_arePairs 10 wsL_arePairs (some .boolean) r_L_arePairs) (hfl : (kL K).stackTraces = false) (hnx : zNX K) {r0 : Int32} {τ0 : zST} (hq : zQG K (.inr (some (.int r0))) τ0) (hw : eN (kZ K) = w) (cs ss : Nat) (C S : Nat) (hr1 : cs + 0 ≤ C) (hr2 : ss + 0 ≤ S) (hb1 : cs + 0 ≤ 4330) (hb2 : ss + 0 ≤ 34590) (F : Nat) (k108 : Nat → Nat → Int32 → Int32 → Int32 → Int32 → Int32 → zST → Option (Int32 × zST)) (hk108 : ∀ (a0 : Nat) (a1 : Nat) (a2 : Int32) (a3 : Int32) (a5 : Int32) (a6 : Int32) (a7 : Int32) (ha0 : atCanonCote (kZ K) a0) (ha1 : aJ (kZ K) a1 4) (σ : zST), k108 a0 a1 a2 a3 a5 a6 a7 σ = some (r0, τ0) → Z K C S 108 [(0, .ref (eA (kZ K) a0)), (1, .ref (eA (kZ K) a1)), (2, .int a2), (3, .int a3), (5, .int a5), (6, .int a6), (7, .int a7)] [] σ) (a0 : Nat) (a1 : Nat) (a2 : Int32) (a3 : Int32) (a5 : Int32) (a7 : Int32) (t0 : Int32) (ha0 : atCanonCote (kZ K) a0) (ha1 : aJ (kZ K) a1 4) (σ : zST) (h : m_L_arePairs_162 F w k108 a0 a1 a2 a3 a5 a7 t0 σ = some (r0, τ0)) : Z K cs ss 162 [(0, .ref (eA (kZ K) a0)), (1, .ref (eA (kZ K) a1)), (2, .int a2), (3, .int a3), (5, .int a5), (7, .int a7)] [.int t0] σ := by
  unfold m_L_arePairs_162 at h
  refine Z_iconst hk dL_arePairs_162 zc_iconst_0 ?_
  refine Z_sub [0, 1, 2, 3, 4, 5] rfl ?_
  exact w_L_arePairs_163 hk hfl hnx hq hw cs ss C S (by omega) (by omega) (by omega) (by omega) F k108 hk108 a0 a1 a2 a3 a5 a7 0 t0 ha0 ha1 σ h
set_option maxRecDepth 100000 in
set_option maxHeartbeats 4000000 in
theorem w_L_arePairs_192 {K : zK} {w : Nat} (hk : zIs K RL cL_arePairs 10 wsL_arePairs (some .boolean) r_L_arePairs) (hfl : (kL K).stackTraces = false) (hnx : zNX K) {r0 : Int32} {τ0 : zST} (hq : zQG K (.inr (some (.int r0))) τ0) (hw : eN (kZ K) = w) (cs ss : Nat) (hb1 : cs + 0 ≤ 4330) (hb2 : ss + 0 ≤ 34590) (F : Nat)  (σ : zST) (h : m_L_arePairs_192 F w σ = some (r0, τ0)) : Z K cs ss 192 [] [] σ := by
  unfold m_L_arePairs_192 at h
  refine Z_iconst hk dL_arePairs_192 zc_iconst_0 ?_
  cases h
  exact ZG_zret hk (by decide) hq ⟨by show cs + 0 ≤ 4330; omega, by show ss + 0 ≤ 34590; omega⟩ dL_arePairs_193
set_option maxRecDepth 100000 in
set_option maxHeartbeats 4000000 in
theorem w_L_arePairs_108 {K : zK} {w : Nat} (hk : zIs K RL cL_arePairs 10 wsL_arePairs (some .boolean) r_L_arePairs) (hfl : (kL K).stackTraces = false) (hnx : zNX K) {r0 : Int32} {τ0 : zST} (hq : zQG K (.inr (some (.int r0))) τ0) (hw : eN (kZ K) = w) (F : Nat) : ∀ (n : Nat) (cs ss : Nat) (hb1 : cs + 123 * n + 2 ≤ 4330) (hb2 : ss + 984 * n + 12 ≤ 34590) (a0 : Nat) (a1 : Nat) (a2 : Int32) (a3 : Int32) (a5 : Int32) (a6 : Int32) (a7 : Int32) (ha0 : atCanonCote (kZ K) a0) (ha1 : aJ (kZ K) a1 4) (σ : zST), m_L_arePairs_108 F w n a0 a1 a2 a3 a5 a6 a7 σ = some (r0, τ0) → Z K cs ss 108 [(0, .ref (eA (kZ K) a0)), (1, .ref (eA (kZ K) a1)), (2, .int a2), (3, .int a3), (5, .int a5), (6, .int a6), (7, .int a7)] [] σ := by
  intro n
  induction n with
  | zero => intro cs ss hb1 hb2 a0 a1 a2 a3 a5 a6 a7 ha0 ha1 σ h; cases h
  | succ n ih0 =>
    intro cs ss hb1 hb2 a0 a1 a2 a3 a5 a6 a7 ha0 ha1 σ h
    have ih := ih0 (cs + 123) (ss + 984) (by omega) (by omega)
    rw [m_L_arePairs_108] at h
    refine Z_iload hk 6 dL_arePairs_108 rfl ?_
    refine Z_iconst hk dL_arePairs_110 zc_iconst_1 ?_
    refine Z_aload_n hk 1 dL_arePairs_111 rfl rfl ?_
    refine Z_iload_n hk 3 dL_arePairs_112 rfl rfl ?_
    obtain ⟨i39, x37, e38, h⟩ := ldL_get h
    refine Z_lald hk ha1 i39 dL_arePairs_113 ?_
    refine Z_eqL e38 ?_
    obtain ⟨x40, s41, h42, h⟩ := bd_ok h
    refine Z_callT 1 hk [.long x37] (c_L_size hk.loc hk.inj F x37 σ h42) gL_arePairs_L_size rfl ⟨rfl, rfl⟩ (by decide +kernel) ⟨Nat.le_of_ble_eq_true rfl, Nat.le_of_ble_eq_true rfl⟩ rfl rfl (Nat.le_of_ble_eq_true rfl) ⟨by show cs + 0 ≤ 4330; omega, by show ss + 0 ≤ 34590; omega⟩ dL_arePairs_114 ?_
    show Z K cs ss 117 [(0, .ref (eA (kZ K) a0)), (1, .ref (eA (kZ K) a1)), (2, .int a2), (3, .int a3), (5, .int a5), (6, .int a6), (7, .int a7)] [.int x40, .int 1, .int a7] s41
    refine Z_ishl hk dL_arePairs_117 ?_
    refine Z_icmp_ge hk (tgt := 172) dL_arePairs_118 (by decide) (fun c43 => ?_) (fun c43 => ?_)
    · have h := if_yes h c43
      refine Z_iload hk 4 dL_arePairs_172 rfl ?_
      refine Z_if_eq hk (tgt := 192) dL_arePairs_174 (by decide) (fun c44 => ?_) (fun c44 => ?_)
      · have h := if_yes h c44
        refine Z_sub [] rfl ?_
        exact w_L_arePairs_192 hk hfl hnx hq hw cs ss (by omega) (by omega) F s41 h
      · have h := if_no h c44
        refine Z_aload_n hk 0 dL_arePairs_177 rfl rfl ?_
        refine Z_iload_n hk 2 dL_arePairs_178 rfl rfl ?_
        refine Z_iload_n hk 3 dL_arePairs_179 rfl rfl ?_
        obtain ⟨x45, s46, h47, h⟩ := br_ok h
        refine ZX_callV 2 hk [.int a2, .int a3] (c_X7_copies hk.loc hk.inj hfl F a0 a2 a3 ha0 s41 h47) gL_arePairs_X7_copies rfl ⟨rfl, by decide +kernel, by decide +kernel, by decide +kernel⟩ ⟨Nat.le_of_ble_eq_true rfl, Nat.le_of_ble_eq_true rfl⟩ ha0.cell.1 (ha0.cell.2 _) rfl rfl rfl (Nat.le_of_ble_eq_true rfl) ⟨by show cs + 2 ≤ 4330; omega, by show ss + 12 ≤ 34590; omega⟩ dL_arePairs_180 (fun X hX => by cases hX) (fun v hv => ?_)
        cases hv
        show Z K (cs + 2) (ss + 12) 183 [(0, .ref (eA (kZ K) a0)), (1, .ref (eA (kZ K) a1)), (2, .int a2), (3, .int a3), (5, .int a5), (6, .int a6), (7, .int a7)] [.int x45] s46
        refine Z_iload hk 5 dL_arePairs_183 rfl ?_
        refine Z_icmp_ne hk (tgt := 192) dL_arePairs_185 (by decide) (fun c48 => ?_) (fun c48 => ?_)
        · have h := if_yes h c48
          refine Z_iconst hk dL_arePairs_188 zc_iconst_1 ?_
          refine Z_goto hk (tgt := 193) dL_arePairs_189 (by decide) ?_
          cases h
          exact ZG_zret hk (by decide) hq ⟨by show (cs + 2) + 0 ≤ 4330; omega, by show (ss + 12) + 0 ≤ 34590; omega⟩ dL_arePairs_193
        · have h := if_no h c48
          refine Z_sub [] rfl ?_
          exact w_L_arePairs_192 hk hfl hnx hq hw (cs + 2) (ss + 12) (by omega) (by omega) F s46 h
    · have h := if_no h c43
      refine Z_aload_n hk 1 dL_arePairs_121 rfl rfl ?_
      refine Z_iload_n hk 3 dL_arePairs_122 rfl rfl ?_
      obtain ⟨i51, x49, e50, h⟩ := ldL_get h
      refine Z_lald hk ha1 i51 dL_arePairs_123 ?_
      refine Z_eqL e50 ?_
      refine Z_iload hk 6 dL_arePairs_124 rfl ?_
      obtain ⟨x52, s53, h54, h⟩ := bd_ok h
      refine Z_callT 2 hk [.long x49, .int a7] (c_L_part hk.loc hk.inj F x49 a7 s41 h54) gL_arePairs_L_part rfl ⟨rfl, rfl⟩ (by decide +kernel) ⟨Nat.le_of_ble_eq_true rfl, Nat.le_of_ble_eq_true rfl⟩ rfl rfl (Nat.le_of_ble_eq_true rfl) ⟨by show cs + 0 ≤ 4330; omega, by show ss + 0 ≤ 34590; omega⟩ dL_arePairs_126 ?_
      show Z K cs ss 129 [(0, .ref (eA (kZ K) a0)), (1, .ref (eA (kZ K) a1)), (2, .int a2), (3, .int a3), (5, .int a5), (6, .int a6), (7, .int a7)] [.long x52] s53
      refine Z_lstore hk (lv' := [(8, .long x52), (0, .ref (eA (kZ K) a0)), (1, .ref (eA (kZ K) a1)), (2, .int a2), (3, .int a3), (5, .int a5), (6, .int a6), (7, .int a7)]) dL_arePairs_129 (by decide) rfl ?_
      refine Z_iload hk 6 dL_arePairs_131 rfl ?_
      refine Z_lload hk 0 dL_arePairs_133 rfl ?_
      obtain ⟨x55, s56, h57, h⟩ := bd_ok h
      refine Z_callT 1 hk [.long x52] (c_L_size hk.loc hk.inj F x52 s53 h57) gL_arePairs_L_size rfl ⟨rfl, rfl⟩ (by decide +kernel) ⟨Nat.le_of_ble_eq_true rfl, Nat.le_of_ble_eq_true rfl⟩ rfl rfl (Nat.le_of_ble_eq_true rfl) ⟨by show cs + 0 ≤ 4330; omega, by show ss + 0 ≤ 34590; omega⟩ dL_arePairs_135 ?_
      show Z K cs ss 138 [(8, .long x52), (0, .ref (eA (kZ K) a0)), (1, .ref (eA (kZ K) a1)), (2, .int a2), (3, .int a3), (5, .int a5), (6, .int a6), (7, .int a7)] [.int x55, .int a6] s56
      refine Z_aload_n hk 2 dL_arePairs_138 rfl rfl ?_
      refine Z_iload_n hk 3 dL_arePairs_139 rfl rfl ?_
      obtain ⟨i60, x58, e59, h⟩ := ldL_get h
      refine Z_lald hk ha1 i60 dL_arePairs_140 ?_
      refine Z_eqL e59 ?_
      obtain ⟨x61, s62, h63, h⟩ := bd_ok h
      refine Z_callT 1 hk [.long x58] (c_L_size hk.loc hk.inj F x58 s56 h63) gL_arePairs_L_size rfl ⟨rfl, rfl⟩ (by decide +kernel) ⟨Nat.le_of_ble_eq_true rfl, Nat.le_of_ble_eq_true rfl⟩ rfl rfl (Nat.le_of_ble_eq_true rfl) ⟨by show cs + 0 ≤ 4330; omega, by show ss + 0 ≤ 34590; omega⟩ dL_arePairs_141 ?_
      show Z K cs ss 144 [(8, .long x52), (0, .ref (eA (kZ K) a0)), (1, .ref (eA (kZ K) a1)), (2, .int a2), (3, .int a3), (5, .int a5), (6, .int a6), (7, .int a7)] [.int x61, .int x55, .int a6] s62
      refine Z_icmp_ne hk (tgt := 162) dL_arePairs_144 (by decide) (fun c64 => ?_) (fun c64 => ?_)
      · have h := if_yes h c64
        refine Z_lload hk 0 dL_arePairs_147 rfl ?_
        refine Z_aload_n hk 2 dL_arePairs_149 rfl rfl ?_
        refine Z_iload_n hk 3 dL_arePairs_150 rfl rfl ?_
        obtain ⟨i67, x65, e66, h⟩ := ldL_get h
        refine Z_lald hk ha1 i67 dL_arePairs_151 ?_
        refine Z_eqL e66 ?_
        obtain ⟨x68, s69, h70, h⟩ := bd_ok h
        refine ZX_callT 2 hk [.long x52, .long x65] (c_L_first hk.loc hk.inj hfl F w hw x52 x65 s62 h70) gL_arePairs_L_first rfl ⟨by decide +kernel, by decide +kernel, by decide +kernel⟩ ⟨Nat.le_of_ble_eq_true rfl, Nat.le_of_ble_eq_true rfl⟩ rfl rfl (Nat.le_of_ble_eq_true rfl) ⟨by show cs + 123 ≤ 4330; omega, by show ss + 984 ≤ 34590; omega⟩ dL_arePairs_152 (fun X hX => by cases hX) (fun v hv => ?_)
        cases hv
        show Z K (cs + 123) (ss + 984) 155 [(8, .long x52), (0, .ref (eA (kZ K) a0)), (1, .ref (eA (kZ K) a1)), (2, .int a2), (3, .int a3), (5, .int a5), (6, .int a6), (7, .int a7)] [.int x68, .int a6] s69
        refine Z_if_lt hk (tgt := 162) dL_arePairs_155 (by decide) (fun c71 => ?_) (fun c71 => ?_)
        · have h := if_yes h c71
          refine Z_sub [1, 2, 3, 4, 5, 7] rfl ?_
          exact w_L_arePairs_162 hk hfl hnx hq hw (cs + 123) (ss + 984) (cs + 123) (ss + 984) (by omega) (by omega) (by omega) (by omega) F (m_L_arePairs_108 F w n) ih a0 a1 a2 a3 a5 a7 a6 ha0 ha1 s69 h
        · have h := if_no h c71
          refine Z_iconst hk dL_arePairs_158 zc_iconst_1 ?_
          refine Z_goto hk (tgt := 163) dL_arePairs_159 (by decide) ?_
          refine Z_sub [1, 2, 3, 4, 5, 7] rfl ?_
          exact w_L_arePairs_163 hk hfl hnx hq hw (cs + 123) (ss + 984) (cs + 123) (ss + 984) (by omega) (by omega) (by omega) (by omega) F (m_L_arePairs_108 F w n) ih a0 a1 a2 a3 a5 a7 1 a6 ha0 ha1 s69 h
      · have h := if_no h c64
        refine Z_sub [1, 2, 3, 4, 5, 7] rfl ?_
        exact w_L_arePairs_162 hk hfl hnx hq hw cs ss (cs + 123) (ss + 984) (by omega) (by omega) (by omega) (by omega) F (m_L_arePairs_108 F w n) ih a0 a1 a2 a3 a5 a7 a6 ha0 ha1 s62 h
set_option maxRecDepth 100000 in
set_option maxHeartbeats 4000000 in
theorem w_L_arePairs_102 {K : zK} {w : Nat} (hk : zIs K RL cL_arePairs 10 wsL_arePairs (some .boolean) r_L_arePairs) (hfl : (kL K).stackTraces = false) (hnx : zNX K) {r0 : Int32} {τ0 : zST} (hq : zQG K (.inr (some (.int r0))) τ0) (hw : eN (kZ K) = w) (cs ss : Nat) (hb1 : cs + 4184 ≤ 4330) (hb2 : ss + 33468 ≤ 34590) (F : Nat) (a0 : Nat) (a1 : Nat) (a2 : Int32) (a3 : Int32) (a5 : Int32) (ha0 : atCanonCote (kZ K) a0) (ha1 : aJ (kZ K) a1 4) (σ : zST) (h : m_L_arePairs_102 F w a0 a1 a2 a3 a5 σ = some (r0, τ0)) : Z K cs ss 102 [(0, .ref (eA (kZ K) a0)), (1, .ref (eA (kZ K) a1)), (2, .int a2), (3, .int a3), (5, .int a5)] [] σ := by
  unfold m_L_arePairs_102 at h
  refine Z_iconst hk dL_arePairs_102 zc_iconst_0 ?_
  refine Z_istore hk (lv' := [(6, .int 0), (0, .ref (eA (kZ K) a0)), (1, .ref (eA (kZ K) a1)), (2, .int a2), (3, .int a3), (5, .int a5)]) dL_arePairs_103 (by decide) rfl ?_
  refine Z_iconst hk dL_arePairs_105 zc_iconst_0 ?_
  refine Z_istore hk (lv' := [(7, .int 0), (6, .int 0), (0, .ref (eA (kZ K) a0)), (1, .ref (eA (kZ K) a1)), (2, .int a2), (3, .int a3), (5, .int a5)]) dL_arePairs_106 (by decide) rfl ?_
  refine Z_sub [2, 3, 4, 5, 6, 1, 0] rfl ?_
  exact w_L_arePairs_108 hk hfl hnx hq hw F 34 cs ss (by omega) (by omega) a0 a1 a2 a3 a5 0 0 ha0 ha1 σ h
set_option maxRecDepth 100000 in
set_option maxHeartbeats 4000000 in
theorem w_L_arePairs_40 {K : zK} {w : Nat} (hk : zIs K RL cL_arePairs 10 wsL_arePairs (some .boolean) r_L_arePairs) (hfl : (kL K).stackTraces = false) (hnx : zNX K) {r0 : Int32} {τ0 : zST} (hq : zQG K (.inr (some (.int r0))) τ0) (hw : eN (kZ K) = w) (F : Nat) : ∀ (n : Nat) (cs ss : Nat) (hb1 : cs + 3 * n + 4184 ≤ 4330) (hb2 : ss + 18 * n + 33468 ≤ 34590) (a0 : Nat) (a1 : Nat) (a2 : Int32) (a3 : Int32) (a4 : Int32) (a5 : Int32) (a6 : Int32) (ha0 : atCanonCote (kZ K) a0) (ha1 : aJ (kZ K) a1 4) (σ : zST), m_L_arePairs_40 F w n a0 a1 a2 a3 a4 a5 a6 σ = some (r0, τ0) → Z K cs ss 40 [(0, .ref (eA (kZ K) a0)), (1, .ref (eA (kZ K) a1)), (2, .int a2), (3, .int a3), (4, .int a4), (5, .int a5), (6, .int a6)] [] σ := by
  intro n
  induction n with
  | zero => intro cs ss hb1 hb2 a0 a1 a2 a3 a4 a5 a6 ha0 ha1 σ h; cases h
  | succ n ih0 =>
    intro cs ss hb1 hb2 a0 a1 a2 a3 a4 a5 a6 ha0 ha1 σ h
    have ih := ih0 (cs + 3) (ss + 18) (by omega) (by omega)
    rw [m_L_arePairs_40] at h
    refine Z_iload hk 6 dL_arePairs_40 rfl ?_
    refine Z_aload_n hk 1 dL_arePairs_42 rfl rfl ?_
    refine Z_iload_n hk 2 dL_arePairs_43 rfl rfl ?_
    obtain ⟨i17, x15, e16, h⟩ := ldL_get h
    refine Z_lald hk ha1 i17 dL_arePairs_44 ?_
    refine Z_eqL e16 ?_
    obtain ⟨x18, s19, h20, h⟩ := bd_ok h
    refine Z_callT 1 hk [.long x15] (c_L_size hk.loc hk.inj F x15 σ h20) gL_arePairs_L_size rfl ⟨rfl, rfl⟩ (by decide +kernel) ⟨Nat.le_of_ble_eq_true rfl, Nat.le_of_ble_eq_true rfl⟩ rfl rfl (Nat.le_of_ble_eq_true rfl) ⟨by show cs + 0 ≤ 4330; omega, by show ss + 0 ≤ 34590; omega⟩ dL_arePairs_45 ?_
    show Z K cs ss 48 [(0, .ref (eA (kZ K) a0)), (1, .ref (eA (kZ K) a1)), (2, .int a2), (3, .int a3), (4, .int a4), (5, .int a5), (6, .int a6)] [.int x18, .int a6] s19
    refine Z_icmp_ge hk (tgt := 102) dL_arePairs_48 (by decide) (fun c21 => ?_) (fun c21 => ?_)
    · have h := if_yes h c21
      refine Z_sub [0, 1, 2, 3, 5] rfl ?_
      exact w_L_arePairs_102 hk hfl hnx hq hw cs ss (by omega) (by omega) F a0 a1 a2 a3 a5 ha0 ha1 s19 h
    · have h := if_no h c21
      refine Z_iload hk 5 dL_arePairs_51 rfl ?_
      refine Z_if_eq hk (tgt := 102) dL_arePairs_53 (by decide) (fun c22 => ?_) (fun c22 => ?_)
      · have h := if_yes h c22
        refine Z_sub [0, 1, 2, 3, 5] rfl ?_
        exact w_L_arePairs_102 hk hfl hnx hq hw cs ss (by omega) (by omega) F a0 a1 a2 a3 a5 ha0 ha1 s19 h
      · have h := if_no h c22
        refine Z_aload_n hk 0 dL_arePairs_56 rfl rfl ?_
        refine Z_iload_n hk 2 dL_arePairs_57 rfl rfl ?_
        refine Z_iload_n hk 3 dL_arePairs_58 rfl rfl ?_
        refine Z_iload hk 6 dL_arePairs_59 rfl ?_
        obtain ⟨x23, s24, h25, h⟩ := br_ok h
        refine ZX_callV 3 hk [.int a2, .int a3, .int a6] (c_X7_image hk.loc hk.inj hfl F a0 a2 a3 a6 ha0 s19 h25) gL_arePairs_X7_image rfl ⟨rfl, by decide +kernel, by decide +kernel, by decide +kernel⟩ ⟨Nat.le_of_ble_eq_true rfl, Nat.le_of_ble_eq_true rfl⟩ ha0.cell.1 (ha0.cell.2 _) rfl rfl rfl (Nat.le_of_ble_eq_true rfl) ⟨by show cs + 3 ≤ 4330; omega, by show ss + 18 ≤ 34590; omega⟩ dL_arePairs_61 (fun X hX => by cases hX) (fun v hv => ?_)
        cases hv
        show Z K (cs + 3) (ss + 18) 64 [(0, .ref (eA (kZ K) a0)), (1, .ref (eA (kZ K) a1)), (2, .int a2), (3, .int a3), (4, .int a4), (5, .int a5), (6, .int a6)] [.int x23] s24
        refine Z_iload hk 4 dL_arePairs_64 rfl ?_
        refine Z_if_ge hk (tgt := 73) dL_arePairs_66 (by decide) (fun c26 => ?_) (fun c26 => ?_)
        · have h := if_yes h c26
          refine Z_aload_n hk 1 dL_arePairs_73 rfl rfl ?_
          refine Z_iload_n hk 2 dL_arePairs_74 rfl rfl ?_
          obtain ⟨i29, x27, e28, h⟩ := ldL_get h
          refine Z_lald hk ha1 i29 dL_arePairs_75 ?_
          refine Z_eqL e28 ?_
          obtain ⟨x30, s31, h32, h⟩ := bd_ok h
          refine Z_callT 1 hk [.long x27] (c_L_size hk.loc hk.inj F x27 s24 h32) gL_arePairs_L_size rfl ⟨rfl, rfl⟩ (by decide +kernel) ⟨Nat.le_of_ble_eq_true rfl, Nat.le_of_ble_eq_true rfl⟩ rfl rfl (Nat.le_of_ble_eq_true rfl) ⟨by show (cs + 3) + 0 ≤ 4330; omega, by show (ss + 18) + 0 ≤ 34590; omega⟩ dL_arePairs_76 ?_
          show Z K (cs + 3) (ss + 18) 79 [(0, .ref (eA (kZ K) a0)), (1, .ref (eA (kZ K) a1)), (2, .int a2), (3, .int a3), (4, .int a4), (5, .int a5), (6, .int a6)] [.int x30, .int x23] s31
          refine Z_iload hk 4 dL_arePairs_79 rfl ?_
          refine Z_iload hk 6 dL_arePairs_81 rfl ?_
          obtain ⟨x33, s34, h35, h⟩ := bd_ok h
          refine Z_callT 3 hk [.int x30, .int a4, .int a6] (c_L_image hk.loc hk.inj F x30 a4 a6 s31 h35) gL_arePairs_L_image rfl ⟨rfl, rfl⟩ (by decide +kernel) ⟨Nat.le_of_ble_eq_true rfl, Nat.le_of_ble_eq_true rfl⟩ rfl rfl (Nat.le_of_ble_eq_true rfl) ⟨by show (cs + 3) + 0 ≤ 4330; omega, by show (ss + 18) + 0 ≤ 34590; omega⟩ dL_arePairs_83 ?_
          show Z K (cs + 3) (ss + 18) 86 [(0, .ref (eA (kZ K) a0)), (1, .ref (eA (kZ K) a1)), (2, .int a2), (3, .int a3), (4, .int a4), (5, .int a5), (6, .int a6)] [.int x33, .int x23] s34
          refine Z_sub [0, 1, 2, 3, 4, 6] rfl ?_
          exact w_L_arePairs_86 hk hfl hnx hq hw (cs + 3) (ss + 18) (cs + 3) (ss + 18) (by omega) (by omega) (by omega) (by omega) F (m_L_arePairs_40 F w n) ih a0 a1 a2 a3 a4 a6 x33 x23 ha0 ha1 s34 h
        · have h := if_no h c26
          refine Z_iconst hk dL_arePairs_69 zc_iconst_m1 ?_
          refine Z_goto hk (tgt := 86) dL_arePairs_70 (by decide) ?_
          refine Z_sub [0, 1, 2, 3, 4, 6] rfl ?_
          exact w_L_arePairs_86 hk hfl hnx hq hw (cs + 3) (ss + 18) (cs + 3) (ss + 18) (by omega) (by omega) (by omega) (by omega) F (m_L_arePairs_40 F w n) ih a0 a1 a2 a3 a4 a6 (-1) x23 ha0 ha1 s24 h
set_option maxRecDepth 100000 in
set_option maxHeartbeats 4000000 in
theorem w_L_arePairs_35 {K : zK} {w : Nat} (hk : zIs K RL cL_arePairs 10 wsL_arePairs (some .boolean) r_L_arePairs) (hfl : (kL K).stackTraces = false) (hnx : zNX K) {r0 : Int32} {τ0 : zST} (hq : zQG K (.inr (some (.int r0))) τ0) (hw : eN (kZ K) = w) (cs ss : Nat) (hb1 : cs + 4205 ≤ 4330) (hb2 : ss + 33594 ≤ 34590) (F : Nat) (a0 : Nat) (a1 : Nat) (a2 : Int32) (a3 : Int32) (a4 : Int32) (t0 : Int32) (ha0 : atCanonCote (kZ K) a0) (ha1 : aJ (kZ K) a1 4) (σ : zST) (h : m_L_arePairs_35 F w a0 a1 a2 a3 a4 t0 σ = some (r0, τ0)) : Z K cs ss 35 [(0, .ref (eA (kZ K) a0)), (1, .ref (eA (kZ K) a1)), (2, .int a2), (3, .int a3), (4, .int a4)] [.int t0] σ := by
  unfold m_L_arePairs_35 at h
  refine Z_istore hk (lv' := [(5, .int t0), (0, .ref (eA (kZ K) a0)), (1, .ref (eA (kZ K) a1)), (2, .int a2), (3, .int a3), (4, .int a4)]) dL_arePairs_35 (by decide) rfl ?_
  refine Z_iconst hk dL_arePairs_37 zc_iconst_0 ?_
  refine Z_istore hk (lv' := [(6, .int 0), (5, .int t0), (0, .ref (eA (kZ K) a0)), (1, .ref (eA (kZ K) a1)), (2, .int a2), (3, .int a3), (4, .int a4)]) dL_arePairs_38 (by decide) rfl ?_
  refine Z_sub [2, 3, 4, 5, 6, 1, 0] rfl ?_
  exact w_L_arePairs_40 hk hfl hnx hq hw F 7 cs ss (by omega) (by omega) a0 a1 a2 a3 a4 t0 0 ha0 ha1 σ h
set_option maxRecDepth 100000 in
set_option maxHeartbeats 4000000 in
theorem w_L_arePairs_27 {K : zK} {w : Nat} (hk : zIs K RL cL_arePairs 10 wsL_arePairs (some .boolean) r_L_arePairs) (hfl : (kL K).stackTraces = false) (hnx : zNX K) {r0 : Int32} {τ0 : zST} (hq : zQG K (.inr (some (.int r0))) τ0) (hw : eN (kZ K) = w) (cs ss : Nat) (hb1 : cs + 4205 ≤ 4330) (hb2 : ss + 33594 ≤ 34590) (F : Nat) (a0 : Nat) (a1 : Nat) (a2 : Int32) (a3 : Int32) (a4 : Int32) (t0 : Int32) (t1 : Int32) (ha0 : atCanonCote (kZ K) a0) (ha1 : aJ (kZ K) a1 4) (σ : zST) (h : m_L_arePairs_27 F w a0 a1 a2 a3 a4 t0 t1 σ = some (r0, τ0)) : Z K cs ss 27 [(0, .ref (eA (kZ K) a0)), (1, .ref (eA (kZ K) a1)), (2, .int a2), (3, .int a3), (4, .int a4)] [.int t0, .int t1] σ := by
  unfold m_L_arePairs_27 at h
  refine Z_icmp_ne hk (tgt := 34) dL_arePairs_27 (by decide) (fun c14 => ?_) (fun c14 => ?_)
  · have h := if_yes h c14
    refine Z_iconst hk dL_arePairs_30 zc_iconst_1 ?_
    refine Z_goto hk (tgt := 35) dL_arePairs_31 (by decide) ?_
    refine Z_sub [0, 1, 2, 3, 4] rfl ?_
    exact w_L_arePairs_35 hk hfl hnx hq hw cs ss (by omega) (by omega) F a0 a1 a2 a3 a4 1 ha0 ha1 σ h
  · have h := if_no h c14
    refine Z_iconst hk dL_arePairs_34 zc_iconst_0 ?_
    refine Z_sub [0, 1, 2, 3, 4] rfl ?_
    exact w_L_arePairs_35 hk hfl hnx hq hw cs ss (by omega) (by omega) F a0 a1 a2 a3 a4 0 ha0 ha1 σ h
set_option maxRecDepth 100000 in
set_option maxHeartbeats 4000000 in
theorem w_L_arePairs {K : zK} {w : Nat} (hk : zIs K RL cL_arePairs 10 wsL_arePairs (some .boolean) r_L_arePairs) (hfl : (kL K).stackTraces = false) (hnx : zNX K) {r0 : Int32} {τ0 : zST} (hq : zQG K (.inr (some (.int r0))) τ0) (hw : eN (kZ K) = w) (F : Nat) (a0 : Nat) (a1 : Nat) (a2 : Int32) (a3 : Int32) (ha0 : atCanonCote (kZ K) a0) (ha1 : aJ (kZ K) a1 4) (σ : zST) (h : m_L_arePairs F w a0 a1 a2 a3 σ = some (r0, τ0)) : Z K 0 0 0 [(0, .ref (eA (kZ K) a0)), (1, .ref (eA (kZ K) a1)), (2, .int a2), (3, .int a3)] [] σ := by
  unfold m_L_arePairs at h
  refine Z_aload_n hk 1 dL_arePairs_0 rfl rfl ?_
  refine Z_iload_n hk 2 dL_arePairs_1 rfl rfl ?_
  obtain ⟨i3, x1, e2, h⟩ := ldL_get h
  refine Z_lald hk ha1 i3 dL_arePairs_2 ?_
  refine Z_eqL e2 ?_
  refine Z_aload_n hk 1 dL_arePairs_3 rfl rfl ?_
  refine Z_iload_n hk 3 dL_arePairs_4 rfl rfl ?_
  obtain ⟨i6, x4, e5, h⟩ := ldL_get h
  refine Z_lald hk ha1 i6 dL_arePairs_5 ?_
  refine Z_eqL e5 ?_
  obtain ⟨x7, s8, h9, h⟩ := bd_ok h
  refine ZX_callT 2 hk [.long x1, .long x4] (c_L_first hk.loc hk.inj hfl F w hw x1 x4 σ h9) gL_arePairs_L_first rfl ⟨by decide +kernel, by decide +kernel, by decide +kernel⟩ ⟨Nat.le_of_ble_eq_true rfl, Nat.le_of_ble_eq_true rfl⟩ rfl rfl (Nat.le_of_ble_eq_true rfl) ⟨by show 0 + 123 ≤ 4330; omega, by show 0 + 984 ≤ 34590; omega⟩ dL_arePairs_6 (fun X hX => by cases hX) (fun v hv => ?_)
  cases hv
  show Z K 123 984 9 [(0, .ref (eA (kZ K) a0)), (1, .ref (eA (kZ K) a1)), (2, .int a2), (3, .int a3)] [.int x7] s8
  refine Z_istore hk (lv' := [(4, .int x7), (0, .ref (eA (kZ K) a0)), (1, .ref (eA (kZ K) a1)), (2, .int a2), (3, .int a3)]) dL_arePairs_9 (by decide) rfl ?_
  refine Z_aload_n hk 1 dL_arePairs_11 rfl rfl ?_
  refine Z_iload_n hk 3 dL_arePairs_12 rfl rfl ?_
  refine Z_iload_n hk 4 dL_arePairs_13 rfl rfl ?_
  obtain ⟨x10, s11, h12, h⟩ := br_ok h
  refine ZX_callV 2 hk [.int a2, .int a3] (c_X7_areAlike hk.loc hk.inj hfl F a0 a2 a3 ha0 s8 h12) gL_arePairs_X7_areAlike rfl ⟨rfl, by decide +kernel, by decide +kernel, by decide +kernel⟩ ⟨Nat.le_of_ble_eq_true rfl, Nat.le_of_ble_eq_true rfl⟩ ha0.cell.1 (ha0.cell.2 _) rfl rfl rfl (Nat.le_of_ble_eq_true rfl) ⟨by show 123 + 2 ≤ 4330; omega, by show 984 + 12 ≤ 34590; omega⟩ dL_arePairs_14 (fun X hX => by cases hX) (fun v hv => ?_)
  cases hv
  show Z K 125 996 17 [(4, .int x7), (0, .ref (eA (kZ K) a0)), (1, .ref (eA (kZ K) a1)), (2, .int a2), (3, .int a3)] [.int x10] s11
  refine Z_iload hk 0 dL_arePairs_17 rfl ?_
  refine Z_if_lt hk (tgt := 26) dL_arePairs_19 (by decide) (fun c13 => ?_) (fun c13 => ?_)
  · have h := if_yes h c13
    refine Z_iconst hk dL_arePairs_26 zc_iconst_0 ?_
    refine Z_sub [1, 2, 3, 4, 0] rfl ?_
    exact w_L_arePairs_27 hk hfl hnx hq hw 125 996 (by omega) (by omega) F a0 a1 a2 a3 x7 0 x10 ha0 ha1 s11 h
  · have h := if_no h c13
    refine Z_iconst hk dL_arePairs_22 zc_iconst_1 ?_
    refine Z_goto hk (tgt := 27) dL_arePairs_23 (by decide) ?_
    refine Z_sub [1, 2, 3, 4, 0] rfl ?_
    exact w_L_arePairs_27 hk hfl hnx hq hw 125 996 (by omega) (by omega) F a0 a1 a2 a3 x7 1 x10 ha0 ha1 s11 h
theorem c_L_arePairs {l : Launch} {E : zE} (hL : eL E) (hJ : eJ E) (hfl : l.stackTraces = false) (F w : Nat) (hw : eN E = w) (a0 : Nat) (a1 : Nat) (a2 : Int32) (a3 : Int32) (ha0 : atCanonCote E a0) (ha1 : aJ E a1 4) (σ : zST) {r0 : Int32} {τ0 : zST} (h : m_L_arePairs F w a0 a1 a2 a3 σ = some (r0, τ0)) : CtX l yL_arePairs wsL_arePairs r_L_arePairs E [.ref (eA E a0), .ref (eA E a1), .int a2, .int a3] σ (.inr (some (.int r0))) τ0 := by
  refine CtX_of (by decide) rfl hL hJ (Nat.le_of_ble_eq_true rfl) (fun K hE hl hk hnx hq => ?_)
  subst hE
  subst hl
  exact w_L_arePairs hk hfl hnx (zQG.of hq) hw F a0 a1 a2 a3 ha0 ha1 σ h
end

-- CanonCoteLaw.acts (LCanonCote;[JIII)Z
section
theorem dL_acts_0 : decode cL_acts 0 = .ok (.aload_n 1, 1) := by decide +kernel
theorem dL_acts_1 : decode cL_acts 1 = .ok (.iload_n 3, 1) := by decide +kernel
theorem dL_acts_2 : decode cL_acts 2 = .ok (.laload, 1) := by decide +kernel
theorem dL_acts_3 : decode cL_acts 3 = .ok (.lstore 5, 2) := by decide +kernel
theorem dL_acts_5 : decode cL_acts 5 = .ok (.lload 5, 2) := by decide +kernel
theorem dL_acts_7 : decode cL_acts 7 = .ok (.invokestatic 23, 3) := by decide +kernel
theorem dL_acts_10 : decode cL_acts 10 = .ok (.istore 7, 2) := by decide +kernel
theorem dL_acts_12 : decode cL_acts 12 = .ok (.iload 4, 2) := by decide +kernel
theorem dL_acts_14 : decode cL_acts 14 = .ok (.iload 7, 2) := by decide +kernel
theorem dL_acts_16 : decode cL_acts 16 = .ok (.irem, 1) := by decide +kernel
theorem dL_acts_17 : decode cL_acts 17 = .ok (.istore 8, 2) := by decide +kernel
theorem dL_acts_19 : decode cL_acts 19 = .ok (.iload 4, 2) := by decide +kernel
theorem dL_acts_21 : decode cL_acts 21 = .ok (.bipush 8, 2) := by decide +kernel
theorem dL_acts_23 : decode cL_acts 23 = .ok (.idiv, 1) := by decide +kernel
theorem dL_acts_24 : decode cL_acts 24 = .ok (.iload 7, 2) := by decide +kernel
theorem dL_acts_26 : decode cL_acts 26 = .ok (.irem, 1) := by decide +kernel
theorem dL_acts_27 : decode cL_acts 27 = .ok (.istore 9, 2) := by decide +kernel
theorem dL_acts_29 : decode cL_acts 29 = .ok (.iload_n 2, 1) := by decide +kernel
theorem dL_acts_30 : decode cL_acts 30 = .ok (.ifCond .ne 38, 3) := by decide +kernel
theorem dL_acts_33 : decode cL_acts 33 = .ok (.aload_n 1, 1) := by decide +kernel
theorem dL_acts_34 : decode cL_acts 34 = .ok (.iload_n 3, 1) := by decide +kernel
theorem dL_acts_35 : decode cL_acts 35 = .ok (.iconst 1, 1) := by decide +kernel
theorem dL_acts_36 : decode cL_acts 36 = .ok (.iload 4, 2) := by decide +kernel
theorem dL_acts_38 : decode cL_acts 38 = .ok (.iconst 5, 1) := by decide +kernel
theorem dL_acts_39 : decode cL_acts 39 = .ok (.irem, 1) := by decide +kernel
theorem dL_acts_40 : decode cL_acts 40 = .ok (.iadd, 1) := by decide +kernel
theorem dL_acts_41 : decode cL_acts 41 = .ok (.i2l, 1) := by decide +kernel
theorem dL_acts_42 : decode cL_acts 42 = .ok (.bipush 52, 2) := by decide +kernel
theorem dL_acts_44 : decode cL_acts 44 = .ok (.lshl, 1) := by decide +kernel
theorem dL_acts_45 : decode cL_acts 45 = .ok (.lastore, 1) := by decide +kernel
theorem dL_acts_46 : decode cL_acts 46 = .ok (.aload_n 0, 1) := by decide +kernel
theorem dL_acts_47 : decode cL_acts 47 = .ok (.iload_n 3, 1) := by decide +kernel
theorem dL_acts_48 : decode cL_acts 48 = .ok (.iconst 1, 1) := by decide +kernel
theorem dL_acts_49 : decode cL_acts 49 = .ok (.iload 4, 2) := by decide +kernel
theorem dL_acts_51 : decode cL_acts 51 = .ok (.iconst 5, 1) := by decide +kernel
theorem dL_acts_52 : decode cL_acts 52 = .ok (.irem, 1) := by decide +kernel
theorem dL_acts_53 : decode cL_acts 53 = .ok (.iadd, 1) := by decide +kernel
theorem dL_acts_54 : decode cL_acts 54 = .ok (.invokevirtual 109, 3) := by decide +kernel
theorem dL_acts_57 : decode cL_acts 57 = .ok (.iload 7, 2) := by decide +kernel
theorem dL_acts_59 : decode cL_acts 59 = .ok (.if_icmp .ne 7, 3) := by decide +kernel
theorem dL_acts_62 : decode cL_acts 62 = .ok (.iconst 1, 1) := by decide +kernel
theorem dL_acts_63 : decode cL_acts 63 = .ok (.goto 4, 3) := by decide +kernel
theorem dL_acts_66 : decode cL_acts 66 = .ok (.iconst 0, 1) := by decide +kernel
theorem dL_acts_67 : decode cL_acts 67 = .ok (.ireturn, 1) := by decide +kernel
theorem dL_acts_68 : decode cL_acts 68 = .ok (.iload_n 2, 1) := by decide +kernel
theorem dL_acts_69 : decode cL_acts 69 = .ok (.iconst 1, 1) := by decide +kernel
theorem dL_acts_70 : decode cL_acts 70 = .ok (.if_icmp .ne 50, 3) := by decide +kernel
theorem dL_acts_73 : decode cL_acts 73 = .ok (.aload_n 1, 1) := by decide +kernel
theorem dL_acts_74 : decode cL_acts 74 = .ok (.iload_n 3, 1) := by decide +kernel
theorem dL_acts_75 : decode cL_acts 75 = .ok (.lload 5, 2) := by decide +kernel
theorem dL_acts_77 : decode cL_acts 77 = .ok (.iload 8, 2) := by decide +kernel
theorem dL_acts_79 : decode cL_acts 79 = .ok (.iload 4, 2) := by decide +kernel
theorem dL_acts_81 : decode cL_acts 81 = .ok (.bipush 64, 2) := by decide +kernel
theorem dL_acts_83 : decode cL_acts 83 = .ok (.idiv, 1) := by decide +kernel
theorem dL_acts_84 : decode cL_acts 84 = .ok (.iconst 3, 1) := by decide +kernel
theorem dL_acts_85 : decode cL_acts 85 = .ok (.irem, 1) := by decide +kernel
theorem dL_acts_86 : decode cL_acts 86 = .ok (.invokestatic 35, 3) := by decide +kernel
theorem dL_acts_89 : decode cL_acts 89 = .ok (.lastore, 1) := by decide +kernel
theorem dL_acts_90 : decode cL_acts 90 = .ok (.aload_n 0, 1) := by decide +kernel
theorem dL_acts_91 : decode cL_acts 91 = .ok (.iload_n 3, 1) := by decide +kernel
theorem dL_acts_92 : decode cL_acts 92 = .ok (.iload 8, 2) := by decide +kernel
theorem dL_acts_94 : decode cL_acts 94 = .ok (.iload 4, 2) := by decide +kernel
theorem dL_acts_96 : decode cL_acts 96 = .ok (.bipush 64, 2) := by decide +kernel
theorem dL_acts_98 : decode cL_acts 98 = .ok (.idiv, 1) := by decide +kernel
theorem dL_acts_99 : decode cL_acts 99 = .ok (.iconst 3, 1) := by decide +kernel
theorem dL_acts_100 : decode cL_acts 100 = .ok (.irem, 1) := by decide +kernel
theorem dL_acts_101 : decode cL_acts 101 = .ok (.invokevirtual 112, 3) := by decide +kernel
theorem dL_acts_104 : decode cL_acts 104 = .ok (.lload 5, 2) := by decide +kernel
theorem dL_acts_106 : decode cL_acts 106 = .ok (.iload 8, 2) := by decide +kernel
theorem dL_acts_108 : decode cL_acts 108 = .ok (.invokestatic 31, 3) := by decide +kernel
theorem dL_acts_111 : decode cL_acts 111 = .ok (.if_icmp .ne 7, 3) := by decide +kernel
theorem dL_acts_114 : decode cL_acts 114 = .ok (.iconst 1, 1) := by decide +kernel
theorem dL_acts_115 : decode cL_acts 115 = .ok (.goto 4, 3) := by decide +kernel
theorem dL_acts_118 : decode cL_acts 118 = .ok (.iconst 0, 1) := by decide +kernel
theorem dL_acts_119 : decode cL_acts 119 = .ok (.ireturn, 1) := by decide +kernel
theorem dL_acts_120 : decode cL_acts 120 = .ok (.iload_n 2, 1) := by decide +kernel
theorem dL_acts_121 : decode cL_acts 121 = .ok (.iconst 2, 1) := by decide +kernel
theorem dL_acts_122 : decode cL_acts 122 = .ok (.if_icmp .ne 203, 3) := by decide +kernel
theorem dL_acts_125 : decode cL_acts 125 = .ok (.iconst 0, 1) := by decide +kernel
theorem dL_acts_126 : decode cL_acts 126 = .ok (.istore 10, 2) := by decide +kernel
theorem dL_acts_128 : decode cL_acts 128 = .ok (.iload 10, 2) := by decide +kernel
theorem dL_acts_130 : decode cL_acts 130 = .ok (.iload 7, 2) := by decide +kernel
theorem dL_acts_132 : decode cL_acts 132 = .ok (.if_icmp .ge 182, 3) := by decide +kernel
theorem dL_acts_135 : decode cL_acts 135 = .ok (.iconst 0, 1) := by decide +kernel
theorem dL_acts_136 : decode cL_acts 136 = .ok (.istore 11, 2) := by decide +kernel
theorem dL_acts_138 : decode cL_acts 138 = .ok (.iload 11, 2) := by decide +kernel
theorem dL_acts_140 : decode cL_acts 140 = .ok (.iload 7, 2) := by decide +kernel
theorem dL_acts_142 : decode cL_acts 142 = .ok (.if_icmp .ge 124, 3) := by decide +kernel
theorem dL_acts_145 : decode cL_acts 145 = .ok (.iload 10, 2) := by decide +kernel
theorem dL_acts_147 : decode cL_acts 147 = .ok (.iload 8, 2) := by decide +kernel
theorem dL_acts_149 : decode cL_acts 149 = .ok (.if_icmp .ne 8, 3) := by decide +kernel
theorem dL_acts_152 : decode cL_acts 152 = .ok (.iload 9, 2) := by decide +kernel
theorem dL_acts_154 : decode cL_acts 154 = .ok (.goto 17, 3) := by decide +kernel
theorem dL_acts_157 : decode cL_acts 157 = .ok (.iload 10, 2) := by decide +kernel
theorem dL_acts_159 : decode cL_acts 159 = .ok (.iload 9, 2) := by decide +kernel
theorem dL_acts_161 : decode cL_acts 161 = .ok (.if_icmp .ne 8, 3) := by decide +kernel
theorem dL_acts_164 : decode cL_acts 164 = .ok (.iload 8, 2) := by decide +kernel
theorem dL_acts_166 : decode cL_acts 166 = .ok (.goto 5, 3) := by decide +kernel
theorem dL_acts_169 : decode cL_acts 169 = .ok (.iload 10, 2) := by decide +kernel
theorem dL_acts_171 : decode cL_acts 171 = .ok (.istore 12, 2) := by decide +kernel
theorem dL_acts_173 : decode cL_acts 173 = .ok (.iload 11, 2) := by decide +kernel
theorem dL_acts_175 : decode cL_acts 175 = .ok (.iload 8, 2) := by decide +kernel
theorem dL_acts_177 : decode cL_acts 177 = .ok (.if_icmp .ne 8, 3) := by decide +kernel
theorem dL_acts_180 : decode cL_acts 180 = .ok (.iload 9, 2) := by decide +kernel
theorem dL_acts_182 : decode cL_acts 182 = .ok (.goto 17, 3) := by decide +kernel
theorem dL_acts_185 : decode cL_acts 185 = .ok (.iload 11, 2) := by decide +kernel
theorem dL_acts_187 : decode cL_acts 187 = .ok (.iload 9, 2) := by decide +kernel
theorem dL_acts_189 : decode cL_acts 189 = .ok (.if_icmp .ne 8, 3) := by decide +kernel
theorem dL_acts_192 : decode cL_acts 192 = .ok (.iload 8, 2) := by decide +kernel
theorem dL_acts_194 : decode cL_acts 194 = .ok (.goto 5, 3) := by decide +kernel
theorem dL_acts_197 : decode cL_acts 197 = .ok (.iload 11, 2) := by decide +kernel
theorem dL_acts_199 : decode cL_acts 199 = .ok (.istore 13, 2) := by decide +kernel
theorem dL_acts_201 : decode cL_acts 201 = .ok (.aload_n 1, 1) := by decide +kernel
theorem dL_acts_202 : decode cL_acts 202 = .ok (.iload_n 3, 1) := by decide +kernel
theorem dL_acts_203 : decode cL_acts 203 = .ok (.iload 11, 2) := by decide +kernel
theorem dL_acts_205 : decode cL_acts 205 = .ok (.iload 10, 2) := by decide +kernel
theorem dL_acts_207 : decode cL_acts 207 = .ok (.if_icmp .ge 49, 3) := by decide +kernel
theorem dL_acts_210 : decode cL_acts 210 = .ok (.aload_n 1, 1) := by decide +kernel
theorem dL_acts_211 : decode cL_acts 211 = .ok (.iload_n 3, 1) := by decide +kernel
theorem dL_acts_212 : decode cL_acts 212 = .ok (.laload, 1) := by decide +kernel
theorem dL_acts_213 : decode cL_acts 213 = .ok (.lconst 1, 1) := by decide +kernel
theorem dL_acts_214 : decode cL_acts 214 = .ok (.iload 10, 2) := by decide +kernel
theorem dL_acts_216 : decode cL_acts 216 = .ok (.iload 11, 2) := by decide +kernel
theorem dL_acts_218 : decode cL_acts 218 = .ok (.invokestatic 9, 3) := by decide +kernel
theorem dL_acts_221 : decode cL_acts 221 = .ok (.lshl, 1) := by decide +kernel
theorem dL_acts_222 : decode cL_acts 222 = .ok (.ldc2_w 17, 3) := by decide +kernel
theorem dL_acts_225 : decode cL_acts 225 = .ok (.lxor, 1) := by decide +kernel
theorem dL_acts_226 : decode cL_acts 226 = .ok (.land, 1) := by decide +kernel
theorem dL_acts_227 : decode cL_acts 227 = .ok (.lload 5, 2) := by decide +kernel
theorem dL_acts_229 : decode cL_acts 229 = .ok (.iload 12, 2) := by decide +kernel
theorem dL_acts_231 : decode cL_acts 231 = .ok (.iload 13, 2) := by decide +kernel
theorem dL_acts_233 : decode cL_acts 233 = .ok (.invokestatic 39, 3) := by decide +kernel
theorem dL_acts_236 : decode cL_acts 236 = .ok (.ifCond .eq 15, 3) := by decide +kernel
theorem dL_acts_239 : decode cL_acts 239 = .ok (.lconst 1, 1) := by decide +kernel
theorem dL_acts_240 : decode cL_acts 240 = .ok (.iload 10, 2) := by decide +kernel
theorem dL_acts_242 : decode cL_acts 242 = .ok (.iload 11, 2) := by decide +kernel
theorem dL_acts_244 : decode cL_acts 244 = .ok (.invokestatic 9, 3) := by decide +kernel
theorem dL_acts_247 : decode cL_acts 247 = .ok (.lshl, 1) := by decide +kernel
theorem dL_acts_248 : decode cL_acts 248 = .ok (.goto 4, 3) := by decide +kernel
theorem dL_acts_251 : decode cL_acts 251 = .ok (.lconst 0, 1) := by decide +kernel
theorem dL_acts_252 : decode cL_acts 252 = .ok (.lor, 1) := by decide +kernel
theorem dL_acts_253 : decode cL_acts 253 = .ok (.goto 6, 3) := by decide +kernel
theorem dL_acts_256 : decode cL_acts 256 = .ok (.aload_n 1, 1) := by decide +kernel
theorem dL_acts_257 : decode cL_acts 257 = .ok (.iload_n 3, 1) := by decide +kernel
theorem dL_acts_258 : decode cL_acts 258 = .ok (.laload, 1) := by decide +kernel
theorem dL_acts_259 : decode cL_acts 259 = .ok (.lastore, 1) := by decide +kernel
theorem dL_acts_260 : decode cL_acts 260 = .ok (.iinc 11 1, 3) := by decide +kernel
theorem dL_acts_263 : decode cL_acts 263 = .ok (.goto (-125), 3) := by decide +kernel
theorem dL_acts_266 : decode cL_acts 266 = .ok (.aload_n 1, 1) := by decide +kernel
theorem dL_acts_267 : decode cL_acts 267 = .ok (.iload_n 3, 1) := by decide +kernel
theorem dL_acts_268 : decode cL_acts 268 = .ok (.aload_n 1, 1) := by decide +kernel
theorem dL_acts_269 : decode cL_acts 269 = .ok (.iload_n 3, 1) := by decide +kernel
theorem dL_acts_270 : decode cL_acts 270 = .ok (.laload, 1) := by decide +kernel
theorem dL_acts_271 : decode cL_acts 271 = .ok (.iload 10, 2) := by decide +kernel
theorem dL_acts_273 : decode cL_acts 273 = .ok (.lload 5, 2) := by decide +kernel
theorem dL_acts_275 : decode cL_acts 275 = .ok (.iload 10, 2) := by decide +kernel
theorem dL_acts_277 : decode cL_acts 277 = .ok (.iload 8, 2) := by decide +kernel
theorem dL_acts_279 : decode cL_acts 279 = .ok (.if_icmp .ne 8, 3) := by decide +kernel
theorem dL_acts_282 : decode cL_acts 282 = .ok (.iload 9, 2) := by decide +kernel
theorem dL_acts_284 : decode cL_acts 284 = .ok (.goto 17, 3) := by decide +kernel
theorem dL_acts_287 : decode cL_acts 287 = .ok (.iload 10, 2) := by decide +kernel
theorem dL_acts_289 : decode cL_acts 289 = .ok (.iload 9, 2) := by decide +kernel
theorem dL_acts_291 : decode cL_acts 291 = .ok (.if_icmp .ne 8, 3) := by decide +kernel
theorem dL_acts_294 : decode cL_acts 294 = .ok (.iload 8, 2) := by decide +kernel
theorem dL_acts_296 : decode cL_acts 296 = .ok (.goto 5, 3) := by decide +kernel
theorem dL_acts_299 : decode cL_acts 299 = .ok (.iload 10, 2) := by decide +kernel
theorem dL_acts_301 : decode cL_acts 301 = .ok (.invokestatic 31, 3) := by decide +kernel
theorem dL_acts_304 : decode cL_acts 304 = .ok (.invokestatic 35, 3) := by decide +kernel
theorem dL_acts_307 : decode cL_acts 307 = .ok (.lastore, 1) := by decide +kernel
theorem dL_acts_308 : decode cL_acts 308 = .ok (.iinc 10 1, 3) := by decide +kernel
theorem dL_acts_311 : decode cL_acts 311 = .ok (.goto (-183), 3) := by decide +kernel
theorem dL_acts_314 : decode cL_acts 314 = .ok (.aload_n 0, 1) := by decide +kernel
theorem dL_acts_315 : decode cL_acts 315 = .ok (.iload_n 3, 1) := by decide +kernel
theorem dL_acts_316 : decode cL_acts 316 = .ok (.iload 8, 2) := by decide +kernel
theorem dL_acts_318 : decode cL_acts 318 = .ok (.iload 9, 2) := by decide +kernel
theorem dL_acts_320 : decode cL_acts 320 = .ok (.invokevirtual 115, 3) := by decide +kernel
theorem dL_acts_323 : decode cL_acts 323 = .ok (.iconst 1, 1) := by decide +kernel
theorem dL_acts_324 : decode cL_acts 324 = .ok (.ireturn, 1) := by decide +kernel
theorem dL_acts_325 : decode cL_acts 325 = .ok (.iload_n 2, 1) := by decide +kernel
theorem dL_acts_326 : decode cL_acts 326 = .ok (.iconst 3, 1) := by decide +kernel
theorem dL_acts_327 : decode cL_acts 327 = .ok (.if_icmp .ne 28, 3) := by decide +kernel
theorem dL_acts_330 : decode cL_acts 330 = .ok (.aload_n 1, 1) := by decide +kernel
theorem dL_acts_331 : decode cL_acts 331 = .ok (.iload 4, 2) := by decide +kernel
theorem dL_acts_333 : decode cL_acts 333 = .ok (.bipush 64, 2) := by decide +kernel
theorem dL_acts_335 : decode cL_acts 335 = .ok (.idiv, 1) := by decide +kernel
theorem dL_acts_336 : decode cL_acts 336 = .ok (.iconst 4, 1) := by decide +kernel
theorem dL_acts_337 : decode cL_acts 337 = .ok (.irem, 1) := by decide +kernel
theorem dL_acts_338 : decode cL_acts 338 = .ok (.lload 5, 2) := by decide +kernel
theorem dL_acts_340 : decode cL_acts 340 = .ok (.lastore, 1) := by decide +kernel
theorem dL_acts_341 : decode cL_acts 341 = .ok (.aload_n 0, 1) := by decide +kernel
theorem dL_acts_342 : decode cL_acts 342 = .ok (.iload_n 3, 1) := by decide +kernel
theorem dL_acts_343 : decode cL_acts 343 = .ok (.iload 4, 2) := by decide +kernel
theorem dL_acts_345 : decode cL_acts 345 = .ok (.bipush 64, 2) := by decide +kernel
theorem dL_acts_347 : decode cL_acts 347 = .ok (.idiv, 1) := by decide +kernel
theorem dL_acts_348 : decode cL_acts 348 = .ok (.iconst 4, 1) := by decide +kernel
theorem dL_acts_349 : decode cL_acts 349 = .ok (.irem, 1) := by decide +kernel
theorem dL_acts_350 : decode cL_acts 350 = .ok (.invokevirtual 119, 3) := by decide +kernel
theorem dL_acts_353 : decode cL_acts 353 = .ok (.iconst 1, 1) := by decide +kernel
theorem dL_acts_354 : decode cL_acts 354 = .ok (.ireturn, 1) := by decide +kernel
theorem dL_acts_355 : decode cL_acts 355 = .ok (.iload_n 2, 1) := by decide +kernel
theorem dL_acts_356 : decode cL_acts 356 = .ok (.iconst 4, 1) := by decide +kernel
theorem dL_acts_357 : decode cL_acts 357 = .ok (.if_icmp .ne 124, 3) := by decide +kernel
theorem dL_acts_360 : decode cL_acts 360 = .ok (.iconst 0, 1) := by decide +kernel
theorem dL_acts_361 : decode cL_acts 361 = .ok (.istore 10, 2) := by decide +kernel
theorem dL_acts_363 : decode cL_acts 363 = .ok (.iconst 0, 1) := by decide +kernel
theorem dL_acts_364 : decode cL_acts 364 = .ok (.istore 11, 2) := by decide +kernel
theorem dL_acts_366 : decode cL_acts 366 = .ok (.iload 11, 2) := by decide +kernel
theorem dL_acts_368 : decode cL_acts 368 = .ok (.iload 7, 2) := by decide +kernel
theorem dL_acts_370 : decode cL_acts 370 = .ok (.iload 7, 2) := by decide +kernel
theorem dL_acts_372 : decode cL_acts 372 = .ok (.imul, 1) := by decide +kernel
theorem dL_acts_373 : decode cL_acts 373 = .ok (.if_icmp .ge 92, 3) := by decide +kernel
theorem dL_acts_376 : decode cL_acts 376 = .ok (.iload 11, 2) := by decide +kernel
theorem dL_acts_378 : decode cL_acts 378 = .ok (.iload 7, 2) := by decide +kernel
theorem dL_acts_380 : decode cL_acts 380 = .ok (.idiv, 1) := by decide +kernel
theorem dL_acts_381 : decode cL_acts 381 = .ok (.iload 11, 2) := by decide +kernel
theorem dL_acts_383 : decode cL_acts 383 = .ok (.iload 7, 2) := by decide +kernel
theorem dL_acts_385 : decode cL_acts 385 = .ok (.irem, 1) := by decide +kernel
theorem dL_acts_386 : decode cL_acts 386 = .ok (.if_icmp .ge 7, 3) := by decide +kernel
theorem dL_acts_389 : decode cL_acts 389 = .ok (.iconst 1, 1) := by decide +kernel
theorem dL_acts_390 : decode cL_acts 390 = .ok (.goto 4, 3) := by decide +kernel
theorem dL_acts_393 : decode cL_acts 393 = .ok (.iconst 0, 1) := by decide +kernel
theorem dL_acts_394 : decode cL_acts 394 = .ok (.istore 12, 2) := by decide +kernel
theorem dL_acts_396 : decode cL_acts 396 = .ok (.aload_n 1, 1) := by decide +kernel
theorem dL_acts_397 : decode cL_acts 397 = .ok (.iload_n 3, 1) := by decide +kernel
theorem dL_acts_398 : decode cL_acts 398 = .ok (.dup2, 1) := by decide +kernel
theorem dL_acts_399 : decode cL_acts 399 = .ok (.laload, 1) := by decide +kernel
theorem dL_acts_400 : decode cL_acts 400 = .ok (.iload 12, 2) := by decide +kernel
theorem dL_acts_402 : decode cL_acts 402 = .ok (.ifCond .eq 21, 3) := by decide +kernel
theorem dL_acts_405 : decode cL_acts 405 = .ok (.lconst 1, 1) := by decide +kernel
theorem dL_acts_406 : decode cL_acts 406 = .ok (.iload 11, 2) := by decide +kernel
theorem dL_acts_408 : decode cL_acts 408 = .ok (.iload 7, 2) := by decide +kernel
theorem dL_acts_410 : decode cL_acts 410 = .ok (.idiv, 1) := by decide +kernel
theorem dL_acts_411 : decode cL_acts 411 = .ok (.iload 11, 2) := by decide +kernel
theorem dL_acts_413 : decode cL_acts 413 = .ok (.iload 7, 2) := by decide +kernel
theorem dL_acts_415 : decode cL_acts 415 = .ok (.irem, 1) := by decide +kernel
theorem dL_acts_416 : decode cL_acts 416 = .ok (.invokestatic 9, 3) := by decide +kernel
theorem dL_acts_419 : decode cL_acts 419 = .ok (.lshl, 1) := by decide +kernel
theorem dL_acts_420 : decode cL_acts 420 = .ok (.goto 4, 3) := by decide +kernel
theorem dL_acts_423 : decode cL_acts 423 = .ok (.lconst 0, 1) := by decide +kernel
theorem dL_acts_424 : decode cL_acts 424 = .ok (.lxor, 1) := by decide +kernel
theorem dL_acts_425 : decode cL_acts 425 = .ok (.lastore, 1) := by decide +kernel
theorem dL_acts_426 : decode cL_acts 426 = .ok (.iload 10, 2) := by decide +kernel
theorem dL_acts_428 : decode cL_acts 428 = .ok (.iload 12, 2) := by decide +kernel
theorem dL_acts_430 : decode cL_acts 430 = .ok (.ifCond .eq 25, 3) := by decide +kernel
theorem dL_acts_433 : decode cL_acts 433 = .ok (.lload 5, 2) := by decide +kernel
theorem dL_acts_435 : decode cL_acts 435 = .ok (.iload 11, 2) := by decide +kernel
theorem dL_acts_437 : decode cL_acts 437 = .ok (.iload 7, 2) := by decide +kernel
theorem dL_acts_439 : decode cL_acts 439 = .ok (.idiv, 1) := by decide +kernel
theorem dL_acts_440 : decode cL_acts 440 = .ok (.iload 11, 2) := by decide +kernel
theorem dL_acts_442 : decode cL_acts 442 = .ok (.iload 7, 2) := by decide +kernel
theorem dL_acts_444 : decode cL_acts 444 = .ok (.irem, 1) := by decide +kernel
theorem dL_acts_445 : decode cL_acts 445 = .ok (.invokestatic 39, 3) := by decide +kernel
theorem dL_acts_448 : decode cL_acts 448 = .ok (.ifCond .ne 7, 3) := by decide +kernel
theorem dL_acts_451 : decode cL_acts 451 = .ok (.iconst 1, 1) := by decide +kernel
theorem dL_acts_452 : decode cL_acts 452 = .ok (.goto 4, 3) := by decide +kernel
theorem dL_acts_455 : decode cL_acts 455 = .ok (.iconst 0, 1) := by decide +kernel
theorem dL_acts_456 : decode cL_acts 456 = .ok (.iadd, 1) := by decide +kernel
theorem dL_acts_457 : decode cL_acts 457 = .ok (.istore 10, 2) := by decide +kernel
theorem dL_acts_459 : decode cL_acts 459 = .ok (.iinc 11 1, 3) := by decide +kernel
theorem dL_acts_462 : decode cL_acts 462 = .ok (.goto (-96), 3) := by decide +kernel
theorem dL_acts_465 : decode cL_acts 465 = .ok (.aload_n 0, 1) := by decide +kernel
theorem dL_acts_466 : decode cL_acts 466 = .ok (.iload_n 3, 1) := by decide +kernel
theorem dL_acts_467 : decode cL_acts 467 = .ok (.invokevirtual 123, 3) := by decide +kernel
theorem dL_acts_470 : decode cL_acts 470 = .ok (.iload 10, 2) := by decide +kernel
theorem dL_acts_472 : decode cL_acts 472 = .ok (.if_icmp .ne 7, 3) := by decide +kernel
theorem dL_acts_475 : decode cL_acts 475 = .ok (.iconst 1, 1) := by decide +kernel
theorem dL_acts_476 : decode cL_acts 476 = .ok (.goto 4, 3) := by decide +kernel
theorem dL_acts_479 : decode cL_acts 479 = .ok (.iconst 0, 1) := by decide +kernel
theorem dL_acts_480 : decode cL_acts 480 = .ok (.ireturn, 1) := by decide +kernel
theorem dL_acts_481 : decode cL_acts 481 = .ok (.iload 8, 2) := by decide +kernel
theorem dL_acts_483 : decode cL_acts 483 = .ok (.iload 9, 2) := by decide +kernel
theorem dL_acts_485 : decode cL_acts 485 = .ok (.if_icmp .ne 13, 3) := by decide +kernel
theorem dL_acts_488 : decode cL_acts 488 = .ok (.iload 8, 2) := by decide +kernel
theorem dL_acts_490 : decode cL_acts 490 = .ok (.iconst 1, 1) := by decide +kernel
theorem dL_acts_491 : decode cL_acts 491 = .ok (.iadd, 1) := by decide +kernel
theorem dL_acts_492 : decode cL_acts 492 = .ok (.iload 7, 2) := by decide +kernel
theorem dL_acts_494 : decode cL_acts 494 = .ok (.irem, 1) := by decide +kernel
theorem dL_acts_495 : decode cL_acts 495 = .ok (.goto 5, 3) := by decide +kernel
theorem dL_acts_498 : decode cL_acts 498 = .ok (.iload 9, 2) := by decide +kernel
theorem dL_acts_500 : decode cL_acts 500 = .ok (.istore 9, 2) := by decide +kernel
theorem dL_acts_502 : decode cL_acts 502 = .ok (.iload 8, 2) := by decide +kernel
theorem dL_acts_504 : decode cL_acts 504 = .ok (.iload 9, 2) := by decide +kernel
theorem dL_acts_506 : decode cL_acts 506 = .ok (.if_icmp .ne 5, 3) := by decide +kernel
theorem dL_acts_509 : decode cL_acts 509 = .ok (.iconst 1, 1) := by decide +kernel
theorem dL_acts_510 : decode cL_acts 510 = .ok (.ireturn, 1) := by decide +kernel
theorem dL_acts_511 : decode cL_acts 511 = .ok (.aload_n 1, 1) := by decide +kernel
theorem dL_acts_512 : decode cL_acts 512 = .ok (.iload_n 3, 1) := by decide +kernel
theorem dL_acts_513 : decode cL_acts 513 = .ok (.dup2, 1) := by decide +kernel
theorem dL_acts_514 : decode cL_acts 514 = .ok (.laload, 1) := by decide +kernel
theorem dL_acts_515 : decode cL_acts 515 = .ok (.lconst 1, 1) := by decide +kernel
theorem dL_acts_516 : decode cL_acts 516 = .ok (.iload 8, 2) := by decide +kernel
theorem dL_acts_518 : decode cL_acts 518 = .ok (.iload 9, 2) := by decide +kernel
theorem dL_acts_520 : decode cL_acts 520 = .ok (.invokestatic 9, 3) := by decide +kernel
theorem dL_acts_523 : decode cL_acts 523 = .ok (.lshl, 1) := by decide +kernel
theorem dL_acts_524 : decode cL_acts 524 = .ok (.lxor, 1) := by decide +kernel
theorem dL_acts_525 : decode cL_acts 525 = .ok (.lastore, 1) := by decide +kernel
theorem dL_acts_526 : decode cL_acts 526 = .ok (.aload_n 0, 1) := by decide +kernel
theorem dL_acts_527 : decode cL_acts 527 = .ok (.iload_n 3, 1) := by decide +kernel
theorem dL_acts_528 : decode cL_acts 528 = .ok (.iload 8, 2) := by decide +kernel
theorem dL_acts_530 : decode cL_acts 530 = .ok (.iload 9, 2) := by decide +kernel
theorem dL_acts_532 : decode cL_acts 532 = .ok (.invokevirtual 126, 3) := by decide +kernel
theorem dL_acts_535 : decode cL_acts 535 = .ok (.aload_n 1, 1) := by decide +kernel
theorem dL_acts_536 : decode cL_acts 536 = .ok (.iload_n 3, 1) := by decide +kernel
theorem dL_acts_537 : decode cL_acts 537 = .ok (.laload, 1) := by decide +kernel
theorem dL_acts_538 : decode cL_acts 538 = .ok (.iload 8, 2) := by decide +kernel
theorem dL_acts_540 : decode cL_acts 540 = .ok (.iload 9, 2) := by decide +kernel
theorem dL_acts_542 : decode cL_acts 542 = .ok (.invokestatic 39, 3) := by decide +kernel
theorem dL_acts_545 : decode cL_acts 545 = .ok (.if_icmp .ne 7, 3) := by decide +kernel
theorem dL_acts_548 : decode cL_acts 548 = .ok (.iconst 1, 1) := by decide +kernel
theorem dL_acts_549 : decode cL_acts 549 = .ok (.goto 4, 3) := by decide +kernel
theorem dL_acts_552 : decode cL_acts 552 = .ok (.iconst 0, 1) := by decide +kernel
theorem dL_acts_553 : decode cL_acts 553 = .ok (.ireturn, 1) := by decide +kernel
set_option maxRecDepth 20000 in
theorem ggL_acts_L_size : GoodIn wsL_acts wsL_size := goodIn_r _ [5] (by decide +kernel) (by decide +kernel)
set_option maxRecDepth 20000 in
theorem gL_acts_L_size : GoodIn wsL_acts (va_wsS RL 23 yL_size wsL_size) := goodIn_app (goodIn_of _ (by decide +kernel)) ggL_acts_L_size
set_option maxRecDepth 20000 in
theorem ggL_acts_X7_begin : GoodIn wsL_acts wsX7_begin := goodIn_ca (goodIn_ca (goodIn_r _ [10, 11, 12, 13, 14, 15, 9, 16, 17, 18, 19, 20, 21, 22, 23, 24, 25, 26, 27, 28, 29, 30, 96, 97, 98, 99, 100, 101, 102, 103, 104] (by decide +kernel) (by decide +kernel)) (goodIn_sub (fun _ h => List.mem_cons_of_mem _ (List.mem_append_left _ (List.mem_append_right _ h))) (by decide +kernel))) (goodIn_sub (fun _ h => List.mem_cons_of_mem _ (List.mem_append_right _ h)) (by decide +kernel))
set_option maxRecDepth 20000 in
theorem gL_acts_X7_begin : GoodIn wsL_acts (wsV RL 109 RX7 yX7_begin wsX7_begin) := goodIn_app (goodIn_of _ (by decide +kernel)) ggL_acts_X7_begin
set_option maxRecDepth 20000 in
theorem ggL_acts_L_coloured : GoodIn wsL_acts wsL_coloured := goodIn_r _ [33, 34, 1] (by decide +kernel) (by decide +kernel)
set_option maxRecDepth 20000 in
theorem gL_acts_L_coloured : GoodIn wsL_acts (va_wsS RL 35 yL_coloured wsL_coloured) := goodIn_app (goodIn_of _ (by decide +kernel)) ggL_acts_L_coloured
set_option maxRecDepth 20000 in
theorem ggL_acts_X7_setColour : GoodIn wsL_acts wsX7_setColour := goodIn_ca (goodIn_ca (goodIn_r _ [38, 11, 12, 13, 14, 15, 9, 16, 17, 18, 19, 39, 40, 41, 96, 97, 98, 99, 100, 101, 102, 103, 104] (by decide +kernel) (by decide +kernel)) (goodIn_sub (fun _ h => List.mem_cons_of_mem _ (List.mem_append_left _ (List.mem_append_right _ h))) (by decide +kernel))) (goodIn_sub (fun _ h => List.mem_cons_of_mem _ (List.mem_append_right _ h)) (by decide +kernel))
set_option maxRecDepth 20000 in
theorem gL_acts_X7_setColour : GoodIn wsL_acts (wsV RL 112 RX7 yX7_setColour wsX7_setColour) := goodIn_app (goodIn_of _ (by decide +kernel)) ggL_acts_X7_setColour
set_option maxRecDepth 20000 in
theorem ggL_acts_L_colour : GoodIn wsL_acts wsL_colour := goodIn_r _ [44, 34] (by decide +kernel) (by decide +kernel)
set_option maxRecDepth 20000 in
theorem gL_acts_L_colour : GoodIn wsL_acts (va_wsS RL 31 yL_colour wsL_colour) := goodIn_app (goodIn_of _ (by decide +kernel)) ggL_acts_L_colour
set_option maxRecDepth 20000 in
theorem ggL_acts_L_bit : GoodIn wsL_acts wsL_bit := goodIn_r _ [47] (by decide +kernel) (by decide +kernel)
set_option maxRecDepth 20000 in
theorem gL_acts_L_bit : GoodIn wsL_acts (va_wsS RL 9 yL_bit wsL_bit) := goodIn_app (goodIn_of _ (by decide +kernel)) ggL_acts_L_bit
set_option maxRecDepth 20000 in
theorem ggL_acts_L_edge : GoodIn wsL_acts wsL_edge := goodIn_r _ [50, 45, 46, 4, 47] (by decide +kernel) (by decide +kernel)
set_option maxRecDepth 20000 in
theorem gL_acts_L_edge : GoodIn wsL_acts (va_wsS RL 39 yL_edge wsL_edge) := goodIn_app (goodIn_of _ (by decide +kernel)) ggL_acts_L_edge
set_option maxRecDepth 20000 in
theorem ggL_acts_X7_swap : GoodIn wsL_acts wsX7_swap := goodIn_ca (goodIn_r _ [54, 13, 14, 15, 9, 16, 17, 18, 19, 39, 40, 41, 55, 21, 56, 57, 26, 25, 24, 58, 59, 99, 100, 101, 102, 103, 104, 96, 97, 98] (by decide +kernel) (by decide +kernel)) (goodIn_sub (fun _ h => List.mem_cons_of_mem _ (List.mem_append_right _ h)) (by decide +kernel))
set_option maxRecDepth 20000 in
theorem gL_acts_X7_swap : GoodIn wsL_acts (wsV RL 115 RX7 yX7_swap wsX7_swap) := goodIn_app (goodIn_of _ (by decide +kernel)) ggL_acts_X7_swap
set_option maxRecDepth 20000 in
theorem ggL_acts_X7_copy : GoodIn wsL_acts wsX7_copy := goodIn_ca (goodIn_r _ [63, 13, 14, 15, 9, 16, 17, 18, 19, 64, 21, 65, 66, 24, 25, 26, 99, 100, 101, 102, 103, 104, 96, 97, 98] (by decide +kernel) (by decide +kernel)) (goodIn_sub (fun _ h => List.mem_cons_of_mem _ (List.mem_append_right _ h)) (by decide +kernel))
set_option maxRecDepth 20000 in
theorem gL_acts_X7_copy : GoodIn wsL_acts (wsV RL 119 RX7 yX7_copy wsX7_copy) := goodIn_app (goodIn_of _ (by decide +kernel)) ggL_acts_X7_copy
set_option maxRecDepth 20000 in
theorem ggL_acts_X7_complement : GoodIn wsL_acts wsX7_complement := goodIn_ca (goodIn_r _ [70, 13, 14, 15, 9, 16, 17, 18, 19, 71, 21, 72, 73, 24, 25, 74, 75, 76, 77, 78, 79, 80, 81, 82, 83, 84, 85, 99, 100, 101, 102, 103, 104, 96, 97, 98] (by decide +kernel) (by decide +kernel)) (goodIn_sub (fun _ h => List.mem_cons_of_mem _ (List.mem_append_right _ h)) (by decide +kernel))
set_option maxRecDepth 20000 in
theorem gL_acts_X7_complement : GoodIn wsL_acts (wsV RL 123 RX7 yX7_complement wsX7_complement) := goodIn_app (goodIn_of _ (by decide +kernel)) ggL_acts_X7_complement
set_option maxRecDepth 20000 in
theorem ggL_acts_X7_toggle : GoodIn wsL_acts wsX7_toggle := goodIn_ca (goodIn_ca (goodIn_r _ [89, 11, 12, 13, 14, 15, 9, 16, 17, 18, 19, 39, 40, 41, 90, 21, 91, 92, 25, 93, 94, 95, 58, 59, 99, 100, 101, 102, 103, 104, 96, 97, 98] (by decide +kernel) (by decide +kernel)) (goodIn_sub (fun _ h => List.mem_cons_of_mem _ (List.mem_append_left _ (List.mem_append_right _ h))) (by decide +kernel))) (goodIn_sub (fun _ h => List.mem_cons_of_mem _ (List.mem_append_right _ h)) (by decide +kernel))
set_option maxRecDepth 20000 in
theorem gL_acts_X7_toggle : GoodIn wsL_acts (wsV RL 126 RX7 yX7_toggle wsX7_toggle) := goodIn_app (goodIn_of _ (by decide +kernel)) ggL_acts_X7_toggle
theorem wd_L_acts_0 : Cond.constantLong RL 17 (-1) ∈ wsL_acts := by decide +kernel
def r_L_acts : Room := { frames := 8, cells := 4, slots := 24, locals := 136 }
set_option maxRecDepth 100000 in
set_option maxHeartbeats 4000000 in
theorem w_L_acts_259 {K : zK} {w : Nat} (hk : zIs K RL cL_acts 14 wsL_acts (some .boolean) r_L_acts) (hfl : (kL K).stackTraces = false) (hnx : zNX K) {r0 : Int32} {τ0 : zST} (hq : zQG K (.inr (some (.int r0))) τ0) (hw : eN (kZ K) = w) (cs ss : Nat) (hb1 : cs + 0 ≤ 4) (hb2 : ss + 0 ≤ 24) (F : Nat) (k128 : Nat → Nat → Int32 → Int64 → Int32 → Int32 → Int32 → Int32 → zST → Option (Int32 × zST)) (hk128 : ∀ (a0 : Nat) (a1 : Nat) (a3 : Int32) (a5 : Int64) (a7 : Int32) (a8 : Int32) (a9 : Int32) (a10 : Int32) (ha0 : atCanonCote (kZ K) a0) (ha1 : aJ (kZ K) a1 4) (σ : zST), k128 a0 a1 a3 a5 a7 a8 a9 a10 σ = some (r0, τ0) → Z K cs ss 128 [(0, .ref (eA (kZ K) a0)), (1, .ref (eA (kZ K) a1)), (3, .int a3), (5, .long a5), (7, .int a7), (8, .int a8), (9, .int a9), (10, .int a10)] [] σ) (k138 : Nat → Nat → Int32 → Int64 → Int32 → Int32 → Int32 → Int32 → Int32 → zST → Option (Int32 × zST)) (hk138 : ∀ (a0 : Nat) (a1 : Nat) (a3 : Int32) (a5 : Int64) (a7 : Int32) (a8 : Int32) (a9 : Int32) (a10 : Int32) (a11 : Int32) (ha0 : atCanonCote (kZ K) a0) (ha1 : aJ (kZ K) a1 4) (σ : zST), k138 a0 a1 a3 a5 a7 a8 a9 a10 a11 σ = some (r0, τ0) → Z K cs ss 138 [(0, .ref (eA (kZ K) a0)), (1, .ref (eA (kZ K) a1)), (3, .int a3), (5, .long a5), (7, .int a7), (8, .int a8), (9, .int a9), (10, .int a10), (11, .int a11)] [] σ) (a0 : Nat) (a1 : Nat) (a3 : Int32) (a5 : Int64) (a7 : Int32) (a8 : Int32) (a9 : Int32) (a10 : Int32) (a11 : Int32) (t0 : Int64) (t1 : Int32) (t2 : Nat) (ha0 : atCanonCote (kZ K) a0) (ha1 : aJ (kZ K) a1 4) (ht2 : aJ (kZ K) t2 4) (σ : zST) (h : m_L_acts_259 F w k128 k138 a0 a1 a3 a5 a7 a8 a9 a10 a11 t0 t1 t2 σ = some (r0, τ0)) : Z K cs ss 259 [(0, .ref (eA (kZ K) a0)), (1, .ref (eA (kZ K) a1)), (3, .int a3), (5, .long a5), (7, .int a7), (8, .int a8), (9, .int a9), (10, .int a10), (11, .int a11)] [.long t0, .int t1, .ref (eA (kZ K) t2)] σ := by
  unfold m_L_acts_259 at h
  obtain ⟨i141, s139, e140, h⟩ := stL_get h
  refine Z_last hk ht2 i141 dL_acts_259 ?_
  refine Z_eqS e140 ?_
  obtain ⟨x142, e143, h⟩ := nm_get h
  refine Z_iinc hk 8 (v := x142) (lv' := [(11, .int x142), (0, .ref (eA (kZ K) a0)), (1, .ref (eA (kZ K) a1)), (3, .int a3), (5, .long a5), (7, .int a7), (8, .int a8), (9, .int a9), (10, .int a10)]) dL_acts_260 rfl (by rw [zc_iinc_1]; exact e143) (by decide) rfl ?_
  refine Z_goto hk (tgt := 138) dL_acts_263 (by decide) ?_
  refine Z_sub [1, 2, 3, 4, 5, 6, 7, 8, 0] rfl ?_
  exact hk138 a0 a1 a3 a5 a7 a8 a9 a10 x142 ha0 ha1 s139 h
set_option maxRecDepth 100000 in
set_option maxHeartbeats 4000000 in
theorem w_L_acts_252 {K : zK} {w : Nat} (hk : zIs K RL cL_acts 14 wsL_acts (some .boolean) r_L_acts) (hfl : (kL K).stackTraces = false) (hnx : zNX K) {r0 : Int32} {τ0 : zST} (hq : zQG K (.inr (some (.int r0))) τ0) (hw : eN (kZ K) = w) (cs ss : Nat) (hb1 : cs + 0 ≤ 4) (hb2 : ss + 0 ≤ 24) (F : Nat) (k128 : Nat → Nat → Int32 → Int64 → Int32 → Int32 → Int32 → Int32 → zST → Option (Int32 × zST)) (hk128 : ∀ (a0 : Nat) (a1 : Nat) (a3 : Int32) (a5 : Int64) (a7 : Int32) (a8 : Int32) (a9 : Int32) (a10 : Int32) (ha0 : atCanonCote (kZ K) a0) (ha1 : aJ (kZ K) a1 4) (σ : zST), k128 a0 a1 a3 a5 a7 a8 a9 a10 σ = some (r0, τ0) → Z K cs ss 128 [(0, .ref (eA (kZ K) a0)), (1, .ref (eA (kZ K) a1)), (3, .int a3), (5, .long a5), (7, .int a7), (8, .int a8), (9, .int a9), (10, .int a10)] [] σ) (k138 : Nat → Nat → Int32 → Int64 → Int32 → Int32 → Int32 → Int32 → Int32 → zST → Option (Int32 × zST)) (hk138 : ∀ (a0 : Nat) (a1 : Nat) (a3 : Int32) (a5 : Int64) (a7 : Int32) (a8 : Int32) (a9 : Int32) (a10 : Int32) (a11 : Int32) (ha0 : atCanonCote (kZ K) a0) (ha1 : aJ (kZ K) a1 4) (σ : zST), k138 a0 a1 a3 a5 a7 a8 a9 a10 a11 σ = some (r0, τ0) → Z K cs ss 138 [(0, .ref (eA (kZ K) a0)), (1, .ref (eA (kZ K) a1)), (3, .int a3), (5, .long a5), (7, .int a7), (8, .int a8), (9, .int a9), (10, .int a10), (11, .int a11)] [] σ) (a0 : Nat) (a1 : Nat) (a3 : Int32) (a5 : Int64) (a7 : Int32) (a8 : Int32) (a9 : Int32) (a10 : Int32) (a11 : Int32) (t0 : Int64) (t1 : Int64) (t2 : Int32) (t3 : Nat) (ha0 : atCanonCote (kZ K) a0) (ha1 : aJ (kZ K) a1 4) (ht3 : aJ (kZ K) t3 4) (σ : zST) (h : m_L_acts_252 F w k128 k138 a0 a1 a3 a5 a7 a8 a9 a10 a11 t0 t1 t2 t3 σ = some (r0, τ0)) : Z K cs ss 252 [(0, .ref (eA (kZ K) a0)), (1, .ref (eA (kZ K) a1)), (3, .int a3), (5, .long a5), (7, .int a7), (8, .int a8), (9, .int a9), (10, .int a10), (11, .int a11)] [.long t0, .long t1, .int t2, .ref (eA (kZ K) t3)] σ := by
  unfold m_L_acts_252 at h
  refine Z_lor hk dL_acts_252 ?_
  refine Z_goto hk (tgt := 259) dL_acts_253 (by decide) ?_
  refine Z_sub [0, 1, 2, 3, 4, 5, 6, 7, 8] rfl ?_
  exact w_L_acts_259 hk hfl hnx hq hw cs ss (by omega) (by omega) F k128 hk128 k138 hk138 a0 a1 a3 a5 a7 a8 a9 a10 a11 (t1 ||| t0) t2 t3 ha0 ha1 ht3 σ h
set_option maxRecDepth 100000 in
set_option maxHeartbeats 4000000 in
theorem w_L_acts_199 {K : zK} {w : Nat} (hk : zIs K RL cL_acts 14 wsL_acts (some .boolean) r_L_acts) (hfl : (kL K).stackTraces = false) (hnx : zNX K) {r0 : Int32} {τ0 : zST} (hq : zQG K (.inr (some (.int r0))) τ0) (hw : eN (kZ K) = w) (cs ss : Nat) (hb1 : cs + 0 ≤ 4) (hb2 : ss + 0 ≤ 24) (F : Nat) (k128 : Nat → Nat → Int32 → Int64 → Int32 → Int32 → Int32 → Int32 → zST → Option (Int32 × zST)) (hk128 : ∀ (a0 : Nat) (a1 : Nat) (a3 : Int32) (a5 : Int64) (a7 : Int32) (a8 : Int32) (a9 : Int32) (a10 : Int32) (ha0 : atCanonCote (kZ K) a0) (ha1 : aJ (kZ K) a1 4) (σ : zST), k128 a0 a1 a3 a5 a7 a8 a9 a10 σ = some (r0, τ0) → Z K cs ss 128 [(0, .ref (eA (kZ K) a0)), (1, .ref (eA (kZ K) a1)), (3, .int a3), (5, .long a5), (7, .int a7), (8, .int a8), (9, .int a9), (10, .int a10)] [] σ) (k138 : Nat → Nat → Int32 → Int64 → Int32 → Int32 → Int32 → Int32 → Int32 → zST → Option (Int32 × zST)) (hk138 : ∀ (a0 : Nat) (a1 : Nat) (a3 : Int32) (a5 : Int64) (a7 : Int32) (a8 : Int32) (a9 : Int32) (a10 : Int32) (a11 : Int32) (ha0 : atCanonCote (kZ K) a0) (ha1 : aJ (kZ K) a1 4) (σ : zST), k138 a0 a1 a3 a5 a7 a8 a9 a10 a11 σ = some (r0, τ0) → Z K cs ss 138 [(0, .ref (eA (kZ K) a0)), (1, .ref (eA (kZ K) a1)), (3, .int a3), (5, .long a5), (7, .int a7), (8, .int a8), (9, .int a9), (10, .int a10), (11, .int a11)] [] σ) (a0 : Nat) (a1 : Nat) (a3 : Int32) (a5 : Int64) (a7 : Int32) (a8 : Int32) (a9 : Int32) (a10 : Int32) (a11 : Int32) (a12 : Int32) (t0 : Int32) (ha0 : atCanonCote (kZ K) a0) (ha1 : aJ (kZ K) a1 4) (σ : zST) (h : m_L_acts_199 F w k128 k138 a0 a1 a3 a5 a7 a8 a9 a10 a11 a12 t0 σ = some (r0, τ0)) : Z K cs ss 199 [(0, .ref (eA (kZ K) a0)), (1, .ref (eA (kZ K) a1)), (3, .int a3), (5, .long a5), (7, .int a7), (8, .int a8), (9, .int a9), (10, .int a10), (11, .int a11), (12, .int a12)] [.int t0] σ := by
  unfold m_L_acts_199 at h
  refine Z_istore hk (lv' := [(13, .int t0), (0, .ref (eA (kZ K) a0)), (1, .ref (eA (kZ K) a1)), (3, .int a3), (5, .long a5), (7, .int a7), (8, .int a8), (9, .int a9), (10, .int a10), (11, .int a11), (12, .int a12)]) dL_acts_199 (by decide) rfl ?_
  refine Z_aload_n hk 2 dL_acts_201 rfl rfl ?_
  refine Z_iload_n hk 3 dL_acts_202 rfl rfl ?_
  refine Z_iload hk 9 dL_acts_203 rfl ?_
  refine Z_iload hk 8 dL_acts_205 rfl ?_
  refine Z_icmp_ge hk (tgt := 256) dL_acts_207 (by decide) (fun c118 => ?_) (fun c118 => ?_)
  · have h := if_yes h c118
    refine Z_aload_n hk 2 dL_acts_256 rfl rfl ?_
    refine Z_iload_n hk 3 dL_acts_257 rfl rfl ?_
    obtain ⟨i121, x119, e120, h⟩ := ldL_get h
    refine Z_lald hk ha1 i121 dL_acts_258 ?_
    refine Z_eqL e120 ?_
    refine Z_sub [1, 2, 3, 4, 5, 6, 7, 8, 9] rfl ?_
    exact w_L_acts_259 hk hfl hnx hq hw cs ss (by omega) (by omega) F k128 hk128 k138 hk138 a0 a1 a3 a5 a7 a8 a9 a10 a11 x119 a3 a1 ha0 ha1 ha1 σ h
  · have h := if_no h c118
    refine Z_aload_n hk 2 dL_acts_210 rfl rfl ?_
    refine Z_iload_n hk 3 dL_acts_211 rfl rfl ?_
    obtain ⟨i124, x122, e123, h⟩ := ldL_get h
    refine Z_lald hk ha1 i124 dL_acts_212 ?_
    refine Z_eqL e123 ?_
    refine Z_lconst hk dL_acts_213 (v := 1) rfl ?_
    refine Z_iload hk 8 dL_acts_214 rfl ?_
    refine Z_iload hk 9 dL_acts_216 rfl ?_
    obtain ⟨x125, s126, h127, h⟩ := bd_ok h
    refine Z_callT 2 hk [.int a10, .int a11] (c_L_bit hk.loc hk.inj F a10 a11 σ h127) gL_acts_L_bit rfl ⟨rfl, rfl⟩ (by decide +kernel) ⟨Nat.le_of_ble_eq_true rfl, Nat.le_of_ble_eq_true rfl⟩ rfl rfl (Nat.le_of_ble_eq_true rfl) ⟨by show cs + 0 ≤ 4; omega, by show ss + 0 ≤ 24; omega⟩ dL_acts_218 ?_
    show Z K cs ss 221 [(13, .int t0), (0, .ref (eA (kZ K) a0)), (1, .ref (eA (kZ K) a1)), (3, .int a3), (5, .long a5), (7, .int a7), (8, .int a8), (9, .int a9), (10, .int a10), (11, .int a11), (12, .int a12)] [.int x125, .long 1, .long x122, .int a3, .ref (eA (kZ K) a1)] s126
    refine Z_lshl hk dL_acts_221 ?_
    refine Z_ldc2 hk (v := -1) dL_acts_222 wd_L_acts_0 ?_
    refine Z_lxor hk dL_acts_225 ?_
    refine Z_land hk dL_acts_226 ?_
    refine Z_lload hk 4 dL_acts_227 rfl ?_
    refine Z_iload hk 10 dL_acts_229 rfl ?_
    refine Z_iload hk 0 dL_acts_231 rfl ?_
    obtain ⟨x128, s129, h130, h⟩ := bd_ok h
    refine Z_callT 3 hk [.long a5, .int a12, .int t0] (c_L_edge hk.loc hk.inj F a5 a12 t0 s126 h130) gL_acts_L_edge rfl ⟨rfl, rfl⟩ (by decide +kernel) ⟨Nat.le_of_ble_eq_true rfl, Nat.le_of_ble_eq_true rfl⟩ rfl rfl (Nat.le_of_ble_eq_true rfl) ⟨by show cs + 0 ≤ 4; omega, by show ss + 0 ≤ 24; omega⟩ dL_acts_233 ?_
    show Z K cs ss 236 [(13, .int t0), (0, .ref (eA (kZ K) a0)), (1, .ref (eA (kZ K) a1)), (3, .int a3), (5, .long a5), (7, .int a7), (8, .int a8), (9, .int a9), (10, .int a10), (11, .int a11), (12, .int a12)] [.int x128, .long (x122 &&& ((jlshl 1 x125) ^^^ (-1))), .int a3, .ref (eA (kZ K) a1)] s129
    refine Z_if_eq hk (tgt := 251) dL_acts_236 (by decide) (fun c131 => ?_) (fun c131 => ?_)
    · have h := if_yes h c131
      refine Z_lconst hk dL_acts_251 (v := 0) rfl ?_
      refine Z_sub [1, 2, 3, 4, 5, 6, 7, 8, 9] rfl ?_
      exact w_L_acts_252 hk hfl hnx hq hw cs ss (by omega) (by omega) F k128 hk128 k138 hk138 a0 a1 a3 a5 a7 a8 a9 a10 a11 0 (x122 &&& ((jlshl 1 x125) ^^^ (-1))) a3 a1 ha0 ha1 ha1 s129 h
    · have h := if_no h c131
      refine Z_lconst hk dL_acts_239 (v := 1) rfl ?_
      refine Z_iload hk 8 dL_acts_240 rfl ?_
      refine Z_iload hk 9 dL_acts_242 rfl ?_
      obtain ⟨x132, s133, h134, h⟩ := bd_ok h
      refine Z_callT 2 hk [.int a10, .int a11] (c_L_bit hk.loc hk.inj F a10 a11 s129 h134) gL_acts_L_bit rfl ⟨rfl, rfl⟩ (by decide +kernel) ⟨Nat.le_of_ble_eq_true rfl, Nat.le_of_ble_eq_true rfl⟩ rfl rfl (Nat.le_of_ble_eq_true rfl) ⟨by show cs + 0 ≤ 4; omega, by show ss + 0 ≤ 24; omega⟩ dL_acts_244 ?_
      show Z K cs ss 247 [(13, .int t0), (0, .ref (eA (kZ K) a0)), (1, .ref (eA (kZ K) a1)), (3, .int a3), (5, .long a5), (7, .int a7), (8, .int a8), (9, .int a9), (10, .int a10), (11, .int a11), (12, .int a12)] [.int x132, .long 1, .long (x122 &&& ((jlshl 1 x125) ^^^ (-1))), .int a3, .ref (eA (kZ K) a1)] s133
      refine Z_lshl hk dL_acts_247 ?_
      refine Z_goto hk (tgt := 252) dL_acts_248 (by decide) ?_
      refine Z_sub [1, 2, 3, 4, 5, 6, 7, 8, 9] rfl ?_
      exact w_L_acts_252 hk hfl hnx hq hw cs ss (by omega) (by omega) F k128 hk128 k138 hk138 a0 a1 a3 a5 a7 a8 a9 a10 a11 (jlshl 1 x132) (x122 &&& ((jlshl 1 x125) ^^^ (-1))) a3 a1 ha0 ha1 ha1 s133 h
set_option maxRecDepth 100000 in
set_option maxHeartbeats 4000000 in
theorem w_L_acts_171 {K : zK} {w : Nat} (hk : zIs K RL cL_acts 14 wsL_acts (some .boolean) r_L_acts) (hfl : (kL K).stackTraces = false) (hnx : zNX K) {r0 : Int32} {τ0 : zST} (hq : zQG K (.inr (some (.int r0))) τ0) (hw : eN (kZ K) = w) (cs ss : Nat) (hb1 : cs + 0 ≤ 4) (hb2 : ss + 0 ≤ 24) (F : Nat) (k128 : Nat → Nat → Int32 → Int64 → Int32 → Int32 → Int32 → Int32 → zST → Option (Int32 × zST)) (hk128 : ∀ (a0 : Nat) (a1 : Nat) (a3 : Int32) (a5 : Int64) (a7 : Int32) (a8 : Int32) (a9 : Int32) (a10 : Int32) (ha0 : atCanonCote (kZ K) a0) (ha1 : aJ (kZ K) a1 4) (σ : zST), k128 a0 a1 a3 a5 a7 a8 a9 a10 σ = some (r0, τ0) → Z K cs ss 128 [(0, .ref (eA (kZ K) a0)), (1, .ref (eA (kZ K) a1)), (3, .int a3), (5, .long a5), (7, .int a7), (8, .int a8), (9, .int a9), (10, .int a10)] [] σ) (k138 : Nat → Nat → Int32 → Int64 → Int32 → Int32 → Int32 → Int32 → Int32 → zST → Option (Int32 × zST)) (hk138 : ∀ (a0 : Nat) (a1 : Nat) (a3 : Int32) (a5 : Int64) (a7 : Int32) (a8 : Int32) (a9 : Int32) (a10 : Int32) (a11 : Int32) (ha0 : atCanonCote (kZ K) a0) (ha1 : aJ (kZ K) a1 4) (σ : zST), k138 a0 a1 a3 a5 a7 a8 a9 a10 a11 σ = some (r0, τ0) → Z K cs ss 138 [(0, .ref (eA (kZ K) a0)), (1, .ref (eA (kZ K) a1)), (3, .int a3), (5, .long a5), (7, .int a7), (8, .int a8), (9, .int a9), (10, .int a10), (11, .int a11)] [] σ) (a0 : Nat) (a1 : Nat) (a3 : Int32) (a5 : Int64) (a7 : Int32) (a8 : Int32) (a9 : Int32) (a10 : Int32) (a11 : Int32) (t0 : Int32) (ha0 : atCanonCote (kZ K) a0) (ha1 : aJ (kZ K) a1 4) (σ : zST) (h : m_L_acts_171 F w k128 k138 a0 a1 a3 a5 a7 a8 a9 a10 a11 t0 σ = some (r0, τ0)) : Z K cs ss 171 [(0, .ref (eA (kZ K) a0)), (1, .ref (eA (kZ K) a1)), (3, .int a3), (5, .long a5), (7, .int a7), (8, .int a8), (9, .int a9), (10, .int a10), (11, .int a11)] [.int t0] σ := by
  unfold m_L_acts_171 at h
  refine Z_istore hk (lv' := [(12, .int t0), (0, .ref (eA (kZ K) a0)), (1, .ref (eA (kZ K) a1)), (3, .int a3), (5, .long a5), (7, .int a7), (8, .int a8), (9, .int a9), (10, .int a10), (11, .int a11)]) dL_acts_171 (by decide) rfl ?_
  refine Z_iload hk 9 dL_acts_173 rfl ?_
  refine Z_iload hk 6 dL_acts_175 rfl ?_
  refine Z_icmp_ne hk (tgt := 185) dL_acts_177 (by decide) (fun c106 => ?_) (fun c106 => ?_)
  · have h := if_yes h c106
    refine Z_iload hk 7 dL_acts_180 rfl ?_
    refine Z_goto hk (tgt := 199) dL_acts_182 (by decide) ?_
    refine Z_sub [1, 2, 3, 4, 5, 6, 7, 8, 9, 0] rfl ?_
    exact w_L_acts_199 hk hfl hnx hq hw cs ss (by omega) (by omega) F k128 hk128 k138 hk138 a0 a1 a3 a5 a7 a8 a9 a10 a11 t0 a9 ha0 ha1 σ h
  · have h := if_no h c106
    refine Z_iload hk 9 dL_acts_185 rfl ?_
    refine Z_iload hk 7 dL_acts_187 rfl ?_
    refine Z_icmp_ne hk (tgt := 197) dL_acts_189 (by decide) (fun c107 => ?_) (fun c107 => ?_)
    · have h := if_yes h c107
      refine Z_iload hk 6 dL_acts_192 rfl ?_
      refine Z_goto hk (tgt := 199) dL_acts_194 (by decide) ?_
      refine Z_sub [1, 2, 3, 4, 5, 6, 7, 8, 9, 0] rfl ?_
      exact w_L_acts_199 hk hfl hnx hq hw cs ss (by omega) (by omega) F k128 hk128 k138 hk138 a0 a1 a3 a5 a7 a8 a9 a10 a11 t0 a8 ha0 ha1 σ h
    · have h := if_no h c107
      refine Z_iload hk 9 dL_acts_197 rfl ?_
      refine Z_sub [1, 2, 3, 4, 5, 6, 7, 8, 9, 0] rfl ?_
      exact w_L_acts_199 hk hfl hnx hq hw cs ss (by omega) (by omega) F k128 hk128 k138 hk138 a0 a1 a3 a5 a7 a8 a9 a10 a11 t0 a11 ha0 ha1 σ h
set_option maxRecDepth 100000 in
set_option maxHeartbeats 4000000 in
theorem w_L_acts_301 {K : zK} {w : Nat} (hk : zIs K RL cL_acts 14 wsL_acts (some .boolean) r_L_acts) (hfl : (kL K).stackTraces = false) (hnx : zNX K) {r0 : Int32} {τ0 : zST} (hq : zQG K (.inr (some (.int r0))) τ0) (hw : eN (kZ K) = w) (cs ss : Nat) (hb1 : cs + 0 ≤ 4) (hb2 : ss + 0 ≤ 24) (F : Nat) (k128 : Nat → Nat → Int32 → Int64 → Int32 → Int32 → Int32 → Int32 → zST → Option (Int32 × zST)) (hk128 : ∀ (a0 : Nat) (a1 : Nat) (a3 : Int32) (a5 : Int64) (a7 : Int32) (a8 : Int32) (a9 : Int32) (a10 : Int32) (ha0 : atCanonCote (kZ K) a0) (ha1 : aJ (kZ K) a1 4) (σ : zST), k128 a0 a1 a3 a5 a7 a8 a9 a10 σ = some (r0, τ0) → Z K cs ss 128 [(0, .ref (eA (kZ K) a0)), (1, .ref (eA (kZ K) a1)), (3, .int a3), (5, .long a5), (7, .int a7), (8, .int a8), (9, .int a9), (10, .int a10)] [] σ) (a0 : Nat) (a1 : Nat) (a3 : Int32) (a5 : Int64) (a7 : Int32) (a8 : Int32) (a9 : Int32) (a10 : Int32) (t0 : Int32) (t1 : Int64) (t2 : Int32) (t3 : Int64) (t4 : Int32) (t5 : Nat) (ha0 : atCanonCote (kZ K) a0) (ha1 : aJ (kZ K) a1 4) (ht5 : aJ (kZ K) t5 4) (σ : zST) (h : m_L_acts_301 F w k128 a0 a1 a3 a5 a7 a8 a9 a10 t0 t1 t2 t3 t4 t5 σ = some (r0, τ0)) : Z K cs ss 301 [(0, .ref (eA (kZ K) a0)), (1, .ref (eA (kZ K) a1)), (3, .int a3), (5, .long a5), (7, .int a7), (8, .int a8), (9, .int a9), (10, .int a10)] [.int t0, .long t1, .int t2, .long t3, .int t4, .ref (eA (kZ K) t5)] σ := by
  unfold m_L_acts_301 at h
  obtain ⟨x95, s96, h97, h⟩ := bd_ok h
  refine Z_callT 2 hk [.long t1, .int t0] (c_L_colour hk.loc hk.inj F t1 t0 σ h97) gL_acts_L_colour rfl ⟨rfl, rfl⟩ (by decide +kernel) ⟨Nat.le_of_ble_eq_true rfl, Nat.le_of_ble_eq_true rfl⟩ rfl rfl (Nat.le_of_ble_eq_true rfl) ⟨by show cs + 0 ≤ 4; omega, by show ss + 0 ≤ 24; omega⟩ dL_acts_301 ?_
  show Z K cs ss 304 [(0, .ref (eA (kZ K) a0)), (1, .ref (eA (kZ K) a1)), (3, .int a3), (5, .long a5), (7, .int a7), (8, .int a8), (9, .int a9), (10, .int a10)] [.int x95, .int t2, .long t3, .int t4, .ref (eA (kZ K) t5)] s96
  obtain ⟨x98, s99, h100, h⟩ := bd_ok h
  refine Z_callT 3 hk [.long t3, .int t2, .int x95] (c_L_coloured hk.loc hk.inj F t3 t2 x95 s96 h100) gL_acts_L_coloured rfl ⟨rfl, rfl⟩ (by decide +kernel) ⟨Nat.le_of_ble_eq_true rfl, Nat.le_of_ble_eq_true rfl⟩ rfl rfl (Nat.le_of_ble_eq_true rfl) ⟨by show cs + 0 ≤ 4; omega, by show ss + 0 ≤ 24; omega⟩ dL_acts_304 ?_
  show Z K cs ss 307 [(0, .ref (eA (kZ K) a0)), (1, .ref (eA (kZ K) a1)), (3, .int a3), (5, .long a5), (7, .int a7), (8, .int a8), (9, .int a9), (10, .int a10)] [.long x98, .int t4, .ref (eA (kZ K) t5)] s99
  obtain ⟨i103, s101, e102, h⟩ := stL_get h
  refine Z_last hk ht5 i103 dL_acts_307 ?_
  refine Z_eqS e102 ?_
  obtain ⟨x104, e105, h⟩ := nm_get h
  refine Z_iinc hk 7 (v := x104) (lv' := [(10, .int x104), (0, .ref (eA (kZ K) a0)), (1, .ref (eA (kZ K) a1)), (3, .int a3), (5, .long a5), (7, .int a7), (8, .int a8), (9, .int a9)]) dL_acts_308 rfl (by rw [zc_iinc_1]; exact e105) (by decide) rfl ?_
  refine Z_goto hk (tgt := 128) dL_acts_311 (by decide) ?_
  refine Z_sub [1, 2, 3, 4, 5, 6, 7, 0] rfl ?_
  exact hk128 a0 a1 a3 a5 a7 a8 a9 x104 ha0 ha1 s101 h
set_option maxRecDepth 100000 in
set_option maxHeartbeats 4000000 in
theorem w_L_acts_138 {K : zK} {w : Nat} (hk : zIs K RL cL_acts 14 wsL_acts (some .boolean) r_L_acts) (hfl : (kL K).stackTraces = false) (hnx : zNX K) {r0 : Int32} {τ0 : zST} (hq : zQG K (.inr (some (.int r0))) τ0) (hw : eN (kZ K) = w) (cs ss : Nat) (hb1 : cs + 0 ≤ 4) (hb2 : ss + 0 ≤ 24) (F : Nat) (k128 : Nat → Nat → Int32 → Int64 → Int32 → Int32 → Int32 → Int32 → zST → Option (Int32 × zST)) (hk128 : ∀ (a0 : Nat) (a1 : Nat) (a3 : Int32) (a5 : Int64) (a7 : Int32) (a8 : Int32) (a9 : Int32) (a10 : Int32) (ha0 : atCanonCote (kZ K) a0) (ha1 : aJ (kZ K) a1 4) (σ : zST), k128 a0 a1 a3 a5 a7 a8 a9 a10 σ = some (r0, τ0) → Z K cs ss 128 [(0, .ref (eA (kZ K) a0)), (1, .ref (eA (kZ K) a1)), (3, .int a3), (5, .long a5), (7, .int a7), (8, .int a8), (9, .int a9), (10, .int a10)] [] σ) : ∀ (n : Nat) (a0 : Nat) (a1 : Nat) (a3 : Int32) (a5 : Int64) (a7 : Int32) (a8 : Int32) (a9 : Int32) (a10 : Int32) (a11 : Int32) (ha0 : atCanonCote (kZ K) a0) (ha1 : aJ (kZ K) a1 4) (σ : zST), m_L_acts_138 F w k128 n a0 a1 a3 a5 a7 a8 a9 a10 a11 σ = some (r0, τ0) → Z K cs ss 138 [(0, .ref (eA (kZ K) a0)), (1, .ref (eA (kZ K) a1)), (3, .int a3), (5, .long a5), (7, .int a7), (8, .int a8), (9, .int a9), (10, .int a10), (11, .int a11)] [] σ := by
  intro n
  induction n with
  | zero => intro a0 a1 a3 a5 a7 a8 a9 a10 a11 ha0 ha1 σ h; cases h
  | succ n ih =>
    intro a0 a1 a3 a5 a7 a8 a9 a10 a11 ha0 ha1 σ h
    rw [m_L_acts_138] at h
    refine Z_iload hk 8 dL_acts_138 rfl ?_
    refine Z_iload hk 4 dL_acts_140 rfl ?_
    refine Z_icmp_ge hk (tgt := 266) dL_acts_142 (by decide) (fun c78 => ?_) (fun c78 => ?_)
    · have h := if_yes h c78
      refine Z_aload_n hk 1 dL_acts_266 rfl rfl ?_
      refine Z_iload_n hk 2 dL_acts_267 rfl rfl ?_
      refine Z_aload_n hk 1 dL_acts_268 rfl rfl ?_
      refine Z_iload_n hk 2 dL_acts_269 rfl rfl ?_
      obtain ⟨i81, x79, e80, h⟩ := ldL_get h
      refine Z_lald hk ha1 i81 dL_acts_270 ?_
      refine Z_eqL e80 ?_
      refine Z_iload hk 7 dL_acts_271 rfl ?_
      refine Z_lload hk 3 dL_acts_273 rfl ?_
      refine Z_iload hk 7 dL_acts_275 rfl ?_
      refine Z_iload hk 5 dL_acts_277 rfl ?_
      refine Z_icmp_ne hk (tgt := 287) dL_acts_279 (by decide) (fun c82 => ?_) (fun c82 => ?_)
      · have h := if_yes h c82
        refine Z_iload hk 6 dL_acts_282 rfl ?_
        refine Z_goto hk (tgt := 301) dL_acts_284 (by decide) ?_
        refine Z_sub [0, 1, 2, 3, 4, 5, 6, 7] rfl ?_
        exact w_L_acts_301 hk hfl hnx hq hw cs ss (by omega) (by omega) F k128 hk128 a0 a1 a3 a5 a7 a8 a9 a10 a9 a5 a10 x79 a3 a1 ha0 ha1 ha1 σ h
      · have h := if_no h c82
        refine Z_iload hk 7 dL_acts_287 rfl ?_
        refine Z_iload hk 6 dL_acts_289 rfl ?_
        refine Z_icmp_ne hk (tgt := 299) dL_acts_291 (by decide) (fun c83 => ?_) (fun c83 => ?_)
        · have h := if_yes h c83
          refine Z_iload hk 5 dL_acts_294 rfl ?_
          refine Z_goto hk (tgt := 301) dL_acts_296 (by decide) ?_
          refine Z_sub [0, 1, 2, 3, 4, 5, 6, 7] rfl ?_
          exact w_L_acts_301 hk hfl hnx hq hw cs ss (by omega) (by omega) F k128 hk128 a0 a1 a3 a5 a7 a8 a9 a10 a8 a5 a10 x79 a3 a1 ha0 ha1 ha1 σ h
        · have h := if_no h c83
          refine Z_iload hk 7 dL_acts_299 rfl ?_
          refine Z_sub [0, 1, 2, 3, 4, 5, 6, 7] rfl ?_
          exact w_L_acts_301 hk hfl hnx hq hw cs ss (by omega) (by omega) F k128 hk128 a0 a1 a3 a5 a7 a8 a9 a10 a10 a5 a10 x79 a3 a1 ha0 ha1 ha1 σ h
    · have h := if_no h c78
      refine Z_iload hk 7 dL_acts_145 rfl ?_
      refine Z_iload hk 5 dL_acts_147 rfl ?_
      refine Z_icmp_ne hk (tgt := 157) dL_acts_149 (by decide) (fun c84 => ?_) (fun c84 => ?_)
      · have h := if_yes h c84
        refine Z_iload hk 6 dL_acts_152 rfl ?_
        refine Z_goto hk (tgt := 171) dL_acts_154 (by decide) ?_
        refine Z_sub [0, 1, 2, 3, 4, 5, 6, 7, 8] rfl ?_
        exact w_L_acts_171 hk hfl hnx hq hw cs ss (by omega) (by omega) F k128 hk128 (m_L_acts_138 F w k128 n) ih a0 a1 a3 a5 a7 a8 a9 a10 a11 a9 ha0 ha1 σ h
      · have h := if_no h c84
        refine Z_iload hk 7 dL_acts_157 rfl ?_
        refine Z_iload hk 6 dL_acts_159 rfl ?_
        refine Z_icmp_ne hk (tgt := 169) dL_acts_161 (by decide) (fun c85 => ?_) (fun c85 => ?_)
        · have h := if_yes h c85
          refine Z_iload hk 5 dL_acts_164 rfl ?_
          refine Z_goto hk (tgt := 171) dL_acts_166 (by decide) ?_
          refine Z_sub [0, 1, 2, 3, 4, 5, 6, 7, 8] rfl ?_
          exact w_L_acts_171 hk hfl hnx hq hw cs ss (by omega) (by omega) F k128 hk128 (m_L_acts_138 F w k128 n) ih a0 a1 a3 a5 a7 a8 a9 a10 a11 a8 ha0 ha1 σ h
        · have h := if_no h c85
          refine Z_iload hk 7 dL_acts_169 rfl ?_
          refine Z_sub [0, 1, 2, 3, 4, 5, 6, 7, 8] rfl ?_
          exact w_L_acts_171 hk hfl hnx hq hw cs ss (by omega) (by omega) F k128 hk128 (m_L_acts_138 F w k128 n) ih a0 a1 a3 a5 a7 a8 a9 a10 a11 a10 ha0 ha1 σ h
set_option maxRecDepth 100000 in
set_option maxHeartbeats 4000000 in
theorem w_L_acts_128 {K : zK} {w : Nat} (hk : zIs K RL cL_acts 14 wsL_acts (some .boolean) r_L_acts) (hfl : (kL K).stackTraces = false) (hnx : zNX K) {r0 : Int32} {τ0 : zST} (hq : zQG K (.inr (some (.int r0))) τ0) (hw : eN (kZ K) = w) (cs ss : Nat) (hb1 : cs + 3 ≤ 4) (hb2 : ss + 18 ≤ 24) (F : Nat) : ∀ (n : Nat) (a0 : Nat) (a1 : Nat) (a3 : Int32) (a5 : Int64) (a7 : Int32) (a8 : Int32) (a9 : Int32) (a10 : Int32) (ha0 : atCanonCote (kZ K) a0) (ha1 : aJ (kZ K) a1 4) (σ : zST), m_L_acts_128 F w n a0 a1 a3 a5 a7 a8 a9 a10 σ = some (r0, τ0) → Z K cs ss 128 [(0, .ref (eA (kZ K) a0)), (1, .ref (eA (kZ K) a1)), (3, .int a3), (5, .long a5), (7, .int a7), (8, .int a8), (9, .int a9), (10, .int a10)] [] σ := by
  intro n
  induction n with
  | zero => intro a0 a1 a3 a5 a7 a8 a9 a10 ha0 ha1 σ h; cases h
  | succ n ih =>
    intro a0 a1 a3 a5 a7 a8 a9 a10 ha0 ha1 σ h
    rw [m_L_acts_128] at h
    refine Z_iload hk 7 dL_acts_128 rfl ?_
    refine Z_iload hk 4 dL_acts_130 rfl ?_
    refine Z_icmp_ge hk (tgt := 314) dL_acts_132 (by decide) (fun c46 => ?_) (fun c46 => ?_)
    · have h := if_yes h c46
      refine Z_aload_n hk 0 dL_acts_314 rfl rfl ?_
      refine Z_iload_n hk 2 dL_acts_315 rfl rfl ?_
      refine Z_iload hk 5 dL_acts_316 rfl ?_
      refine Z_iload hk 6 dL_acts_318 rfl ?_
      obtain ⟨x47, s48, h49, h⟩ := br_ok h
      refine ZX_callV 3 hk [.int a3, .int a8, .int a9] (c_X7_swap hk.loc hk.inj hfl F a0 a3 a8 a9 ha0 σ h49) gL_acts_X7_swap rfl ⟨rfl, by decide +kernel, by decide +kernel, by decide +kernel⟩ ⟨Nat.le_of_ble_eq_true rfl, Nat.le_of_ble_eq_true rfl⟩ ha0.cell.1 (ha0.cell.2 _) rfl rfl rfl (Nat.le_of_ble_eq_true rfl) ⟨by show cs + 3 ≤ 4; omega, by show ss + 18 ≤ 24; omega⟩ dL_acts_320 (fun X hX => by cases hX) (fun v hv => ?_)
      cases hv
      show Z K (cs + 3) (ss + 18) 323 [(0, .ref (eA (kZ K) a0)), (1, .ref (eA (kZ K) a1)), (3, .int a3), (5, .long a5), (7, .int a7), (8, .int a8), (9, .int a9), (10, .int a10)] [] s48
      refine Z_iconst hk dL_acts_323 zc_iconst_1 ?_
      cases h
      exact ZG_zret hk (by decide) hq ⟨by show (cs + 3) + 0 ≤ 4; omega, by show (ss + 18) + 0 ≤ 24; omega⟩ dL_acts_324
    · have h := if_no h c46
      refine Z_iconst hk dL_acts_135 zc_iconst_0 ?_
      refine Z_istore hk (lv' := [(11, .int 0), (0, .ref (eA (kZ K) a0)), (1, .ref (eA (kZ K) a1)), (3, .int a3), (5, .long a5), (7, .int a7), (8, .int a8), (9, .int a9), (10, .int a10)]) dL_acts_136 (by decide) rfl ?_
      refine Z_sub [1, 2, 3, 4, 5, 6, 7, 8, 0] rfl ?_
      exact w_L_acts_138 hk hfl hnx hq hw cs ss (by omega) (by omega) F (m_L_acts_128 F w n) ih F a0 a1 a3 a5 a7 a8 a9 a10 0 ha0 ha1 σ h
set_option maxRecDepth 100000 in
set_option maxHeartbeats 4000000 in
theorem w_L_acts_456 {K : zK} {w : Nat} (hk : zIs K RL cL_acts 14 wsL_acts (some .boolean) r_L_acts) (hfl : (kL K).stackTraces = false) (hnx : zNX K) {r0 : Int32} {τ0 : zST} (hq : zQG K (.inr (some (.int r0))) τ0) (hw : eN (kZ K) = w) (cs ss : Nat) (hb1 : cs + 0 ≤ 4) (hb2 : ss + 0 ≤ 24) (F : Nat) (k366 : Nat → Nat → Int32 → Int64 → Int32 → Int32 → Int32 → zST → Option (Int32 × zST)) (hk366 : ∀ (a0 : Nat) (a1 : Nat) (a3 : Int32) (a5 : Int64) (a7 : Int32) (a10 : Int32) (a11 : Int32) (ha0 : atCanonCote (kZ K) a0) (ha1 : aJ (kZ K) a1 4) (σ : zST), k366 a0 a1 a3 a5 a7 a10 a11 σ = some (r0, τ0) → Z K cs ss 366 [(0, .ref (eA (kZ K) a0)), (1, .ref (eA (kZ K) a1)), (3, .int a3), (5, .long a5), (7, .int a7), (10, .int a10), (11, .int a11)] [] σ) (a0 : Nat) (a1 : Nat) (a3 : Int32) (a5 : Int64) (a7 : Int32) (a11 : Int32) (t0 : Int32) (t1 : Int32) (ha0 : atCanonCote (kZ K) a0) (ha1 : aJ (kZ K) a1 4) (σ : zST) (h : m_L_acts_456 F w k366 a0 a1 a3 a5 a7 a11 t0 t1 σ = some (r0, τ0)) : Z K cs ss 456 [(0, .ref (eA (kZ K) a0)), (1, .ref (eA (kZ K) a1)), (3, .int a3), (5, .long a5), (7, .int a7), (11, .int a11)] [.int t0, .int t1] σ := by
  unfold m_L_acts_456 at h
  refine Z_iadd hk dL_acts_456 ?_
  obtain ⟨x135, e136, h⟩ := nm_get h
  refine Z_eqI e136 ?_
  refine Z_istore hk (lv' := [(10, .int x135), (0, .ref (eA (kZ K) a0)), (1, .ref (eA (kZ K) a1)), (3, .int a3), (5, .long a5), (7, .int a7), (11, .int a11)]) dL_acts_457 (by decide) rfl ?_
  obtain ⟨x137, e138, h⟩ := nm_get h
  refine Z_iinc hk 6 (v := x137) (lv' := [(11, .int x137), (10, .int x135), (0, .ref (eA (kZ K) a0)), (1, .ref (eA (kZ K) a1)), (3, .int a3), (5, .long a5), (7, .int a7)]) dL_acts_459 rfl (by rw [zc_iinc_1]; exact e138) (by decide) rfl ?_
  refine Z_goto hk (tgt := 366) dL_acts_462 (by decide) ?_
  refine Z_sub [2, 3, 4, 5, 6, 1, 0] rfl ?_
  exact hk366 a0 a1 a3 a5 a7 x135 x137 ha0 ha1 σ h
set_option maxRecDepth 100000 in
set_option maxHeartbeats 4000000 in
theorem w_L_acts_455 {K : zK} {w : Nat} (hk : zIs K RL cL_acts 14 wsL_acts (some .boolean) r_L_acts) (hfl : (kL K).stackTraces = false) (hnx : zNX K) {r0 : Int32} {τ0 : zST} (hq : zQG K (.inr (some (.int r0))) τ0) (hw : eN (kZ K) = w) (cs ss : Nat) (hb1 : cs + 0 ≤ 4) (hb2 : ss + 0 ≤ 24) (F : Nat) (k366 : Nat → Nat → Int32 → Int64 → Int32 → Int32 → Int32 → zST → Option (Int32 × zST)) (hk366 : ∀ (a0 : Nat) (a1 : Nat) (a3 : Int32) (a5 : Int64) (a7 : Int32) (a10 : Int32) (a11 : Int32) (ha0 : atCanonCote (kZ K) a0) (ha1 : aJ (kZ K) a1 4) (σ : zST), k366 a0 a1 a3 a5 a7 a10 a11 σ = some (r0, τ0) → Z K cs ss 366 [(0, .ref (eA (kZ K) a0)), (1, .ref (eA (kZ K) a1)), (3, .int a3), (5, .long a5), (7, .int a7), (10, .int a10), (11, .int a11)] [] σ) (a0 : Nat) (a1 : Nat) (a3 : Int32) (a5 : Int64) (a7 : Int32) (a11 : Int32) (t0 : Int32) (ha0 : atCanonCote (kZ K) a0) (ha1 : aJ (kZ K) a1 4) (σ : zST) (h : m_L_acts_455 F w k366 a0 a1 a3 a5 a7 a11 t0 σ = some (r0, τ0)) : Z K cs ss 455 [(0, .ref (eA (kZ K) a0)), (1, .ref (eA (kZ K) a1)), (3, .int a3), (5, .long a5), (7, .int a7), (11, .int a11)] [.int t0] σ := by
  unfold m_L_acts_455 at h
  refine Z_iconst hk dL_acts_455 zc_iconst_0 ?_
  refine Z_sub [0, 1, 2, 3, 4, 5] rfl ?_
  exact w_L_acts_456 hk hfl hnx hq hw cs ss (by omega) (by omega) F k366 hk366 a0 a1 a3 a5 a7 a11 0 t0 ha0 ha1 σ h
set_option maxRecDepth 100000 in
set_option maxHeartbeats 4000000 in
theorem w_L_acts_424 {K : zK} {w : Nat} (hk : zIs K RL cL_acts 14 wsL_acts (some .boolean) r_L_acts) (hfl : (kL K).stackTraces = false) (hnx : zNX K) {r0 : Int32} {τ0 : zST} (hq : zQG K (.inr (some (.int r0))) τ0) (hw : eN (kZ K) = w) (cs ss : Nat) (hb1 : cs + 0 ≤ 4) (hb2 : ss + 0 ≤ 24) (F : Nat) (k366 : Nat → Nat → Int32 → Int64 → Int32 → Int32 → Int32 → zST → Option (Int32 × zST)) (hk366 : ∀ (a0 : Nat) (a1 : Nat) (a3 : Int32) (a5 : Int64) (a7 : Int32) (a10 : Int32) (a11 : Int32) (ha0 : atCanonCote (kZ K) a0) (ha1 : aJ (kZ K) a1 4) (σ : zST), k366 a0 a1 a3 a5 a7 a10 a11 σ = some (r0, τ0) → Z K cs ss 366 [(0, .ref (eA (kZ K) a0)), (1, .ref (eA (kZ K) a1)), (3, .int a3), (5, .long a5), (7, .int a7), (10, .int a10), (11, .int a11)] [] σ) (a0 : Nat) (a1 : Nat) (a3 : Int32) (a5 : Int64) (a7 : Int32) (a10 : Int32) (a11 : Int32) (a12 : Int32) (t0 : Int64) (t1 : Int64) (t2 : Int32) (t3 : Nat) (ha0 : atCanonCote (kZ K) a0) (ha1 : aJ (kZ K) a1 4) (ht3 : aJ (kZ K) t3 4) (σ : zST) (h : m_L_acts_424 F w k366 a0 a1 a3 a5 a7 a10 a11 a12 t0 t1 t2 t3 σ = some (r0, τ0)) : Z K cs ss 424 [(0, .ref (eA (kZ K) a0)), (1, .ref (eA (kZ K) a1)), (3, .int a3), (5, .long a5), (7, .int a7), (10, .int a10), (11, .int a11), (12, .int a12)] [.long t0, .long t1, .int t2, .ref (eA (kZ K) t3)] σ := by
  unfold m_L_acts_424 at h
  refine Z_lxor hk dL_acts_424 ?_
  obtain ⟨i110, s108, e109, h⟩ := stL_get h
  refine Z_last hk ht3 i110 dL_acts_425 ?_
  refine Z_eqS e109 ?_
  refine Z_iload hk 5 dL_acts_426 rfl ?_
  refine Z_iload hk 7 dL_acts_428 rfl ?_
  refine Z_if_eq hk (tgt := 455) dL_acts_430 (by decide) (fun c111 => ?_) (fun c111 => ?_)
  · have h := if_yes h c111
    refine Z_sub [0, 1, 2, 3, 4, 6] rfl ?_
    exact w_L_acts_455 hk hfl hnx hq hw cs ss (by omega) (by omega) F k366 hk366 a0 a1 a3 a5 a7 a11 a10 ha0 ha1 s108 h
  · have h := if_no h c111
    refine Z_lload hk 3 dL_acts_433 rfl ?_
    refine Z_iload hk 6 dL_acts_435 rfl ?_
    refine Z_iload hk 4 dL_acts_437 rfl ?_
    obtain ⟨z112, h⟩ := gd_some h
    refine Z_idiv hk dL_acts_439 z112 ?_
    refine Z_iload hk 6 dL_acts_440 rfl ?_
    refine Z_iload hk 4 dL_acts_442 rfl ?_
    obtain ⟨z113, h⟩ := gd_some h
    refine Z_irem hk dL_acts_444 z113 ?_
    obtain ⟨x114, s115, h116, h⟩ := bd_ok h
    refine Z_callT 3 hk [.long a5, .int (a11 / a7), .int (a11 - a11 / a7 * a7)] (c_L_edge hk.loc hk.inj F a5 (a11 / a7) (a11 - a11 / a7 * a7) s108 h116) gL_acts_L_edge rfl ⟨rfl, rfl⟩ (by decide +kernel) ⟨Nat.le_of_ble_eq_true rfl, Nat.le_of_ble_eq_true rfl⟩ rfl rfl (Nat.le_of_ble_eq_true rfl) ⟨by show cs + 0 ≤ 4; omega, by show ss + 0 ≤ 24; omega⟩ dL_acts_445 ?_
    show Z K cs ss 448 [(0, .ref (eA (kZ K) a0)), (1, .ref (eA (kZ K) a1)), (3, .int a3), (5, .long a5), (7, .int a7), (10, .int a10), (11, .int a11), (12, .int a12)] [.int x114, .int a10] s115
    refine Z_if_ne hk (tgt := 455) dL_acts_448 (by decide) (fun c117 => ?_) (fun c117 => ?_)
    · have h := if_yes h c117
      refine Z_iconst hk dL_acts_451 zc_iconst_1 ?_
      refine Z_goto hk (tgt := 456) dL_acts_452 (by decide) ?_
      refine Z_sub [0, 1, 2, 3, 4, 6] rfl ?_
      exact w_L_acts_456 hk hfl hnx hq hw cs ss (by omega) (by omega) F k366 hk366 a0 a1 a3 a5 a7 a11 1 a10 ha0 ha1 s115 h
    · have h := if_no h c117
      refine Z_sub [0, 1, 2, 3, 4, 6] rfl ?_
      exact w_L_acts_455 hk hfl hnx hq hw cs ss (by omega) (by omega) F k366 hk366 a0 a1 a3 a5 a7 a11 a10 ha0 ha1 s115 h
set_option maxRecDepth 100000 in
set_option maxHeartbeats 4000000 in
theorem w_L_acts_394 {K : zK} {w : Nat} (hk : zIs K RL cL_acts 14 wsL_acts (some .boolean) r_L_acts) (hfl : (kL K).stackTraces = false) (hnx : zNX K) {r0 : Int32} {τ0 : zST} (hq : zQG K (.inr (some (.int r0))) τ0) (hw : eN (kZ K) = w) (cs ss : Nat) (hb1 : cs + 0 ≤ 4) (hb2 : ss + 0 ≤ 24) (F : Nat) (k366 : Nat → Nat → Int32 → Int64 → Int32 → Int32 → Int32 → zST → Option (Int32 × zST)) (hk366 : ∀ (a0 : Nat) (a1 : Nat) (a3 : Int32) (a5 : Int64) (a7 : Int32) (a10 : Int32) (a11 : Int32) (ha0 : atCanonCote (kZ K) a0) (ha1 : aJ (kZ K) a1 4) (σ : zST), k366 a0 a1 a3 a5 a7 a10 a11 σ = some (r0, τ0) → Z K cs ss 366 [(0, .ref (eA (kZ K) a0)), (1, .ref (eA (kZ K) a1)), (3, .int a3), (5, .long a5), (7, .int a7), (10, .int a10), (11, .int a11)] [] σ) (a0 : Nat) (a1 : Nat) (a3 : Int32) (a5 : Int64) (a7 : Int32) (a10 : Int32) (a11 : Int32) (t0 : Int32) (ha0 : atCanonCote (kZ K) a0) (ha1 : aJ (kZ K) a1 4) (σ : zST) (h : m_L_acts_394 F w k366 a0 a1 a3 a5 a7 a10 a11 t0 σ = some (r0, τ0)) : Z K cs ss 394 [(0, .ref (eA (kZ K) a0)), (1, .ref (eA (kZ K) a1)), (3, .int a3), (5, .long a5), (7, .int a7), (10, .int a10), (11, .int a11)] [.int t0] σ := by
  unfold m_L_acts_394 at h
  refine Z_istore hk (lv' := [(12, .int t0), (0, .ref (eA (kZ K) a0)), (1, .ref (eA (kZ K) a1)), (3, .int a3), (5, .long a5), (7, .int a7), (10, .int a10), (11, .int a11)]) dL_acts_394 (by decide) rfl ?_
  refine Z_aload_n hk 2 dL_acts_396 rfl rfl ?_
  refine Z_iload_n hk 3 dL_acts_397 rfl rfl ?_
  refine Z_dup2 hk dL_acts_398 rfl rfl ?_
  obtain ⟨i88, x86, e87, h⟩ := ldL_get h
  refine Z_lald hk ha1 i88 dL_acts_399 ?_
  refine Z_eqL e87 ?_
  refine Z_iload hk 0 dL_acts_400 rfl ?_
  refine Z_if_eq hk (tgt := 423) dL_acts_402 (by decide) (fun c89 => ?_) (fun c89 => ?_)
  · have h := if_yes h c89
    refine Z_lconst hk dL_acts_423 (v := 0) rfl ?_
    refine Z_sub [1, 2, 3, 4, 5, 6, 7, 0] rfl ?_
    exact w_L_acts_424 hk hfl hnx hq hw cs ss (by omega) (by omega) F k366 hk366 a0 a1 a3 a5 a7 a10 a11 t0 0 x86 a3 a1 ha0 ha1 ha1 σ h
  · have h := if_no h c89
    refine Z_lconst hk dL_acts_405 (v := 1) rfl ?_
    refine Z_iload hk 7 dL_acts_406 rfl ?_
    refine Z_iload hk 5 dL_acts_408 rfl ?_
    obtain ⟨z90, h⟩ := gd_some h
    refine Z_idiv hk dL_acts_410 z90 ?_
    refine Z_iload hk 7 dL_acts_411 rfl ?_
    refine Z_iload hk 5 dL_acts_413 rfl ?_
    obtain ⟨z91, h⟩ := gd_some h
    refine Z_irem hk dL_acts_415 z91 ?_
    obtain ⟨x92, s93, h94, h⟩ := bd_ok h
    refine Z_callT 2 hk [.int (a11 / a7), .int (a11 - a11 / a7 * a7)] (c_L_bit hk.loc hk.inj F (a11 / a7) (a11 - a11 / a7 * a7) σ h94) gL_acts_L_bit rfl ⟨rfl, rfl⟩ (by decide +kernel) ⟨Nat.le_of_ble_eq_true rfl, Nat.le_of_ble_eq_true rfl⟩ rfl rfl (Nat.le_of_ble_eq_true rfl) ⟨by show cs + 0 ≤ 4; omega, by show ss + 0 ≤ 24; omega⟩ dL_acts_416 ?_
    show Z K cs ss 419 [(12, .int t0), (0, .ref (eA (kZ K) a0)), (1, .ref (eA (kZ K) a1)), (3, .int a3), (5, .long a5), (7, .int a7), (10, .int a10), (11, .int a11)] [.int x92, .long 1, .long x86, .int a3, .ref (eA (kZ K) a1)] s93
    refine Z_lshl hk dL_acts_419 ?_
    refine Z_goto hk (tgt := 424) dL_acts_420 (by decide) ?_
    refine Z_sub [1, 2, 3, 4, 5, 6, 7, 0] rfl ?_
    exact w_L_acts_424 hk hfl hnx hq hw cs ss (by omega) (by omega) F k366 hk366 a0 a1 a3 a5 a7 a10 a11 t0 (jlshl 1 x92) x86 a3 a1 ha0 ha1 ha1 s93 h
set_option maxRecDepth 100000 in
set_option maxHeartbeats 4000000 in
theorem w_L_acts_366 {K : zK} {w : Nat} (hk : zIs K RL cL_acts 14 wsL_acts (some .boolean) r_L_acts) (hfl : (kL K).stackTraces = false) (hnx : zNX K) {r0 : Int32} {τ0 : zST} (hq : zQG K (.inr (some (.int r0))) τ0) (hw : eN (kZ K) = w) (cs ss : Nat) (hb1 : cs + 1 ≤ 4) (hb2 : ss + 6 ≤ 24) (F : Nat) : ∀ (n : Nat) (a0 : Nat) (a1 : Nat) (a3 : Int32) (a5 : Int64) (a7 : Int32) (a10 : Int32) (a11 : Int32) (ha0 : atCanonCote (kZ K) a0) (ha1 : aJ (kZ K) a1 4) (σ : zST), m_L_acts_366 F w n a0 a1 a3 a5 a7 a10 a11 σ = some (r0, τ0) → Z K cs ss 366 [(0, .ref (eA (kZ K) a0)), (1, .ref (eA (kZ K) a1)), (3, .int a3), (5, .long a5), (7, .int a7), (10, .int a10), (11, .int a11)] [] σ := by
  intro n
  induction n with
  | zero => intro a0 a1 a3 a5 a7 a10 a11 ha0 ha1 σ h; cases h
  | succ n ih =>
    intro a0 a1 a3 a5 a7 a10 a11 ha0 ha1 σ h
    rw [m_L_acts_366] at h
    refine Z_iload hk 6 dL_acts_366 rfl ?_
    refine Z_iload hk 4 dL_acts_368 rfl ?_
    refine Z_iload hk 4 dL_acts_370 rfl ?_
    refine Z_imul hk dL_acts_372 ?_
    refine Z_icmp_ge hk (tgt := 465) dL_acts_373 (by decide) (fun c50 => ?_) (fun c50 => ?_)
    · have h := if_yes h c50
      refine Z_aload_n hk 0 dL_acts_465 rfl rfl ?_
      refine Z_iload_n hk 2 dL_acts_466 rfl rfl ?_
      obtain ⟨x51, s52, h53, h⟩ := br_ok h
      refine ZX_callV 1 hk [.int a3] (c_X7_complement hk.loc hk.inj hfl F a0 a3 ha0 σ h53) gL_acts_X7_complement rfl ⟨rfl, by decide +kernel, by decide +kernel, by decide +kernel⟩ ⟨Nat.le_of_ble_eq_true rfl, Nat.le_of_ble_eq_true rfl⟩ ha0.cell.1 (ha0.cell.2 _) rfl rfl rfl (Nat.le_of_ble_eq_true rfl) ⟨by show cs + 1 ≤ 4; omega, by show ss + 6 ≤ 24; omega⟩ dL_acts_467 (fun X hX => by cases hX) (fun v hv => ?_)
      cases hv
      show Z K (cs + 1) (ss + 6) 470 [(0, .ref (eA (kZ K) a0)), (1, .ref (eA (kZ K) a1)), (3, .int a3), (5, .long a5), (7, .int a7), (10, .int a10), (11, .int a11)] [.int x51] s52
      refine Z_iload hk 5 dL_acts_470 rfl ?_
      refine Z_icmp_ne hk (tgt := 479) dL_acts_472 (by decide) (fun c54 => ?_) (fun c54 => ?_)
      · have h := if_yes h c54
        refine Z_iconst hk dL_acts_475 zc_iconst_1 ?_
        refine Z_goto hk (tgt := 480) dL_acts_476 (by decide) ?_
        cases h
        exact ZG_zret hk (by decide) hq ⟨by show (cs + 1) + 0 ≤ 4; omega, by show (ss + 6) + 0 ≤ 24; omega⟩ dL_acts_480
      · have h := if_no h c54
        refine Z_iconst hk dL_acts_479 zc_iconst_0 ?_
        cases h
        exact ZG_zret hk (by decide) hq ⟨by show (cs + 1) + 0 ≤ 4; omega, by show (ss + 6) + 0 ≤ 24; omega⟩ dL_acts_480
    · have h := if_no h c50
      refine Z_iload hk 6 dL_acts_376 rfl ?_
      refine Z_iload hk 4 dL_acts_378 rfl ?_
      obtain ⟨z55, h⟩ := gd_some h
      refine Z_idiv hk dL_acts_380 z55 ?_
      refine Z_iload hk 6 dL_acts_381 rfl ?_
      refine Z_iload hk 4 dL_acts_383 rfl ?_
      obtain ⟨z56, h⟩ := gd_some h
      refine Z_irem hk dL_acts_385 z56 ?_
      refine Z_icmp_ge hk (tgt := 393) dL_acts_386 (by decide) (fun c57 => ?_) (fun c57 => ?_)
      · have h := if_yes h c57
        refine Z_iconst hk dL_acts_393 zc_iconst_0 ?_
        refine Z_sub [0, 1, 2, 3, 4, 5, 6] rfl ?_
        exact w_L_acts_394 hk hfl hnx hq hw cs ss (by omega) (by omega) F (m_L_acts_366 F w n) ih a0 a1 a3 a5 a7 a10 a11 0 ha0 ha1 σ h
      · have h := if_no h c57
        refine Z_iconst hk dL_acts_389 zc_iconst_1 ?_
        refine Z_goto hk (tgt := 394) dL_acts_390 (by decide) ?_
        refine Z_sub [0, 1, 2, 3, 4, 5, 6] rfl ?_
        exact w_L_acts_394 hk hfl hnx hq hw cs ss (by omega) (by omega) F (m_L_acts_366 F w n) ih a0 a1 a3 a5 a7 a10 a11 1 ha0 ha1 σ h
set_option maxRecDepth 100000 in
set_option maxHeartbeats 4000000 in
theorem w_L_acts_500 {K : zK} {w : Nat} (hk : zIs K RL cL_acts 14 wsL_acts (some .boolean) r_L_acts) (hfl : (kL K).stackTraces = false) (hnx : zNX K) {r0 : Int32} {τ0 : zST} (hq : zQG K (.inr (some (.int r0))) τ0) (hw : eN (kZ K) = w) (cs ss : Nat) (hb1 : cs + 4 ≤ 4) (hb2 : ss + 24 ≤ 24) (F : Nat) (a0 : Nat) (a1 : Nat) (a3 : Int32) (a8 : Int32) (t0 : Int32) (ha0 : atCanonCote (kZ K) a0) (ha1 : aJ (kZ K) a1 4) (σ : zST) (h : m_L_acts_500 F w a0 a1 a3 a8 t0 σ = some (r0, τ0)) : Z K cs ss 500 [(0, .ref (eA (kZ K) a0)), (1, .ref (eA (kZ K) a1)), (3, .int a3), (8, .int a8)] [.int t0] σ := by
  unfold m_L_acts_500 at h
  refine Z_istore hk (lv' := [(9, .int t0), (0, .ref (eA (kZ K) a0)), (1, .ref (eA (kZ K) a1)), (3, .int a3), (8, .int a8)]) dL_acts_500 (by decide) rfl ?_
  refine Z_iload hk 4 dL_acts_502 rfl ?_
  refine Z_iload hk 0 dL_acts_504 rfl ?_
  refine Z_icmp_ne hk (tgt := 511) dL_acts_506 (by decide) (fun c58 => ?_) (fun c58 => ?_)
  · have h := if_yes h c58
    refine Z_iconst hk dL_acts_509 zc_iconst_1 ?_
    cases h
    exact ZG_zret hk (by decide) hq ⟨by show cs + 0 ≤ 4; omega, by show ss + 0 ≤ 24; omega⟩ dL_acts_510
  · have h := if_no h c58
    refine Z_aload_n hk 2 dL_acts_511 rfl rfl ?_
    refine Z_iload_n hk 3 dL_acts_512 rfl rfl ?_
    refine Z_dup2 hk dL_acts_513 rfl rfl ?_
    obtain ⟨i61, x59, e60, h⟩ := ldL_get h
    refine Z_lald hk ha1 i61 dL_acts_514 ?_
    refine Z_eqL e60 ?_
    refine Z_lconst hk dL_acts_515 (v := 1) rfl ?_
    refine Z_iload hk 4 dL_acts_516 rfl ?_
    refine Z_iload hk 0 dL_acts_518 rfl ?_
    obtain ⟨x62, s63, h64, h⟩ := bd_ok h
    refine Z_callT 2 hk [.int a8, .int t0] (c_L_bit hk.loc hk.inj F a8 t0 σ h64) gL_acts_L_bit rfl ⟨rfl, rfl⟩ (by decide +kernel) ⟨Nat.le_of_ble_eq_true rfl, Nat.le_of_ble_eq_true rfl⟩ rfl rfl (Nat.le_of_ble_eq_true rfl) ⟨by show cs + 0 ≤ 4; omega, by show ss + 0 ≤ 24; omega⟩ dL_acts_520 ?_
    show Z K cs ss 523 [(9, .int t0), (0, .ref (eA (kZ K) a0)), (1, .ref (eA (kZ K) a1)), (3, .int a3), (8, .int a8)] [.int x62, .long 1, .long x59, .int a3, .ref (eA (kZ K) a1)] s63
    refine Z_lshl hk dL_acts_523 ?_
    refine Z_lxor hk dL_acts_524 ?_
    obtain ⟨i67, s65, e66, h⟩ := stL_get h
    refine Z_last hk ha1 i67 dL_acts_525 ?_
    refine Z_eqS e66 ?_
    refine Z_aload_n hk 1 dL_acts_526 rfl rfl ?_
    refine Z_iload_n hk 3 dL_acts_527 rfl rfl ?_
    refine Z_iload hk 4 dL_acts_528 rfl ?_
    refine Z_iload hk 0 dL_acts_530 rfl ?_
    obtain ⟨x68, s69, h70, h⟩ := br_ok h
    refine ZX_callV 3 hk [.int a3, .int a8, .int t0] (c_X7_toggle hk.loc hk.inj hfl F a0 a3 a8 t0 ha0 s65 h70) gL_acts_X7_toggle rfl ⟨rfl, by decide +kernel, by decide +kernel, by decide +kernel⟩ ⟨Nat.le_of_ble_eq_true rfl, Nat.le_of_ble_eq_true rfl⟩ ha0.cell.1 (ha0.cell.2 _) rfl rfl rfl (Nat.le_of_ble_eq_true rfl) ⟨by show cs + 4 ≤ 4; omega, by show ss + 24 ≤ 24; omega⟩ dL_acts_532 (fun X hX => by cases hX) (fun v hv => ?_)
    cases hv
    show Z K (cs + 4) (ss + 24) 535 [(9, .int t0), (0, .ref (eA (kZ K) a0)), (1, .ref (eA (kZ K) a1)), (3, .int a3), (8, .int a8)] [.int x68] s69
    refine Z_aload_n hk 2 dL_acts_535 rfl rfl ?_
    refine Z_iload_n hk 3 dL_acts_536 rfl rfl ?_
    obtain ⟨i73, x71, e72, h⟩ := ldL_get h
    refine Z_lald hk ha1 i73 dL_acts_537 ?_
    refine Z_eqL e72 ?_
    refine Z_iload hk 4 dL_acts_538 rfl ?_
    refine Z_iload hk 0 dL_acts_540 rfl ?_
    obtain ⟨x74, s75, h76, h⟩ := bd_ok h
    refine Z_callT 3 hk [.long x71, .int a8, .int t0] (c_L_edge hk.loc hk.inj F x71 a8 t0 s69 h76) gL_acts_L_edge rfl ⟨rfl, rfl⟩ (by decide +kernel) ⟨Nat.le_of_ble_eq_true rfl, Nat.le_of_ble_eq_true rfl⟩ rfl rfl (Nat.le_of_ble_eq_true rfl) ⟨by show (cs + 4) + 0 ≤ 4; omega, by show (ss + 24) + 0 ≤ 24; omega⟩ dL_acts_542 ?_
    show Z K (cs + 4) (ss + 24) 545 [(9, .int t0), (0, .ref (eA (kZ K) a0)), (1, .ref (eA (kZ K) a1)), (3, .int a3), (8, .int a8)] [.int x74, .int x68] s75
    refine Z_icmp_ne hk (tgt := 552) dL_acts_545 (by decide) (fun c77 => ?_) (fun c77 => ?_)
    · have h := if_yes h c77
      refine Z_iconst hk dL_acts_548 zc_iconst_1 ?_
      refine Z_goto hk (tgt := 553) dL_acts_549 (by decide) ?_
      cases h
      exact ZG_zret hk (by decide) hq ⟨by show (cs + 4) + 0 ≤ 4; omega, by show (ss + 24) + 0 ≤ 24; omega⟩ dL_acts_553
    · have h := if_no h c77
      refine Z_iconst hk dL_acts_552 zc_iconst_0 ?_
      cases h
      exact ZG_zret hk (by decide) hq ⟨by show (cs + 4) + 0 ≤ 4; omega, by show (ss + 24) + 0 ≤ 24; omega⟩ dL_acts_553
set_option maxRecDepth 100000 in
set_option maxHeartbeats 4000000 in
theorem w_L_acts {K : zK} {w : Nat} (hk : zIs K RL cL_acts 14 wsL_acts (some .boolean) r_L_acts) (hfl : (kL K).stackTraces = false) (hnx : zNX K) {r0 : Int32} {τ0 : zST} (hq : zQG K (.inr (some (.int r0))) τ0) (hw : eN (kZ K) = w) (F : Nat) (a0 : Nat) (a1 : Nat) (a2 : Int32) (a3 : Int32) (a4 : Int32) (ha0 : atCanonCote (kZ K) a0) (ha1 : aJ (kZ K) a1 4) (σ : zST) (h : m_L_acts F w a0 a1 a2 a3 a4 σ = some (r0, τ0)) : Z K 0 0 0 [(0, .ref (eA (kZ K) a0)), (1, .ref (eA (kZ K) a1)), (2, .int a2), (3, .int a3), (4, .int a4)] [] σ := by
  unfold m_L_acts at h
  refine Z_aload_n hk 1 dL_acts_0 rfl rfl ?_
  refine Z_iload_n hk 3 dL_acts_1 rfl rfl ?_
  obtain ⟨i3, x1, e2, h⟩ := ldL_get h
  refine Z_lald hk ha1 i3 dL_acts_2 ?_
  refine Z_eqL e2 ?_
  refine Z_lstore hk (lv' := [(5, .long x1), (0, .ref (eA (kZ K) a0)), (1, .ref (eA (kZ K) a1)), (2, .int a2), (3, .int a3), (4, .int a4)]) dL_acts_3 (by decide) rfl ?_
  refine Z_lload hk 0 dL_acts_5 rfl ?_
  obtain ⟨x4, s5, h6, h⟩ := bd_ok h
  refine Z_callT 1 hk [.long x1] (c_L_size hk.loc hk.inj F x1 σ h6) gL_acts_L_size rfl ⟨rfl, rfl⟩ (by decide +kernel) ⟨Nat.le_of_ble_eq_true rfl, Nat.le_of_ble_eq_true rfl⟩ rfl rfl (Nat.le_of_ble_eq_true rfl) ⟨by show 0 + 0 ≤ 4; omega, by show 0 + 0 ≤ 24; omega⟩ dL_acts_7 ?_
  show Z K 0 0 10 [(5, .long x1), (0, .ref (eA (kZ K) a0)), (1, .ref (eA (kZ K) a1)), (2, .int a2), (3, .int a3), (4, .int a4)] [.int x4] s5
  refine Z_istore hk (lv' := [(7, .int x4), (5, .long x1), (0, .ref (eA (kZ K) a0)), (1, .ref (eA (kZ K) a1)), (2, .int a2), (3, .int a3), (4, .int a4)]) dL_acts_10 (by decide) rfl ?_
  refine Z_iload hk 6 dL_acts_12 rfl ?_
  refine Z_iload hk 0 dL_acts_14 rfl ?_
  obtain ⟨z7, h⟩ := gd_some h
  refine Z_irem hk dL_acts_16 z7 ?_
  obtain ⟨x8, e9, h⟩ := nm_get h
  refine Z_eqI e9 ?_
  refine Z_istore hk (lv' := [(8, .int x8), (7, .int x4), (5, .long x1), (0, .ref (eA (kZ K) a0)), (1, .ref (eA (kZ K) a1)), (2, .int a2), (3, .int a3), (4, .int a4)]) dL_acts_17 (by decide) rfl ?_
  refine Z_iload hk 7 dL_acts_19 rfl ?_
  refine Z_bipush hk dL_acts_21 zc_bipush_8 ?_
  refine Z_idiv hk dL_acts_23 (by decide) ?_
  refine Z_iload hk 1 dL_acts_24 rfl ?_
  obtain ⟨z10, h⟩ := gd_some h
  refine Z_irem hk dL_acts_26 z10 ?_
  obtain ⟨x11, e12, h⟩ := nm_get h
  refine Z_eqI e12 ?_
  refine Z_istore hk (lv' := [(9, .int x11), (8, .int x8), (7, .int x4), (5, .long x1), (0, .ref (eA (kZ K) a0)), (1, .ref (eA (kZ K) a1)), (2, .int a2), (3, .int a3), (4, .int a4)]) dL_acts_27 (by decide) rfl ?_
  refine Z_iload_n hk 6 dL_acts_29 rfl rfl ?_
  refine Z_if_ne hk (tgt := 68) dL_acts_30 (by decide) (fun c13 => ?_) (fun c13 => ?_)
  · have h := if_yes h c13
    refine Z_aload_n hk 5 dL_acts_33 rfl rfl ?_
    refine Z_iload_n hk 7 dL_acts_34 rfl rfl ?_
    refine Z_iconst hk dL_acts_35 zc_iconst_1 ?_
    refine Z_iload hk 8 dL_acts_36 rfl ?_
    refine Z_iconst hk dL_acts_38 zc_iconst_5 ?_
    refine Z_irem hk dL_acts_39 (by decide) ?_
    refine Z_iadd hk dL_acts_40 ?_
    refine Z_i2l hk dL_acts_41 ?_
    refine Z_bipush hk dL_acts_42 zc_bipush_52 ?_
    refine Z_lshl hk dL_acts_44 ?_
    obtain ⟨i16, s14, e15, h⟩ := stL_get h
    refine Z_last hk ha1 i16 dL_acts_45 ?_
    refine Z_eqS e15 ?_
    refine Z_aload_n hk 4 dL_acts_46 rfl rfl ?_
    refine Z_iload_n hk 7 dL_acts_47 rfl rfl ?_
    refine Z_iconst hk dL_acts_48 zc_iconst_1 ?_
    refine Z_iload hk 8 dL_acts_49 rfl ?_
    refine Z_iconst hk dL_acts_51 zc_iconst_5 ?_
    refine Z_irem hk dL_acts_52 (by decide) ?_
    refine Z_iadd hk dL_acts_53 ?_
    obtain ⟨x17, s18, h19, h⟩ := br_ok h
    refine ZX_callV 2 hk [.int a3, .int (1 + (a4 - a4 / 5 * 5))] (c_X7_begin hk.loc hk.inj hfl F a0 a3 (1 + (a4 - a4 / 5 * 5)) ha0 s14 h19) gL_acts_X7_begin rfl ⟨rfl, by decide +kernel, by decide +kernel, by decide +kernel⟩ ⟨Nat.le_of_ble_eq_true rfl, Nat.le_of_ble_eq_true rfl⟩ ha0.cell.1 (ha0.cell.2 _) rfl rfl rfl (Nat.le_of_ble_eq_true rfl) ⟨by show 0 + 2 ≤ 4; omega, by show 0 + 12 ≤ 24; omega⟩ dL_acts_54 (fun X hX => by cases hX) (fun v hv => ?_)
    cases hv
    show Z K 2 12 57 [(9, .int x11), (8, .int x8), (7, .int x4), (5, .long x1), (0, .ref (eA (kZ K) a0)), (1, .ref (eA (kZ K) a1)), (2, .int a2), (3, .int a3), (4, .int a4)] [.int x17] s18
    refine Z_iload hk 2 dL_acts_57 rfl ?_
    refine Z_icmp_ne hk (tgt := 66) dL_acts_59 (by decide) (fun c20 => ?_) (fun c20 => ?_)
    · have h := if_yes h c20
      refine Z_iconst hk dL_acts_62 zc_iconst_1 ?_
      refine Z_goto hk (tgt := 67) dL_acts_63 (by decide) ?_
      cases h
      exact ZG_zret hk (by decide) hq ⟨by show 2 + 0 ≤ 4; omega, by show 12 + 0 ≤ 24; omega⟩ dL_acts_67
    · have h := if_no h c20
      refine Z_iconst hk dL_acts_66 zc_iconst_0 ?_
      cases h
      exact ZG_zret hk (by decide) hq ⟨by show 2 + 0 ≤ 4; omega, by show 12 + 0 ≤ 24; omega⟩ dL_acts_67
  · have h := if_no h c13
    refine Z_iload_n hk 6 dL_acts_68 rfl rfl ?_
    refine Z_iconst hk dL_acts_69 zc_iconst_1 ?_
    refine Z_icmp_ne hk (tgt := 120) dL_acts_70 (by decide) (fun c21 => ?_) (fun c21 => ?_)
    · have h := if_yes h c21
      refine Z_aload_n hk 5 dL_acts_73 rfl rfl ?_
      refine Z_iload_n hk 7 dL_acts_74 rfl rfl ?_
      refine Z_lload hk 3 dL_acts_75 rfl ?_
      refine Z_iload hk 1 dL_acts_77 rfl ?_
      refine Z_iload hk 8 dL_acts_79 rfl ?_
      refine Z_bipush hk dL_acts_81 zc_bipush_64 ?_
      refine Z_idiv hk dL_acts_83 (by decide) ?_
      refine Z_iconst hk dL_acts_84 zc_iconst_3 ?_
      refine Z_irem hk dL_acts_85 (by decide) ?_
      obtain ⟨x22, s23, h24, h⟩ := bd_ok h
      refine Z_callT 3 hk [.long x1, .int x8, .int ((a4 / 64) - (a4 / 64) / 3 * 3)] (c_L_coloured hk.loc hk.inj F x1 x8 ((a4 / 64) - (a4 / 64) / 3 * 3) s5 h24) gL_acts_L_coloured rfl ⟨rfl, rfl⟩ (by decide +kernel) ⟨Nat.le_of_ble_eq_true rfl, Nat.le_of_ble_eq_true rfl⟩ rfl rfl (Nat.le_of_ble_eq_true rfl) ⟨by show 0 + 0 ≤ 4; omega, by show 0 + 0 ≤ 24; omega⟩ dL_acts_86 ?_
      show Z K 0 0 89 [(9, .int x11), (8, .int x8), (7, .int x4), (5, .long x1), (0, .ref (eA (kZ K) a0)), (1, .ref (eA (kZ K) a1)), (2, .int a2), (3, .int a3), (4, .int a4)] [.long x22, .int a3, .ref (eA (kZ K) a1)] s23
      obtain ⟨i27, s25, e26, h⟩ := stL_get h
      refine Z_last hk ha1 i27 dL_acts_89 ?_
      refine Z_eqS e26 ?_
      refine Z_aload_n hk 4 dL_acts_90 rfl rfl ?_
      refine Z_iload_n hk 7 dL_acts_91 rfl rfl ?_
      refine Z_iload hk 1 dL_acts_92 rfl ?_
      refine Z_iload hk 8 dL_acts_94 rfl ?_
      refine Z_bipush hk dL_acts_96 zc_bipush_64 ?_
      refine Z_idiv hk dL_acts_98 (by decide) ?_
      refine Z_iconst hk dL_acts_99 zc_iconst_3 ?_
      refine Z_irem hk dL_acts_100 (by decide) ?_
      obtain ⟨x28, s29, h30, h⟩ := br_ok h
      refine ZX_callV 3 hk [.int a3, .int x8, .int ((a4 / 64) - (a4 / 64) / 3 * 3)] (c_X7_setColour hk.loc hk.inj hfl F a0 a3 x8 ((a4 / 64) - (a4 / 64) / 3 * 3) ha0 s25 h30) gL_acts_X7_setColour rfl ⟨rfl, by decide +kernel, by decide +kernel, by decide +kernel⟩ ⟨Nat.le_of_ble_eq_true rfl, Nat.le_of_ble_eq_true rfl⟩ ha0.cell.1 (ha0.cell.2 _) rfl rfl rfl (Nat.le_of_ble_eq_true rfl) ⟨by show 0 + 3 ≤ 4; omega, by show 0 + 18 ≤ 24; omega⟩ dL_acts_101 (fun X hX => by cases hX) (fun v hv => ?_)
      cases hv
      show Z K 3 18 104 [(9, .int x11), (8, .int x8), (7, .int x4), (5, .long x1), (0, .ref (eA (kZ K) a0)), (1, .ref (eA (kZ K) a1)), (2, .int a2), (3, .int a3), (4, .int a4)] [.int x28] s29
      refine Z_lload hk 3 dL_acts_104 rfl ?_
      refine Z_iload hk 1 dL_acts_106 rfl ?_
      obtain ⟨x31, s32, h33, h⟩ := bd_ok h
      refine Z_callT 2 hk [.long x1, .int x8] (c_L_colour hk.loc hk.inj F x1 x8 s29 h33) gL_acts_L_colour rfl ⟨rfl, rfl⟩ (by decide +kernel) ⟨Nat.le_of_ble_eq_true rfl, Nat.le_of_ble_eq_true rfl⟩ rfl rfl (Nat.le_of_ble_eq_true rfl) ⟨by show 3 + 0 ≤ 4; omega, by show 18 + 0 ≤ 24; omega⟩ dL_acts_108 ?_
      show Z K 3 18 111 [(9, .int x11), (8, .int x8), (7, .int x4), (5, .long x1), (0, .ref (eA (kZ K) a0)), (1, .ref (eA (kZ K) a1)), (2, .int a2), (3, .int a3), (4, .int a4)] [.int x31, .int x28] s32
      refine Z_icmp_ne hk (tgt := 118) dL_acts_111 (by decide) (fun c34 => ?_) (fun c34 => ?_)
      · have h := if_yes h c34
        refine Z_iconst hk dL_acts_114 zc_iconst_1 ?_
        refine Z_goto hk (tgt := 119) dL_acts_115 (by decide) ?_
        cases h
        exact ZG_zret hk (by decide) hq ⟨by show 3 + 0 ≤ 4; omega, by show 18 + 0 ≤ 24; omega⟩ dL_acts_119
      · have h := if_no h c34
        refine Z_iconst hk dL_acts_118 zc_iconst_0 ?_
        cases h
        exact ZG_zret hk (by decide) hq ⟨by show 3 + 0 ≤ 4; omega, by show 18 + 0 ≤ 24; omega⟩ dL_acts_119
    · have h := if_no h c21
      refine Z_iload_n hk 6 dL_acts_120 rfl rfl ?_
      refine Z_iconst hk dL_acts_121 zc_iconst_2 ?_
      refine Z_icmp_ne hk (tgt := 325) dL_acts_122 (by decide) (fun c35 => ?_) (fun c35 => ?_)
      · have h := if_yes h c35
        refine Z_iconst hk dL_acts_125 zc_iconst_0 ?_
        refine Z_istore hk (lv' := [(10, .int 0), (9, .int x11), (8, .int x8), (7, .int x4), (5, .long x1), (0, .ref (eA (kZ K) a0)), (1, .ref (eA (kZ K) a1)), (2, .int a2), (3, .int a3), (4, .int a4)]) dL_acts_126 (by decide) rfl ?_
        refine Z_sub [5, 6, 8, 4, 3, 2, 1, 0] rfl ?_
        exact w_L_acts_128 hk hfl hnx hq hw 0 0 (by omega) (by omega) F F a0 a1 a3 x1 x4 x8 x11 0 ha0 ha1 s5 h
      · have h := if_no h c35
        refine Z_iload_n hk 6 dL_acts_325 rfl rfl ?_
        refine Z_iconst hk dL_acts_326 zc_iconst_3 ?_
        refine Z_icmp_ne hk (tgt := 355) dL_acts_327 (by decide) (fun c36 => ?_) (fun c36 => ?_)
        · have h := if_yes h c36
          refine Z_aload_n hk 5 dL_acts_330 rfl rfl ?_
          refine Z_iload hk 8 dL_acts_331 rfl ?_
          refine Z_bipush hk dL_acts_333 zc_bipush_64 ?_
          refine Z_idiv hk dL_acts_335 (by decide) ?_
          refine Z_iconst hk dL_acts_336 zc_iconst_4 ?_
          refine Z_irem hk dL_acts_337 (by decide) ?_
          refine Z_lload hk 3 dL_acts_338 rfl ?_
          obtain ⟨i39, s37, e38, h⟩ := stL_get h
          refine Z_last hk ha1 i39 dL_acts_340 ?_
          refine Z_eqS e38 ?_
          refine Z_aload_n hk 4 dL_acts_341 rfl rfl ?_
          refine Z_iload_n hk 7 dL_acts_342 rfl rfl ?_
          refine Z_iload hk 8 dL_acts_343 rfl ?_
          refine Z_bipush hk dL_acts_345 zc_bipush_64 ?_
          refine Z_idiv hk dL_acts_347 (by decide) ?_
          refine Z_iconst hk dL_acts_348 zc_iconst_4 ?_
          refine Z_irem hk dL_acts_349 (by decide) ?_
          obtain ⟨x40, s41, h42, h⟩ := br_ok h
          refine ZX_callV 2 hk [.int a3, .int ((a4 / 64) - (a4 / 64) / 4 * 4)] (c_X7_copy hk.loc hk.inj hfl F a0 a3 ((a4 / 64) - (a4 / 64) / 4 * 4) ha0 s37 h42) gL_acts_X7_copy rfl ⟨rfl, by decide +kernel, by decide +kernel, by decide +kernel⟩ ⟨Nat.le_of_ble_eq_true rfl, Nat.le_of_ble_eq_true rfl⟩ ha0.cell.1 (ha0.cell.2 _) rfl rfl rfl (Nat.le_of_ble_eq_true rfl) ⟨by show 0 + 2 ≤ 4; omega, by show 0 + 12 ≤ 24; omega⟩ dL_acts_350 (fun X hX => by cases hX) (fun v hv => ?_)
          cases hv
          show Z K 2 12 353 [(9, .int x11), (8, .int x8), (7, .int x4), (5, .long x1), (0, .ref (eA (kZ K) a0)), (1, .ref (eA (kZ K) a1)), (2, .int a2), (3, .int a3), (4, .int a4)] [] s41
          refine Z_iconst hk dL_acts_353 zc_iconst_1 ?_
          cases h
          exact ZG_zret hk (by decide) hq ⟨by show 2 + 0 ≤ 4; omega, by show 12 + 0 ≤ 24; omega⟩ dL_acts_354
        · have h := if_no h c36
          refine Z_iload_n hk 6 dL_acts_355 rfl rfl ?_
          refine Z_iconst hk dL_acts_356 zc_iconst_4 ?_
          refine Z_icmp_ne hk (tgt := 481) dL_acts_357 (by decide) (fun c43 => ?_) (fun c43 => ?_)
          · have h := if_yes h c43
            refine Z_iconst hk dL_acts_360 zc_iconst_0 ?_
            refine Z_istore hk (lv' := [(10, .int 0), (9, .int x11), (8, .int x8), (7, .int x4), (5, .long x1), (0, .ref (eA (kZ K) a0)), (1, .ref (eA (kZ K) a1)), (2, .int a2), (3, .int a3), (4, .int a4)]) dL_acts_361 (by decide) rfl ?_
            refine Z_iconst hk dL_acts_363 zc_iconst_0 ?_
            refine Z_istore hk (lv' := [(11, .int 0), (10, .int 0), (9, .int x11), (8, .int x8), (7, .int x4), (5, .long x1), (0, .ref (eA (kZ K) a0)), (1, .ref (eA (kZ K) a1)), (2, .int a2), (3, .int a3), (4, .int a4)]) dL_acts_364 (by decide) rfl ?_
            refine Z_sub [6, 7, 9, 5, 4, 1, 0] rfl ?_
            exact w_L_acts_366 hk hfl hnx hq hw 0 0 (by omega) (by omega) F F a0 a1 a3 x1 x4 0 0 ha0 ha1 s5 h
          · have h := if_no h c43
            refine Z_iload hk 1 dL_acts_481 rfl ?_
            refine Z_iload hk 0 dL_acts_483 rfl ?_
            refine Z_icmp_ne hk (tgt := 498) dL_acts_485 (by decide) (fun c44 => ?_) (fun c44 => ?_)
            · have h := if_yes h c44
              refine Z_iload hk 1 dL_acts_488 rfl ?_
              refine Z_iconst hk dL_acts_490 zc_iconst_1 ?_
              refine Z_iadd hk dL_acts_491 ?_
              refine Z_iload hk 2 dL_acts_492 rfl ?_
              obtain ⟨z45, h⟩ := gd_some h
              refine Z_irem hk dL_acts_494 z45 ?_
              refine Z_goto hk (tgt := 500) dL_acts_495 (by decide) ?_
              refine Z_sub [4, 5, 7, 1] rfl ?_
              exact w_L_acts_500 hk hfl hnx hq hw 0 0 (by omega) (by omega) F a0 a1 a3 x8 ((x8 + 1) - (x8 + 1) / x4 * x4) ha0 ha1 s5 h
            · have h := if_no h c44
              refine Z_iload hk 0 dL_acts_498 rfl ?_
              refine Z_sub [4, 5, 7, 1] rfl ?_
              exact w_L_acts_500 hk hfl hnx hq hw 0 0 (by omega) (by omega) F a0 a1 a3 x8 x11 ha0 ha1 s5 h
theorem c_L_acts {l : Launch} {E : zE} (hL : eL E) (hJ : eJ E) (hfl : l.stackTraces = false) (F w : Nat) (hw : eN E = w) (a0 : Nat) (a1 : Nat) (a2 : Int32) (a3 : Int32) (a4 : Int32) (ha0 : atCanonCote E a0) (ha1 : aJ E a1 4) (σ : zST) {r0 : Int32} {τ0 : zST} (h : m_L_acts F w a0 a1 a2 a3 a4 σ = some (r0, τ0)) : CtX l yL_acts wsL_acts r_L_acts E [.ref (eA E a0), .ref (eA E a1), .int a2, .int a3, .int a4] σ (.inr (some (.int r0))) τ0 := by
  refine CtX_of (by decide) rfl hL hJ (Nat.le_of_ble_eq_true rfl) (fun K hE hl hk hnx hq => ?_)
  subst hE
  subst hl
  exact w_L_acts hk hfl hnx (zQG.of hq) hw F a0 a1 a2 a3 a4 ha0 ha1 σ h
end

-- CanonCoteLaw.isGroup (LCanonCote;[JII)Z
section
theorem dL_isGroup_0 : decode cL_isGroup 0 = .ok (.iload_n 3, 1) := by decide +kernel
theorem dL_isGroup_1 : decode cL_isGroup 1 = .ok (.bipush 48, 2) := by decide +kernel
theorem dL_isGroup_3 : decode cL_isGroup 3 = .ok (.irem, 1) := by decide +kernel
theorem dL_isGroup_4 : decode cL_isGroup 4 = .ok (.invokestatic 138, 3) := by decide +kernel
theorem dL_isGroup_7 : decode cL_isGroup 7 = .ok (.lstore 4, 2) := by decide +kernel
theorem dL_isGroup_9 : decode cL_isGroup 9 = .ok (.iconst 0, 1) := by decide +kernel
theorem dL_isGroup_10 : decode cL_isGroup 10 = .ok (.istore 6, 2) := by decide +kernel
theorem dL_isGroup_12 : decode cL_isGroup 12 = .ok (.iconst 0, 1) := by decide +kernel
theorem dL_isGroup_13 : decode cL_isGroup 13 = .ok (.istore 7, 2) := by decide +kernel
theorem dL_isGroup_15 : decode cL_isGroup 15 = .ok (.iconst 0, 1) := by decide +kernel
theorem dL_isGroup_16 : decode cL_isGroup 16 = .ok (.istore 8, 2) := by decide +kernel
theorem dL_isGroup_18 : decode cL_isGroup 18 = .ok (.iload_n 3, 1) := by decide +kernel
theorem dL_isGroup_19 : decode cL_isGroup 19 = .ok (.sipush 256, 3) := by decide +kernel
theorem dL_isGroup_22 : decode cL_isGroup 22 = .ok (.irem, 1) := by decide +kernel
theorem dL_isGroup_23 : decode cL_isGroup 23 = .ok (.istore 9, 2) := by decide +kernel
theorem dL_isGroup_25 : decode cL_isGroup 25 = .ok (.iconst 0, 1) := by decide +kernel
theorem dL_isGroup_26 : decode cL_isGroup 26 = .ok (.istore 10, 2) := by decide +kernel
theorem dL_isGroup_28 : decode cL_isGroup 28 = .ok (.iload 10, 2) := by decide +kernel
theorem dL_isGroup_30 : decode cL_isGroup 30 = .ok (.iload_n 2, 1) := by decide +kernel
theorem dL_isGroup_31 : decode cL_isGroup 31 = .ok (.if_icmp .ge 130, 3) := by decide +kernel
theorem dL_isGroup_34 : decode cL_isGroup 34 = .ok (.iload 6, 2) := by decide +kernel
theorem dL_isGroup_36 : decode cL_isGroup 36 = .ok (.ifCond .ne 13, 3) := by decide +kernel
theorem dL_isGroup_39 : decode cL_isGroup 39 = .ok (.aload_n 1, 1) := by decide +kernel
theorem dL_isGroup_40 : decode cL_isGroup 40 = .ok (.iload 10, 2) := by decide +kernel
theorem dL_isGroup_42 : decode cL_isGroup 42 = .ok (.laload, 1) := by decide +kernel
theorem dL_isGroup_43 : decode cL_isGroup 43 = .ok (.lload 4, 2) := by decide +kernel
theorem dL_isGroup_45 : decode cL_isGroup 45 = .ok (.lcmp, 1) := by decide +kernel
theorem dL_isGroup_46 : decode cL_isGroup 46 = .ok (.ifCond .ne 7, 3) := by decide +kernel
theorem dL_isGroup_49 : decode cL_isGroup 49 = .ok (.iconst 1, 1) := by decide +kernel
theorem dL_isGroup_50 : decode cL_isGroup 50 = .ok (.goto 4, 3) := by decide +kernel
theorem dL_isGroup_53 : decode cL_isGroup 53 = .ok (.iconst 0, 1) := by decide +kernel
theorem dL_isGroup_54 : decode cL_isGroup 54 = .ok (.istore 6, 2) := by decide +kernel
theorem dL_isGroup_56 : decode cL_isGroup 56 = .ok (.iload 7, 2) := by decide +kernel
theorem dL_isGroup_58 : decode cL_isGroup 58 = .ok (.iconst 1, 1) := by decide +kernel
theorem dL_isGroup_59 : decode cL_isGroup 59 = .ok (.aload_n 1, 1) := by decide +kernel
theorem dL_isGroup_60 : decode cL_isGroup 60 = .ok (.iload 10, 2) := by decide +kernel
theorem dL_isGroup_62 : decode cL_isGroup 62 = .ok (.laload, 1) := by decide +kernel
theorem dL_isGroup_63 : decode cL_isGroup 63 = .ok (.iconst 4, 1) := by decide +kernel
theorem dL_isGroup_64 : decode cL_isGroup 64 = .ok (.iload_n 3, 1) := by decide +kernel
theorem dL_isGroup_65 : decode cL_isGroup 65 = .ok (.bipush 8, 2) := by decide +kernel
theorem dL_isGroup_67 : decode cL_isGroup 67 = .ok (.irem, 1) := by decide +kernel
theorem dL_isGroup_68 : decode cL_isGroup 68 = .ok (.imul, 1) := by decide +kernel
theorem dL_isGroup_69 : decode cL_isGroup 69 = .ok (.lshr, 1) := by decide +kernel
theorem dL_isGroup_70 : decode cL_isGroup 70 = .ok (.ldc2_w 134, 3) := by decide +kernel
theorem dL_isGroup_73 : decode cL_isGroup 73 = .ok (.land, 1) := by decide +kernel
theorem dL_isGroup_74 : decode cL_isGroup 74 = .ok (.l2i, 1) := by decide +kernel
theorem dL_isGroup_75 : decode cL_isGroup 75 = .ok (.ishl, 1) := by decide +kernel
theorem dL_isGroup_76 : decode cL_isGroup 76 = .ok (.ior, 1) := by decide +kernel
theorem dL_isGroup_77 : decode cL_isGroup 77 = .ok (.istore 7, 2) := by decide +kernel
theorem dL_isGroup_79 : decode cL_isGroup 79 = .ok (.iconst 1, 1) := by decide +kernel
theorem dL_isGroup_80 : decode cL_isGroup 80 = .ok (.istore 11, 2) := by decide +kernel
theorem dL_isGroup_82 : decode cL_isGroup 82 = .ok (.iconst 0, 1) := by decide +kernel
theorem dL_isGroup_83 : decode cL_isGroup 83 = .ok (.istore 12, 2) := by decide +kernel
theorem dL_isGroup_85 : decode cL_isGroup 85 = .ok (.iload 12, 2) := by decide +kernel
theorem dL_isGroup_87 : decode cL_isGroup 87 = .ok (.bipush 8, 2) := by decide +kernel
theorem dL_isGroup_89 : decode cL_isGroup 89 = .ok (.if_icmp .ge 51, 3) := by decide +kernel
theorem dL_isGroup_92 : decode cL_isGroup 92 = .ok (.iload 11, 2) := by decide +kernel
theorem dL_isGroup_94 : decode cL_isGroup 94 = .ok (.ifCond .eq 37, 3) := by decide +kernel
theorem dL_isGroup_97 : decode cL_isGroup 97 = .ok (.iload 9, 2) := by decide +kernel
theorem dL_isGroup_99 : decode cL_isGroup 99 = .ok (.iload 12, 2) := by decide +kernel
theorem dL_isGroup_101 : decode cL_isGroup 101 = .ok (.ishr, 1) := by decide +kernel
theorem dL_isGroup_102 : decode cL_isGroup 102 = .ok (.iconst 1, 1) := by decide +kernel
theorem dL_isGroup_103 : decode cL_isGroup 103 = .ok (.iand, 1) := by decide +kernel
theorem dL_isGroup_104 : decode cL_isGroup 104 = .ok (.ifCond .eq 23, 3) := by decide +kernel
theorem dL_isGroup_107 : decode cL_isGroup 107 = .ok (.aload_n 1, 1) := by decide +kernel
theorem dL_isGroup_108 : decode cL_isGroup 108 = .ok (.iload 10, 2) := by decide +kernel
theorem dL_isGroup_110 : decode cL_isGroup 110 = .ok (.laload, 1) := by decide +kernel
theorem dL_isGroup_111 : decode cL_isGroup 111 = .ok (.iconst 4, 1) := by decide +kernel
theorem dL_isGroup_112 : decode cL_isGroup 112 = .ok (.iload 12, 2) := by decide +kernel
theorem dL_isGroup_114 : decode cL_isGroup 114 = .ok (.imul, 1) := by decide +kernel
theorem dL_isGroup_115 : decode cL_isGroup 115 = .ok (.lshr, 1) := by decide +kernel
theorem dL_isGroup_116 : decode cL_isGroup 116 = .ok (.ldc2_w 134, 3) := by decide +kernel
theorem dL_isGroup_119 : decode cL_isGroup 119 = .ok (.land, 1) := by decide +kernel
theorem dL_isGroup_120 : decode cL_isGroup 120 = .ok (.iload 12, 2) := by decide +kernel
theorem dL_isGroup_122 : decode cL_isGroup 122 = .ok (.i2l, 1) := by decide +kernel
theorem dL_isGroup_123 : decode cL_isGroup 123 = .ok (.lcmp, 1) := by decide +kernel
theorem dL_isGroup_124 : decode cL_isGroup 124 = .ok (.ifCond .ne 7, 3) := by decide +kernel
theorem dL_isGroup_127 : decode cL_isGroup 127 = .ok (.iconst 1, 1) := by decide +kernel
theorem dL_isGroup_128 : decode cL_isGroup 128 = .ok (.goto 4, 3) := by decide +kernel
theorem dL_isGroup_131 : decode cL_isGroup 131 = .ok (.iconst 0, 1) := by decide +kernel
theorem dL_isGroup_132 : decode cL_isGroup 132 = .ok (.istore 11, 2) := by decide +kernel
theorem dL_isGroup_134 : decode cL_isGroup 134 = .ok (.iinc 12 1, 3) := by decide +kernel
theorem dL_isGroup_137 : decode cL_isGroup 137 = .ok (.goto (-52), 3) := by decide +kernel
theorem dL_isGroup_140 : decode cL_isGroup 140 = .ok (.iload 8, 2) := by decide +kernel
theorem dL_isGroup_142 : decode cL_isGroup 142 = .ok (.iload 11, 2) := by decide +kernel
theorem dL_isGroup_144 : decode cL_isGroup 144 = .ok (.ifCond .eq 7, 3) := by decide +kernel
theorem dL_isGroup_147 : decode cL_isGroup 147 = .ok (.iconst 1, 1) := by decide +kernel
theorem dL_isGroup_148 : decode cL_isGroup 148 = .ok (.goto 4, 3) := by decide +kernel
theorem dL_isGroup_151 : decode cL_isGroup 151 = .ok (.iconst 0, 1) := by decide +kernel
theorem dL_isGroup_152 : decode cL_isGroup 152 = .ok (.iadd, 1) := by decide +kernel
theorem dL_isGroup_153 : decode cL_isGroup 153 = .ok (.istore 8, 2) := by decide +kernel
theorem dL_isGroup_155 : decode cL_isGroup 155 = .ok (.iinc 10 1, 3) := by decide +kernel
theorem dL_isGroup_158 : decode cL_isGroup 158 = .ok (.goto (-130), 3) := by decide +kernel
theorem dL_isGroup_161 : decode cL_isGroup 161 = .ok (.aload_n 0, 1) := by decide +kernel
theorem dL_isGroup_162 : decode cL_isGroup 162 = .ok (.invokevirtual 145, 3) := by decide +kernel
theorem dL_isGroup_165 : decode cL_isGroup 165 = .ok (.iload_n 2, 1) := by decide +kernel
theorem dL_isGroup_166 : decode cL_isGroup 166 = .ok (.if_icmp .ne 42, 3) := by decide +kernel
theorem dL_isGroup_169 : decode cL_isGroup 169 = .ok (.aload_n 0, 1) := by decide +kernel
theorem dL_isGroup_170 : decode cL_isGroup 170 = .ok (.lload 4, 2) := by decide +kernel
theorem dL_isGroup_172 : decode cL_isGroup 172 = .ok (.invokevirtual 149, 3) := by decide +kernel
theorem dL_isGroup_175 : decode cL_isGroup 175 = .ok (.iload 6, 2) := by decide +kernel
theorem dL_isGroup_177 : decode cL_isGroup 177 = .ok (.if_icmp .ne 31, 3) := by decide +kernel
theorem dL_isGroup_180 : decode cL_isGroup 180 = .ok (.aload_n 0, 1) := by decide +kernel
theorem dL_isGroup_181 : decode cL_isGroup 181 = .ok (.iload_n 3, 1) := by decide +kernel
theorem dL_isGroup_182 : decode cL_isGroup 182 = .ok (.bipush 8, 2) := by decide +kernel
theorem dL_isGroup_184 : decode cL_isGroup 184 = .ok (.irem, 1) := by decide +kernel
theorem dL_isGroup_185 : decode cL_isGroup 185 = .ok (.invokevirtual 153, 3) := by decide +kernel
theorem dL_isGroup_188 : decode cL_isGroup 188 = .ok (.iload 7, 2) := by decide +kernel
theorem dL_isGroup_190 : decode cL_isGroup 190 = .ok (.if_icmp .ne 18, 3) := by decide +kernel
theorem dL_isGroup_193 : decode cL_isGroup 193 = .ok (.aload_n 0, 1) := by decide +kernel
theorem dL_isGroup_194 : decode cL_isGroup 194 = .ok (.iload 9, 2) := by decide +kernel
theorem dL_isGroup_196 : decode cL_isGroup 196 = .ok (.invokevirtual 156, 3) := by decide +kernel
theorem dL_isGroup_199 : decode cL_isGroup 199 = .ok (.iload 8, 2) := by decide +kernel
theorem dL_isGroup_201 : decode cL_isGroup 201 = .ok (.if_icmp .ne 7, 3) := by decide +kernel
theorem dL_isGroup_204 : decode cL_isGroup 204 = .ok (.iconst 1, 1) := by decide +kernel
theorem dL_isGroup_205 : decode cL_isGroup 205 = .ok (.goto 4, 3) := by decide +kernel
theorem dL_isGroup_208 : decode cL_isGroup 208 = .ok (.iconst 0, 1) := by decide +kernel
theorem dL_isGroup_209 : decode cL_isGroup 209 = .ok (.ireturn, 1) := by decide +kernel
set_option maxRecDepth 20000 in
theorem ggL_isGroup_L_told : GoodIn wsL_isGroup wsL_told := goodIn_r _ [5, 6, 7, 8, 9, 4, 10, 11, 12, 13] (by decide +kernel) (by decide +kernel)
set_option maxRecDepth 20000 in
theorem gL_isGroup_L_told : GoodIn wsL_isGroup (va_wsS RL 138 yL_told wsL_told) := goodIn_app (goodIn_of _ (by decide +kernel)) ggL_isGroup_L_told
set_option maxRecDepth 20000 in
theorem ggL_isGroup_X7_order : GoodIn wsL_isGroup wsX7_order := goodIn_r _ [18, 19, 114, 115, 116, 117, 118, 119, 120, 121, 122, 123, 124, 125, 126, 127, 128, 129] (by decide +kernel) (by decide +kernel)
set_option maxRecDepth 20000 in
theorem gL_isGroup_X7_order : GoodIn wsL_isGroup (wsV RL 145 RX7 yX7_order wsX7_order) := goodIn_app (goodIn_of _ (by decide +kernel)) ggL_isGroup_X7_order
set_option maxRecDepth 20000 in
theorem ggL_isGroup_X7_isInGroup : GoodIn wsL_isGroup wsX7_isInGroup := goodIn_ca (goodIn_r _ [23, 19, 24, 25, 17, 26, 27, 28, 29, 30, 31, 32, 33, 34, 35, 36, 37, 38, 39, 40, 41, 42, 43, 44, 45, 46, 47, 48, 49, 50, 51, 114, 115, 116, 117, 118, 119, 120, 121, 122, 123, 124, 125, 126, 127, 128, 129] (by decide +kernel) (by decide +kernel)) (goodIn_sub (fun _ h => List.mem_cons_of_mem _ (List.mem_append_left _ (List.mem_append_right _ h))) (by decide +kernel))
set_option maxRecDepth 20000 in
theorem gL_isGroup_X7_isInGroup : GoodIn wsL_isGroup (wsV RL 149 RX7 yX7_isInGroup wsX7_isInGroup) := goodIn_app (goodIn_of _ (by decide +kernel)) ggL_isGroup_X7_isInGroup
set_option maxRecDepth 20000 in
theorem ggL_isGroup_X7_moves : GoodIn wsL_isGroup wsX7_moves := goodIn_ca (goodIn_r _ [55, 56, 57, 19, 58, 59, 60, 61, 62, 63, 64, 65, 66, 67, 17, 68, 44, 30, 45, 114, 115, 116, 117, 118, 119, 120, 121, 122, 123] (by decide +kernel) (by decide +kernel)) (goodIn_sub (fun _ h => List.mem_cons_of_mem _ (List.mem_append_right _ h)) (by decide +kernel))
set_option maxRecDepth 20000 in
theorem gL_isGroup_X7_moves : GoodIn wsL_isGroup (wsV RL 153 RX7 yX7_moves wsX7_moves) := goodIn_app (goodIn_of _ (by decide +kernel)) ggL_isGroup_X7_moves
set_option maxRecDepth 20000 in
theorem ggL_isGroup_X7_fixing : GoodIn wsL_isGroup wsX7_fixing := goodIn_ca (goodIn_r _ [72, 27, 28, 19, 73, 59, 74, 75, 76, 62, 63, 77, 78, 34, 79, 80, 81, 82, 43, 42, 37, 83, 84, 85, 86, 87, 88, 89, 90, 91, 92, 93, 94, 67, 17, 68, 95, 96, 97, 98, 99, 100, 101, 102, 38, 39, 40, 41, 44, 30, 45, 46, 47, 48, 49, 50, 51, 103, 104, 105, 106, 107, 108, 109, 110, 111, 112, 113, 114, 115, 116, 117, 118, 119, 120, 121, 122, 123, 124, 125, 126, 127, 128, 129] (by decide +kernel) (by decide +kernel)) (goodIn_sub (fun _ h => List.mem_cons_of_mem _ (List.mem_append_left _ (List.mem_append_right _ h))) (by decide +kernel))
set_option maxRecDepth 20000 in
theorem gL_isGroup_X7_fixing : GoodIn wsL_isGroup (wsV RL 156 RX7 yX7_fixing wsX7_fixing) := goodIn_app (goodIn_of _ (by decide +kernel)) ggL_isGroup_X7_fixing
theorem wd_L_isGroup_0 : Cond.constantLong RL 134 15 ∈ wsL_isGroup := by decide +kernel
def r_L_isGroup : Room := { frames := 8, cells := 3, slots := 18, locals := 182 }
set_option maxRecDepth 100000 in
set_option maxHeartbeats 4000000 in
theorem w_L_isGroup_132 {K : zK} {w : Nat} (hk : zIs K RL cL_isGroup 13 wsL_isGroup (some .boolean) r_L_isGroup) (hfl : (kL K).stackTraces = false) (hnx : zNX K) {r0 : Int32} {τ0 : zST} (hq : zQG K (.inr (some (.int r0))) τ0) (hw : eN (kZ K) = w) (cs ss : Nat) (hb1 : cs + 0 ≤ 3) (hb2 : ss + 0 ≤ 18) (F : Nat) (k28 : Nat → Nat → Int32 → Int32 → Int64 → Int32 → Int32 → Int32 → Int32 → Int32 → zST → Option (Int32 × zST)) (hk28 : ∀ (a0 : Nat) (a1 : Nat) (a2 : Int32) (a3 : Int32) (a4 : Int64) (a6 : Int32) (a7 : Int32) (a8 : Int32) (a9 : Int32) (a10 : Int32) (ha0 : atCanonCote (kZ K) a0) (ha1 : aJ (kZ K) a1 64) (σ : zST), k28 a0 a1 a2 a3 a4 a6 a7 a8 a9 a10 σ = some (r0, τ0) → Z K cs ss 28 [(0, .ref (eA (kZ K) a0)), (1, .ref (eA (kZ K) a1)), (2, .int a2), (3, .int a3), (4, .long a4), (6, .int a6), (7, .int a7), (8, .int a8), (9, .int a9), (10, .int a10)] [] σ) (k85 : Nat → Nat → Int32 → Int32 → Int64 → Int32 → Int32 → Int32 → Int32 → Int32 → Int32 → Int32 → zST → Option (Int32 × zST)) (hk85 : ∀ (a0 : Nat) (a1 : Nat) (a2 : Int32) (a3 : Int32) (a4 : Int64) (a6 : Int32) (a7 : Int32) (a8 : Int32) (a9 : Int32) (a10 : Int32) (a11 : Int32) (a12 : Int32) (ha0 : atCanonCote (kZ K) a0) (ha1 : aJ (kZ K) a1 64) (σ : zST), k85 a0 a1 a2 a3 a4 a6 a7 a8 a9 a10 a11 a12 σ = some (r0, τ0) → Z K cs ss 85 [(0, .ref (eA (kZ K) a0)), (1, .ref (eA (kZ K) a1)), (2, .int a2), (3, .int a3), (4, .long a4), (6, .int a6), (7, .int a7), (8, .int a8), (9, .int a9), (10, .int a10), (11, .int a11), (12, .int a12)] [] σ) (a0 : Nat) (a1 : Nat) (a2 : Int32) (a3 : Int32) (a4 : Int64) (a6 : Int32) (a7 : Int32) (a8 : Int32) (a9 : Int32) (a10 : Int32) (a12 : Int32) (t0 : Int32) (ha0 : atCanonCote (kZ K) a0) (ha1 : aJ (kZ K) a1 64) (σ : zST) (h : m_L_isGroup_132 F w k28 k85 a0 a1 a2 a3 a4 a6 a7 a8 a9 a10 a12 t0 σ = some (r0, τ0)) : Z K cs ss 132 [(0, .ref (eA (kZ K) a0)), (1, .ref (eA (kZ K) a1)), (2, .int a2), (3, .int a3), (4, .long a4), (6, .int a6), (7, .int a7), (8, .int a8), (9, .int a9), (10, .int a10), (12, .int a12)] [.int t0] σ := by
  unfold m_L_isGroup_132 at h
  refine Z_istore hk (lv' := [(11, .int t0), (0, .ref (eA (kZ K) a0)), (1, .ref (eA (kZ K) a1)), (2, .int a2), (3, .int a3), (4, .long a4), (6, .int a6), (7, .int a7), (8, .int a8), (9, .int a9), (10, .int a10), (12, .int a12)]) dL_isGroup_132 (by decide) rfl ?_
  obtain ⟨x45, e46, h⟩ := nm_get h
  refine Z_iinc hk 11 (v := x45) (lv' := [(12, .int x45), (11, .int t0), (0, .ref (eA (kZ K) a0)), (1, .ref (eA (kZ K) a1)), (2, .int a2), (3, .int a3), (4, .long a4), (6, .int a6), (7, .int a7), (8, .int a8), (9, .int a9), (10, .int a10)]) dL_isGroup_134 rfl (by rw [zc_iinc_1]; exact e46) (by decide) rfl ?_
  refine Z_goto hk (tgt := 85) dL_isGroup_137 (by decide) ?_
  refine Z_sub [2, 3, 4, 5, 6, 7, 8, 9, 10, 11, 1, 0] rfl ?_
  exact hk85 a0 a1 a2 a3 a4 a6 a7 a8 a9 a10 t0 x45 ha0 ha1 σ h
set_option maxRecDepth 100000 in
set_option maxHeartbeats 4000000 in
theorem w_L_isGroup_127 {K : zK} {w : Nat} (hk : zIs K RL cL_isGroup 13 wsL_isGroup (some .boolean) r_L_isGroup) (hfl : (kL K).stackTraces = false) (hnx : zNX K) {r0 : Int32} {τ0 : zST} (hq : zQG K (.inr (some (.int r0))) τ0) (hw : eN (kZ K) = w) (cs ss : Nat) (hb1 : cs + 0 ≤ 3) (hb2 : ss + 0 ≤ 18) (F : Nat) (k28 : Nat → Nat → Int32 → Int32 → Int64 → Int32 → Int32 → Int32 → Int32 → Int32 → zST → Option (Int32 × zST)) (hk28 : ∀ (a0 : Nat) (a1 : Nat) (a2 : Int32) (a3 : Int32) (a4 : Int64) (a6 : Int32) (a7 : Int32) (a8 : Int32) (a9 : Int32) (a10 : Int32) (ha0 : atCanonCote (kZ K) a0) (ha1 : aJ (kZ K) a1 64) (σ : zST), k28 a0 a1 a2 a3 a4 a6 a7 a8 a9 a10 σ = some (r0, τ0) → Z K cs ss 28 [(0, .ref (eA (kZ K) a0)), (1, .ref (eA (kZ K) a1)), (2, .int a2), (3, .int a3), (4, .long a4), (6, .int a6), (7, .int a7), (8, .int a8), (9, .int a9), (10, .int a10)] [] σ) (k85 : Nat → Nat → Int32 → Int32 → Int64 → Int32 → Int32 → Int32 → Int32 → Int32 → Int32 → Int32 → zST → Option (Int32 × zST)) (hk85 : ∀ (a0 : Nat) (a1 : Nat) (a2 : Int32) (a3 : Int32) (a4 : Int64) (a6 : Int32) (a7 : Int32) (a8 : Int32) (a9 : Int32) (a10 : Int32) (a11 : Int32) (a12 : Int32) (ha0 : atCanonCote (kZ K) a0) (ha1 : aJ (kZ K) a1 64) (σ : zST), k85 a0 a1 a2 a3 a4 a6 a7 a8 a9 a10 a11 a12 σ = some (r0, τ0) → Z K cs ss 85 [(0, .ref (eA (kZ K) a0)), (1, .ref (eA (kZ K) a1)), (2, .int a2), (3, .int a3), (4, .long a4), (6, .int a6), (7, .int a7), (8, .int a8), (9, .int a9), (10, .int a10), (11, .int a11), (12, .int a12)] [] σ) (a0 : Nat) (a1 : Nat) (a2 : Int32) (a3 : Int32) (a4 : Int64) (a6 : Int32) (a7 : Int32) (a8 : Int32) (a9 : Int32) (a10 : Int32) (a12 : Int32) (ha0 : atCanonCote (kZ K) a0) (ha1 : aJ (kZ K) a1 64) (σ : zST) (h : m_L_isGroup_127 F w k28 k85 a0 a1 a2 a3 a4 a6 a7 a8 a9 a10 a12 σ = some (r0, τ0)) : Z K cs ss 127 [(0, .ref (eA (kZ K) a0)), (1, .ref (eA (kZ K) a1)), (2, .int a2), (3, .int a3), (4, .long a4), (6, .int a6), (7, .int a7), (8, .int a8), (9, .int a9), (10, .int a10), (12, .int a12)] [] σ := by
  unfold m_L_isGroup_127 at h
  refine Z_iconst hk dL_isGroup_127 zc_iconst_1 ?_
  refine Z_goto hk (tgt := 132) dL_isGroup_128 (by decide) ?_
  refine Z_sub [0, 1, 2, 3, 4, 5, 6, 7, 8, 9, 10] rfl ?_
  exact w_L_isGroup_132 hk hfl hnx hq hw cs ss (by omega) (by omega) F k28 hk28 k85 hk85 a0 a1 a2 a3 a4 a6 a7 a8 a9 a10 a12 1 ha0 ha1 σ h
set_option maxRecDepth 100000 in
set_option maxHeartbeats 4000000 in
theorem w_L_isGroup_131 {K : zK} {w : Nat} (hk : zIs K RL cL_isGroup 13 wsL_isGroup (some .boolean) r_L_isGroup) (hfl : (kL K).stackTraces = false) (hnx : zNX K) {r0 : Int32} {τ0 : zST} (hq : zQG K (.inr (some (.int r0))) τ0) (hw : eN (kZ K) = w) (cs ss : Nat) (hb1 : cs + 0 ≤ 3) (hb2 : ss + 0 ≤ 18) (F : Nat) (k28 : Nat → Nat → Int32 → Int32 → Int64 → Int32 → Int32 → Int32 → Int32 → Int32 → zST → Option (Int32 × zST)) (hk28 : ∀ (a0 : Nat) (a1 : Nat) (a2 : Int32) (a3 : Int32) (a4 : Int64) (a6 : Int32) (a7 : Int32) (a8 : Int32) (a9 : Int32) (a10 : Int32) (ha0 : atCanonCote (kZ K) a0) (ha1 : aJ (kZ K) a1 64) (σ : zST), k28 a0 a1 a2 a3 a4 a6 a7 a8 a9 a10 σ = some (r0, τ0) → Z K cs ss 28 [(0, .ref (eA (kZ K) a0)), (1, .ref (eA (kZ K) a1)), (2, .int a2), (3, .int a3), (4, .long a4), (6, .int a6), (7, .int a7), (8, .int a8), (9, .int a9), (10, .int a10)] [] σ) (k85 : Nat → Nat → Int32 → Int32 → Int64 → Int32 → Int32 → Int32 → Int32 → Int32 → Int32 → Int32 → zST → Option (Int32 × zST)) (hk85 : ∀ (a0 : Nat) (a1 : Nat) (a2 : Int32) (a3 : Int32) (a4 : Int64) (a6 : Int32) (a7 : Int32) (a8 : Int32) (a9 : Int32) (a10 : Int32) (a11 : Int32) (a12 : Int32) (ha0 : atCanonCote (kZ K) a0) (ha1 : aJ (kZ K) a1 64) (σ : zST), k85 a0 a1 a2 a3 a4 a6 a7 a8 a9 a10 a11 a12 σ = some (r0, τ0) → Z K cs ss 85 [(0, .ref (eA (kZ K) a0)), (1, .ref (eA (kZ K) a1)), (2, .int a2), (3, .int a3), (4, .long a4), (6, .int a6), (7, .int a7), (8, .int a8), (9, .int a9), (10, .int a10), (11, .int a11), (12, .int a12)] [] σ) (a0 : Nat) (a1 : Nat) (a2 : Int32) (a3 : Int32) (a4 : Int64) (a6 : Int32) (a7 : Int32) (a8 : Int32) (a9 : Int32) (a10 : Int32) (a12 : Int32) (ha0 : atCanonCote (kZ K) a0) (ha1 : aJ (kZ K) a1 64) (σ : zST) (h : m_L_isGroup_131 F w k28 k85 a0 a1 a2 a3 a4 a6 a7 a8 a9 a10 a12 σ = some (r0, τ0)) : Z K cs ss 131 [(0, .ref (eA (kZ K) a0)), (1, .ref (eA (kZ K) a1)), (2, .int a2), (3, .int a3), (4, .long a4), (6, .int a6), (7, .int a7), (8, .int a8), (9, .int a9), (10, .int a10), (12, .int a12)] [] σ := by
  unfold m_L_isGroup_131 at h
  refine Z_iconst hk dL_isGroup_131 zc_iconst_0 ?_
  refine Z_sub [0, 1, 2, 3, 4, 5, 6, 7, 8, 9, 10] rfl ?_
  exact w_L_isGroup_132 hk hfl hnx hq hw cs ss (by omega) (by omega) F k28 hk28 k85 hk85 a0 a1 a2 a3 a4 a6 a7 a8 a9 a10 a12 0 ha0 ha1 σ h
set_option maxRecDepth 100000 in
set_option maxHeartbeats 4000000 in
theorem w_L_isGroup_152 {K : zK} {w : Nat} (hk : zIs K RL cL_isGroup 13 wsL_isGroup (some .boolean) r_L_isGroup) (hfl : (kL K).stackTraces = false) (hnx : zNX K) {r0 : Int32} {τ0 : zST} (hq : zQG K (.inr (some (.int r0))) τ0) (hw : eN (kZ K) = w) (cs ss : Nat) (hb1 : cs + 0 ≤ 3) (hb2 : ss + 0 ≤ 18) (F : Nat) (k28 : Nat → Nat → Int32 → Int32 → Int64 → Int32 → Int32 → Int32 → Int32 → Int32 → zST → Option (Int32 × zST)) (hk28 : ∀ (a0 : Nat) (a1 : Nat) (a2 : Int32) (a3 : Int32) (a4 : Int64) (a6 : Int32) (a7 : Int32) (a8 : Int32) (a9 : Int32) (a10 : Int32) (ha0 : atCanonCote (kZ K) a0) (ha1 : aJ (kZ K) a1 64) (σ : zST), k28 a0 a1 a2 a3 a4 a6 a7 a8 a9 a10 σ = some (r0, τ0) → Z K cs ss 28 [(0, .ref (eA (kZ K) a0)), (1, .ref (eA (kZ K) a1)), (2, .int a2), (3, .int a3), (4, .long a4), (6, .int a6), (7, .int a7), (8, .int a8), (9, .int a9), (10, .int a10)] [] σ) (a0 : Nat) (a1 : Nat) (a2 : Int32) (a3 : Int32) (a4 : Int64) (a6 : Int32) (a7 : Int32) (a9 : Int32) (a10 : Int32) (t0 : Int32) (t1 : Int32) (ha0 : atCanonCote (kZ K) a0) (ha1 : aJ (kZ K) a1 64) (σ : zST) (h : m_L_isGroup_152 F w k28 a0 a1 a2 a3 a4 a6 a7 a9 a10 t0 t1 σ = some (r0, τ0)) : Z K cs ss 152 [(0, .ref (eA (kZ K) a0)), (1, .ref (eA (kZ K) a1)), (2, .int a2), (3, .int a3), (4, .long a4), (6, .int a6), (7, .int a7), (9, .int a9), (10, .int a10)] [.int t0, .int t1] σ := by
  unfold m_L_isGroup_152 at h
  refine Z_iadd hk dL_isGroup_152 ?_
  obtain ⟨x41, e42, h⟩ := nm_get h
  refine Z_eqI e42 ?_
  refine Z_istore hk (lv' := [(8, .int x41), (0, .ref (eA (kZ K) a0)), (1, .ref (eA (kZ K) a1)), (2, .int a2), (3, .int a3), (4, .long a4), (6, .int a6), (7, .int a7), (9, .int a9), (10, .int a10)]) dL_isGroup_153 (by decide) rfl ?_
  obtain ⟨x43, e44, h⟩ := nm_get h
  refine Z_iinc hk 9 (v := x43) (lv' := [(10, .int x43), (8, .int x41), (0, .ref (eA (kZ K) a0)), (1, .ref (eA (kZ K) a1)), (2, .int a2), (3, .int a3), (4, .long a4), (6, .int a6), (7, .int a7), (9, .int a9)]) dL_isGroup_155 rfl (by rw [zc_iinc_1]; exact e44) (by decide) rfl ?_
  refine Z_goto hk (tgt := 28) dL_isGroup_158 (by decide) ?_
  refine Z_sub [2, 3, 4, 5, 6, 7, 8, 1, 9, 0] rfl ?_
  exact hk28 a0 a1 a2 a3 a4 a6 a7 x41 a9 x43 ha0 ha1 σ h
set_option maxRecDepth 100000 in
set_option maxHeartbeats 4000000 in
theorem w_L_isGroup_85 {K : zK} {w : Nat} (hk : zIs K RL cL_isGroup 13 wsL_isGroup (some .boolean) r_L_isGroup) (hfl : (kL K).stackTraces = false) (hnx : zNX K) {r0 : Int32} {τ0 : zST} (hq : zQG K (.inr (some (.int r0))) τ0) (hw : eN (kZ K) = w) (cs ss : Nat) (hb1 : cs + 0 ≤ 3) (hb2 : ss + 0 ≤ 18) (F : Nat) (k28 : Nat → Nat → Int32 → Int32 → Int64 → Int32 → Int32 → Int32 → Int32 → Int32 → zST → Option (Int32 × zST)) (hk28 : ∀ (a0 : Nat) (a1 : Nat) (a2 : Int32) (a3 : Int32) (a4 : Int64) (a6 : Int32) (a7 : Int32) (a8 : Int32) (a9 : Int32) (a10 : Int32) (ha0 : atCanonCote (kZ K) a0) (ha1 : aJ (kZ K) a1 64) (σ : zST), k28 a0 a1 a2 a3 a4 a6 a7 a8 a9 a10 σ = some (r0, τ0) → Z K cs ss 28 [(0, .ref (eA (kZ K) a0)), (1, .ref (eA (kZ K) a1)), (2, .int a2), (3, .int a3), (4, .long a4), (6, .int a6), (7, .int a7), (8, .int a8), (9, .int a9), (10, .int a10)] [] σ) : ∀ (n : Nat) (a0 : Nat) (a1 : Nat) (a2 : Int32) (a3 : Int32) (a4 : Int64) (a6 : Int32) (a7 : Int32) (a8 : Int32) (a9 : Int32) (a10 : Int32) (a11 : Int32) (a12 : Int32) (ha0 : atCanonCote (kZ K) a0) (ha1 : aJ (kZ K) a1 64) (σ : zST), m_L_isGroup_85 F w k28 n a0 a1 a2 a3 a4 a6 a7 a8 a9 a10 a11 a12 σ = some (r0, τ0) → Z K cs ss 85 [(0, .ref (eA (kZ K) a0)), (1, .ref (eA (kZ K) a1)), (2, .int a2), (3, .int a3), (4, .long a4), (6, .int a6), (7, .int a7), (8, .int a8), (9, .int a9), (10, .int a10), (11, .int a11), (12, .int a12)] [] σ := by
  intro n
  induction n with
  | zero => intro a0 a1 a2 a3 a4 a6 a7 a8 a9 a10 a11 a12 ha0 ha1 σ h; cases h
  | succ n ih =>
    intro a0 a1 a2 a3 a4 a6 a7 a8 a9 a10 a11 a12 ha0 ha1 σ h
    rw [m_L_isGroup_85] at h
    refine Z_iload hk 11 dL_isGroup_85 rfl ?_
    refine Z_bipush hk dL_isGroup_87 zc_bipush_8 ?_
    refine Z_icmp_ge hk (tgt := 140) dL_isGroup_89 (by decide) (fun c33 => ?_) (fun c33 => ?_)
    · have h := if_yes h c33
      refine Z_iload hk 7 dL_isGroup_140 rfl ?_
      refine Z_iload hk 10 dL_isGroup_142 rfl ?_
      refine Z_if_eq hk (tgt := 151) dL_isGroup_144 (by decide) (fun c34 => ?_) (fun c34 => ?_)
      · have h := if_yes h c34
        refine Z_iconst hk dL_isGroup_151 zc_iconst_0 ?_
        refine Z_sub [0, 1, 2, 3, 4, 5, 6, 8, 9] rfl ?_
        exact w_L_isGroup_152 hk hfl hnx hq hw cs ss (by omega) (by omega) F k28 hk28 a0 a1 a2 a3 a4 a6 a7 a9 a10 0 a8 ha0 ha1 σ h
      · have h := if_no h c34
        refine Z_iconst hk dL_isGroup_147 zc_iconst_1 ?_
        refine Z_goto hk (tgt := 152) dL_isGroup_148 (by decide) ?_
        refine Z_sub [0, 1, 2, 3, 4, 5, 6, 8, 9] rfl ?_
        exact w_L_isGroup_152 hk hfl hnx hq hw cs ss (by omega) (by omega) F k28 hk28 a0 a1 a2 a3 a4 a6 a7 a9 a10 1 a8 ha0 ha1 σ h
    · have h := if_no h c33
      refine Z_iload hk 10 dL_isGroup_92 rfl ?_
      refine Z_if_eq hk (tgt := 131) dL_isGroup_94 (by decide) (fun c35 => ?_) (fun c35 => ?_)
      · have h := if_yes h c35
        refine Z_sub [0, 1, 2, 3, 4, 5, 6, 7, 8, 9, 11] rfl ?_
        exact w_L_isGroup_131 hk hfl hnx hq hw cs ss (by omega) (by omega) F k28 hk28 (m_L_isGroup_85 F w k28 n) ih a0 a1 a2 a3 a4 a6 a7 a8 a9 a10 a12 ha0 ha1 σ h
      · have h := if_no h c35
        refine Z_iload hk 8 dL_isGroup_97 rfl ?_
        refine Z_iload hk 11 dL_isGroup_99 rfl ?_
        refine Z_ishr hk dL_isGroup_101 ?_
        refine Z_iconst hk dL_isGroup_102 zc_iconst_1 ?_
        refine Z_iand hk dL_isGroup_103 ?_
        refine Z_if_eq hk (tgt := 127) dL_isGroup_104 (by decide) (fun c36 => ?_) (fun c36 => ?_)
        · have h := if_yes h c36
          refine Z_sub [0, 1, 2, 3, 4, 5, 6, 7, 8, 9, 11] rfl ?_
          exact w_L_isGroup_127 hk hfl hnx hq hw cs ss (by omega) (by omega) F k28 hk28 (m_L_isGroup_85 F w k28 n) ih a0 a1 a2 a3 a4 a6 a7 a8 a9 a10 a12 ha0 ha1 σ h
        · have h := if_no h c36
          refine Z_aload_n hk 1 dL_isGroup_107 rfl rfl ?_
          refine Z_iload hk 9 dL_isGroup_108 rfl ?_
          obtain ⟨i39, x37, e38, h⟩ := ldL_get h
          refine Z_lald hk ha1 i39 dL_isGroup_110 ?_
          refine Z_eqL e38 ?_
          refine Z_iconst hk dL_isGroup_111 zc_iconst_4 ?_
          refine Z_iload hk 11 dL_isGroup_112 rfl ?_
          refine Z_imul hk dL_isGroup_114 ?_
          refine Z_lshr hk dL_isGroup_115 ?_
          refine Z_ldc2 hk (v := 15) dL_isGroup_116 wd_L_isGroup_0 ?_
          refine Z_land hk dL_isGroup_119 ?_
          refine Z_iload hk 11 dL_isGroup_120 rfl ?_
          refine Z_i2l hk dL_isGroup_122 ?_
          refine Z_lcmp hk dL_isGroup_123 ?_
          refine Z_if_ne hk (tgt := 131) dL_isGroup_124 (by decide) (fun c40 => ?_) (fun c40 => ?_)
          · have h := if_yes h c40
            refine Z_sub [0, 1, 2, 3, 4, 5, 6, 7, 8, 9, 11] rfl ?_
            exact w_L_isGroup_127 hk hfl hnx hq hw cs ss (by omega) (by omega) F k28 hk28 (m_L_isGroup_85 F w k28 n) ih a0 a1 a2 a3 a4 a6 a7 a8 a9 a10 a12 ha0 ha1 σ h
          · have h := if_no h c40
            refine Z_sub [0, 1, 2, 3, 4, 5, 6, 7, 8, 9, 11] rfl ?_
            exact w_L_isGroup_131 hk hfl hnx hq hw cs ss (by omega) (by omega) F k28 hk28 (m_L_isGroup_85 F w k28 n) ih a0 a1 a2 a3 a4 a6 a7 a8 a9 a10 a12 ha0 ha1 σ h
set_option maxRecDepth 100000 in
set_option maxHeartbeats 4000000 in
theorem w_L_isGroup_54 {K : zK} {w : Nat} (hk : zIs K RL cL_isGroup 13 wsL_isGroup (some .boolean) r_L_isGroup) (hfl : (kL K).stackTraces = false) (hnx : zNX K) {r0 : Int32} {τ0 : zST} (hq : zQG K (.inr (some (.int r0))) τ0) (hw : eN (kZ K) = w) (cs ss : Nat) (hb1 : cs + 0 ≤ 3) (hb2 : ss + 0 ≤ 18) (F : Nat) (k28 : Nat → Nat → Int32 → Int32 → Int64 → Int32 → Int32 → Int32 → Int32 → Int32 → zST → Option (Int32 × zST)) (hk28 : ∀ (a0 : Nat) (a1 : Nat) (a2 : Int32) (a3 : Int32) (a4 : Int64) (a6 : Int32) (a7 : Int32) (a8 : Int32) (a9 : Int32) (a10 : Int32) (ha0 : atCanonCote (kZ K) a0) (ha1 : aJ (kZ K) a1 64) (σ : zST), k28 a0 a1 a2 a3 a4 a6 a7 a8 a9 a10 σ = some (r0, τ0) → Z K cs ss 28 [(0, .ref (eA (kZ K) a0)), (1, .ref (eA (kZ K) a1)), (2, .int a2), (3, .int a3), (4, .long a4), (6, .int a6), (7, .int a7), (8, .int a8), (9, .int a9), (10, .int a10)] [] σ) (a0 : Nat) (a1 : Nat) (a2 : Int32) (a3 : Int32) (a4 : Int64) (a7 : Int32) (a8 : Int32) (a9 : Int32) (a10 : Int32) (t0 : Int32) (ha0 : atCanonCote (kZ K) a0) (ha1 : aJ (kZ K) a1 64) (σ : zST) (h : m_L_isGroup_54 F w k28 a0 a1 a2 a3 a4 a7 a8 a9 a10 t0 σ = some (r0, τ0)) : Z K cs ss 54 [(0, .ref (eA (kZ K) a0)), (1, .ref (eA (kZ K) a1)), (2, .int a2), (3, .int a3), (4, .long a4), (7, .int a7), (8, .int a8), (9, .int a9), (10, .int a10)] [.int t0] σ := by
  unfold m_L_isGroup_54 at h
  refine Z_istore hk (lv' := [(6, .int t0), (0, .ref (eA (kZ K) a0)), (1, .ref (eA (kZ K) a1)), (2, .int a2), (3, .int a3), (4, .long a4), (7, .int a7), (8, .int a8), (9, .int a9), (10, .int a10)]) dL_isGroup_54 (by decide) rfl ?_
  refine Z_iload hk 6 dL_isGroup_56 rfl ?_
  refine Z_iconst hk dL_isGroup_58 zc_iconst_1 ?_
  refine Z_aload_n hk 2 dL_isGroup_59 rfl rfl ?_
  refine Z_iload hk 9 dL_isGroup_60 rfl ?_
  obtain ⟨i30, x28, e29, h⟩ := ldL_get h
  refine Z_lald hk ha1 i30 dL_isGroup_62 ?_
  refine Z_eqL e29 ?_
  refine Z_iconst hk dL_isGroup_63 zc_iconst_4 ?_
  refine Z_iload_n hk 4 dL_isGroup_64 rfl rfl ?_
  refine Z_bipush hk dL_isGroup_65 zc_bipush_8 ?_
  refine Z_irem hk dL_isGroup_67 (by decide) ?_
  refine Z_imul hk dL_isGroup_68 ?_
  refine Z_lshr hk dL_isGroup_69 ?_
  refine Z_ldc2 hk (v := 15) dL_isGroup_70 wd_L_isGroup_0 ?_
  refine Z_land hk dL_isGroup_73 ?_
  refine Z_l2i hk dL_isGroup_74 ?_
  refine Z_ishl hk dL_isGroup_75 ?_
  refine Z_ior hk dL_isGroup_76 ?_
  obtain ⟨x31, e32, h⟩ := nm_get h
  refine Z_eqI e32 ?_
  refine Z_istore hk (lv' := [(7, .int x31), (6, .int t0), (0, .ref (eA (kZ K) a0)), (1, .ref (eA (kZ K) a1)), (2, .int a2), (3, .int a3), (4, .long a4), (8, .int a8), (9, .int a9), (10, .int a10)]) dL_isGroup_77 (by decide) rfl ?_
  refine Z_iconst hk dL_isGroup_79 zc_iconst_1 ?_
  refine Z_istore hk (lv' := [(11, .int 1), (7, .int x31), (6, .int t0), (0, .ref (eA (kZ K) a0)), (1, .ref (eA (kZ K) a1)), (2, .int a2), (3, .int a3), (4, .long a4), (8, .int a8), (9, .int a9), (10, .int a10)]) dL_isGroup_80 (by decide) rfl ?_
  refine Z_iconst hk dL_isGroup_82 zc_iconst_0 ?_
  refine Z_istore hk (lv' := [(12, .int 0), (11, .int 1), (7, .int x31), (6, .int t0), (0, .ref (eA (kZ K) a0)), (1, .ref (eA (kZ K) a1)), (2, .int a2), (3, .int a3), (4, .long a4), (8, .int a8), (9, .int a9), (10, .int a10)]) dL_isGroup_83 (by decide) rfl ?_
  refine Z_sub [4, 5, 6, 7, 8, 3, 2, 9, 10, 11, 1, 0] rfl ?_
  exact w_L_isGroup_85 hk hfl hnx hq hw cs ss (by omega) (by omega) F k28 hk28 F a0 a1 a2 a3 a4 t0 x31 a8 a9 a10 1 0 ha0 ha1 σ h
set_option maxRecDepth 100000 in
set_option maxHeartbeats 4000000 in
theorem w_L_isGroup_49 {K : zK} {w : Nat} (hk : zIs K RL cL_isGroup 13 wsL_isGroup (some .boolean) r_L_isGroup) (hfl : (kL K).stackTraces = false) (hnx : zNX K) {r0 : Int32} {τ0 : zST} (hq : zQG K (.inr (some (.int r0))) τ0) (hw : eN (kZ K) = w) (cs ss : Nat) (hb1 : cs + 0 ≤ 3) (hb2 : ss + 0 ≤ 18) (F : Nat) (k28 : Nat → Nat → Int32 → Int32 → Int64 → Int32 → Int32 → Int32 → Int32 → Int32 → zST → Option (Int32 × zST)) (hk28 : ∀ (a0 : Nat) (a1 : Nat) (a2 : Int32) (a3 : Int32) (a4 : Int64) (a6 : Int32) (a7 : Int32) (a8 : Int32) (a9 : Int32) (a10 : Int32) (ha0 : atCanonCote (kZ K) a0) (ha1 : aJ (kZ K) a1 64) (σ : zST), k28 a0 a1 a2 a3 a4 a6 a7 a8 a9 a10 σ = some (r0, τ0) → Z K cs ss 28 [(0, .ref (eA (kZ K) a0)), (1, .ref (eA (kZ K) a1)), (2, .int a2), (3, .int a3), (4, .long a4), (6, .int a6), (7, .int a7), (8, .int a8), (9, .int a9), (10, .int a10)] [] σ) (a0 : Nat) (a1 : Nat) (a2 : Int32) (a3 : Int32) (a4 : Int64) (a7 : Int32) (a8 : Int32) (a9 : Int32) (a10 : Int32) (ha0 : atCanonCote (kZ K) a0) (ha1 : aJ (kZ K) a1 64) (σ : zST) (h : m_L_isGroup_49 F w k28 a0 a1 a2 a3 a4 a7 a8 a9 a10 σ = some (r0, τ0)) : Z K cs ss 49 [(0, .ref (eA (kZ K) a0)), (1, .ref (eA (kZ K) a1)), (2, .int a2), (3, .int a3), (4, .long a4), (7, .int a7), (8, .int a8), (9, .int a9), (10, .int a10)] [] σ := by
  unfold m_L_isGroup_49 at h
  refine Z_iconst hk dL_isGroup_49 zc_iconst_1 ?_
  refine Z_goto hk (tgt := 54) dL_isGroup_50 (by decide) ?_
  refine Z_sub [0, 1, 2, 3, 4, 5, 6, 7, 8] rfl ?_
  exact w_L_isGroup_54 hk hfl hnx hq hw cs ss (by omega) (by omega) F k28 hk28 a0 a1 a2 a3 a4 a7 a8 a9 a10 1 ha0 ha1 σ h
set_option maxRecDepth 100000 in
set_option maxHeartbeats 4000000 in
theorem w_L_isGroup_208 {K : zK} {w : Nat} (hk : zIs K RL cL_isGroup 13 wsL_isGroup (some .boolean) r_L_isGroup) (hfl : (kL K).stackTraces = false) (hnx : zNX K) {r0 : Int32} {τ0 : zST} (hq : zQG K (.inr (some (.int r0))) τ0) (hw : eN (kZ K) = w) (cs ss : Nat) (hb1 : cs + 0 ≤ 3) (hb2 : ss + 0 ≤ 18) (F : Nat)  (σ : zST) (h : m_L_isGroup_208 F w σ = some (r0, τ0)) : Z K cs ss 208 [] [] σ := by
  unfold m_L_isGroup_208 at h
  refine Z_iconst hk dL_isGroup_208 zc_iconst_0 ?_
  cases h
  exact ZG_zret hk (by decide) hq ⟨by show cs + 0 ≤ 3; omega, by show ss + 0 ≤ 18; omega⟩ dL_isGroup_209
set_option maxRecDepth 100000 in
set_option maxHeartbeats 4000000 in
theorem w_L_isGroup_28 {K : zK} {w : Nat} (hk : zIs K RL cL_isGroup 13 wsL_isGroup (some .boolean) r_L_isGroup) (hfl : (kL K).stackTraces = false) (hnx : zNX K) {r0 : Int32} {τ0 : zST} (hq : zQG K (.inr (some (.int r0))) τ0) (hw : eN (kZ K) = w) (cs ss : Nat) (hb1 : cs + 3 ≤ 3) (hb2 : ss + 18 ≤ 18) (F : Nat) : ∀ (n : Nat) (a0 : Nat) (a1 : Nat) (a2 : Int32) (a3 : Int32) (a4 : Int64) (a6 : Int32) (a7 : Int32) (a8 : Int32) (a9 : Int32) (a10 : Int32) (ha0 : atCanonCote (kZ K) a0) (ha1 : aJ (kZ K) a1 64) (σ : zST), m_L_isGroup_28 F w n a0 a1 a2 a3 a4 a6 a7 a8 a9 a10 σ = some (r0, τ0) → Z K cs ss 28 [(0, .ref (eA (kZ K) a0)), (1, .ref (eA (kZ K) a1)), (2, .int a2), (3, .int a3), (4, .long a4), (6, .int a6), (7, .int a7), (8, .int a8), (9, .int a9), (10, .int a10)] [] σ := by
  intro n
  induction n with
  | zero => intro a0 a1 a2 a3 a4 a6 a7 a8 a9 a10 ha0 ha1 σ h; cases h
  | succ n ih =>
    intro a0 a1 a2 a3 a4 a6 a7 a8 a9 a10 ha0 ha1 σ h
    rw [m_L_isGroup_28] at h
    refine Z_iload hk 9 dL_isGroup_28 rfl ?_
    refine Z_iload_n hk 2 dL_isGroup_30 rfl rfl ?_
    refine Z_icmp_ge hk (tgt := 161) dL_isGroup_31 (by decide) (fun c6 => ?_) (fun c6 => ?_)
    · have h := if_yes h c6
      refine Z_aload_n hk 0 dL_isGroup_161 rfl rfl ?_
      obtain ⟨x7, s8, h9, h⟩ := bd_ok h
      refine Z_callV 0 hk [] (c_X7_order hk.loc hk.inj F a0 ha0 σ h9) gL_isGroup_X7_order rfl ⟨rfl, rfl⟩ (by decide +kernel) ⟨Nat.le_of_ble_eq_true rfl, Nat.le_of_ble_eq_true rfl⟩ ha0.cell.1 (ha0.cell.2 _) rfl rfl rfl (Nat.le_of_ble_eq_true rfl) ⟨by show cs + 0 ≤ 3; omega, by show ss + 0 ≤ 18; omega⟩ dL_isGroup_162 ?_
      show Z K cs ss 165 [(0, .ref (eA (kZ K) a0)), (1, .ref (eA (kZ K) a1)), (2, .int a2), (3, .int a3), (4, .long a4), (6, .int a6), (7, .int a7), (8, .int a8), (9, .int a9), (10, .int a10)] [.int x7] s8
      refine Z_iload_n hk 2 dL_isGroup_165 rfl rfl ?_
      refine Z_icmp_ne hk (tgt := 208) dL_isGroup_166 (by decide) (fun c10 => ?_) (fun c10 => ?_)
      · have h := if_yes h c10
        refine Z_aload_n hk 0 dL_isGroup_169 rfl rfl ?_
        refine Z_lload hk 4 dL_isGroup_170 rfl ?_
        obtain ⟨x11, s12, h13, h⟩ := br_ok h
        refine ZX_callV 1 hk [.long a4] (c_X7_isInGroup hk.loc hk.inj hfl F a0 a4 ha0 s8 h13) gL_isGroup_X7_isInGroup rfl ⟨rfl, by decide +kernel, by decide +kernel, by decide +kernel⟩ ⟨Nat.le_of_ble_eq_true rfl, Nat.le_of_ble_eq_true rfl⟩ ha0.cell.1 (ha0.cell.2 _) rfl rfl rfl (Nat.le_of_ble_eq_true rfl) ⟨by show cs + 1 ≤ 3; omega, by show ss + 6 ≤ 18; omega⟩ dL_isGroup_172 (fun X hX => by cases hX) (fun v hv => ?_)
        cases hv
        show Z K (cs + 1) (ss + 6) 175 [(0, .ref (eA (kZ K) a0)), (1, .ref (eA (kZ K) a1)), (2, .int a2), (3, .int a3), (4, .long a4), (6, .int a6), (7, .int a7), (8, .int a8), (9, .int a9), (10, .int a10)] [.int x11] s12
        refine Z_iload hk 5 dL_isGroup_175 rfl ?_
        refine Z_icmp_ne hk (tgt := 208) dL_isGroup_177 (by decide) (fun c14 => ?_) (fun c14 => ?_)
        · have h := if_yes h c14
          refine Z_aload_n hk 0 dL_isGroup_180 rfl rfl ?_
          refine Z_iload_n hk 3 dL_isGroup_181 rfl rfl ?_
          refine Z_bipush hk dL_isGroup_182 zc_bipush_8 ?_
          refine Z_irem hk dL_isGroup_184 (by decide) ?_
          obtain ⟨x15, s16, h17, h⟩ := br_ok h
          refine ZX_callV 1 hk [.int (a3 - a3 / 8 * 8)] (c_X7_moves hk.loc hk.inj hfl F a0 (a3 - a3 / 8 * 8) ha0 s12 h17) gL_isGroup_X7_moves rfl ⟨rfl, by decide +kernel, by decide +kernel, by decide +kernel⟩ ⟨Nat.le_of_ble_eq_true rfl, Nat.le_of_ble_eq_true rfl⟩ ha0.cell.1 (ha0.cell.2 _) rfl rfl rfl (Nat.le_of_ble_eq_true rfl) ⟨by show (cs + 1) + 1 ≤ 3; omega, by show (ss + 6) + 6 ≤ 18; omega⟩ dL_isGroup_185 (fun X hX => by cases hX) (fun v hv => ?_)
          cases hv
          show Z K (cs + 2) (ss + 12) 188 [(0, .ref (eA (kZ K) a0)), (1, .ref (eA (kZ K) a1)), (2, .int a2), (3, .int a3), (4, .long a4), (6, .int a6), (7, .int a7), (8, .int a8), (9, .int a9), (10, .int a10)] [.int x15] s16
          refine Z_iload hk 6 dL_isGroup_188 rfl ?_
          refine Z_icmp_ne hk (tgt := 208) dL_isGroup_190 (by decide) (fun c18 => ?_) (fun c18 => ?_)
          · have h := if_yes h c18
            refine Z_aload_n hk 0 dL_isGroup_193 rfl rfl ?_
            refine Z_iload hk 8 dL_isGroup_194 rfl ?_
            obtain ⟨x19, s20, h21, h⟩ := br_ok h
            refine ZX_callV 1 hk [.int a9] (c_X7_fixing hk.loc hk.inj hfl F a0 a9 ha0 s16 h21) gL_isGroup_X7_fixing rfl ⟨rfl, by decide +kernel, by decide +kernel, by decide +kernel⟩ ⟨Nat.le_of_ble_eq_true rfl, Nat.le_of_ble_eq_true rfl⟩ ha0.cell.1 (ha0.cell.2 _) rfl rfl rfl (Nat.le_of_ble_eq_true rfl) ⟨by show (cs + 2) + 1 ≤ 3; omega, by show (ss + 12) + 6 ≤ 18; omega⟩ dL_isGroup_196 (fun X hX => by cases hX) (fun v hv => ?_)
            cases hv
            show Z K (cs + 3) (ss + 18) 199 [(0, .ref (eA (kZ K) a0)), (1, .ref (eA (kZ K) a1)), (2, .int a2), (3, .int a3), (4, .long a4), (6, .int a6), (7, .int a7), (8, .int a8), (9, .int a9), (10, .int a10)] [.int x19] s20
            refine Z_iload hk 7 dL_isGroup_199 rfl ?_
            refine Z_icmp_ne hk (tgt := 208) dL_isGroup_201 (by decide) (fun c22 => ?_) (fun c22 => ?_)
            · have h := if_yes h c22
              refine Z_iconst hk dL_isGroup_204 zc_iconst_1 ?_
              refine Z_goto hk (tgt := 209) dL_isGroup_205 (by decide) ?_
              cases h
              exact ZG_zret hk (by decide) hq ⟨by show (cs + 3) + 0 ≤ 3; omega, by show (ss + 18) + 0 ≤ 18; omega⟩ dL_isGroup_209
            · have h := if_no h c22
              refine Z_sub [] rfl ?_
              exact w_L_isGroup_208 hk hfl hnx hq hw (cs + 3) (ss + 18) (by omega) (by omega) F s20 h
          · have h := if_no h c18
            refine Z_sub [] rfl ?_
            exact w_L_isGroup_208 hk hfl hnx hq hw (cs + 2) (ss + 12) (by omega) (by omega) F s16 h
        · have h := if_no h c14
          refine Z_sub [] rfl ?_
          exact w_L_isGroup_208 hk hfl hnx hq hw (cs + 1) (ss + 6) (by omega) (by omega) F s12 h
      · have h := if_no h c10
        refine Z_sub [] rfl ?_
        exact w_L_isGroup_208 hk hfl hnx hq hw cs ss (by omega) (by omega) F s8 h
    · have h := if_no h c6
      refine Z_iload hk 5 dL_isGroup_34 rfl ?_
      refine Z_if_ne hk (tgt := 49) dL_isGroup_36 (by decide) (fun c23 => ?_) (fun c23 => ?_)
      · have h := if_yes h c23
        refine Z_aload_n hk 1 dL_isGroup_39 rfl rfl ?_
        refine Z_iload hk 9 dL_isGroup_40 rfl ?_
        obtain ⟨i26, x24, e25, h⟩ := ldL_get h
        refine Z_lald hk ha1 i26 dL_isGroup_42 ?_
        refine Z_eqL e25 ?_
        refine Z_lload hk 4 dL_isGroup_43 rfl ?_
        refine Z_lcmp hk dL_isGroup_45 ?_
        refine Z_if_ne hk (tgt := 53) dL_isGroup_46 (by decide) (fun c27 => ?_) (fun c27 => ?_)
        · have h := if_yes h c27
          refine Z_sub [0, 1, 2, 3, 4, 6, 7, 8, 9] rfl ?_
          exact w_L_isGroup_49 hk hfl hnx hq hw cs ss (by omega) (by omega) F (m_L_isGroup_28 F w n) ih a0 a1 a2 a3 a4 a7 a8 a9 a10 ha0 ha1 σ h
        · have h := if_no h c27
          refine Z_iconst hk dL_isGroup_53 zc_iconst_0 ?_
          refine Z_sub [0, 1, 2, 3, 4, 6, 7, 8, 9] rfl ?_
          exact w_L_isGroup_54 hk hfl hnx hq hw cs ss (by omega) (by omega) F (m_L_isGroup_28 F w n) ih a0 a1 a2 a3 a4 a7 a8 a9 a10 0 ha0 ha1 σ h
      · have h := if_no h c23
        refine Z_sub [0, 1, 2, 3, 4, 6, 7, 8, 9] rfl ?_
        exact w_L_isGroup_49 hk hfl hnx hq hw cs ss (by omega) (by omega) F (m_L_isGroup_28 F w n) ih a0 a1 a2 a3 a4 a7 a8 a9 a10 ha0 ha1 σ h
set_option maxRecDepth 100000 in
set_option maxHeartbeats 4000000 in
theorem w_L_isGroup {K : zK} {w : Nat} (hk : zIs K RL cL_isGroup 13 wsL_isGroup (some .boolean) r_L_isGroup) (hfl : (kL K).stackTraces = false) (hnx : zNX K) {r0 : Int32} {τ0 : zST} (hq : zQG K (.inr (some (.int r0))) τ0) (hw : eN (kZ K) = w) (F : Nat) (a0 : Nat) (a1 : Nat) (a2 : Int32) (a3 : Int32) (ha0 : atCanonCote (kZ K) a0) (ha1 : aJ (kZ K) a1 64) (σ : zST) (h : m_L_isGroup F w a0 a1 a2 a3 σ = some (r0, τ0)) : Z K 0 0 0 [(0, .ref (eA (kZ K) a0)), (1, .ref (eA (kZ K) a1)), (2, .int a2), (3, .int a3)] [] σ := by
  unfold m_L_isGroup at h
  refine Z_iload_n hk 3 dL_isGroup_0 rfl rfl ?_
  refine Z_bipush hk dL_isGroup_1 zc_bipush_48 ?_
  refine Z_irem hk dL_isGroup_3 (by decide) ?_
  obtain ⟨x1, s2, h3, h⟩ := bd_ok h
  refine Z_callT 1 hk [.int (a3 - a3 / 48 * 48)] (c_L_told hk.loc hk.inj F (a3 - a3 / 48 * 48) σ h3) gL_isGroup_L_told rfl ⟨rfl, rfl⟩ (by decide +kernel) ⟨Nat.le_of_ble_eq_true rfl, Nat.le_of_ble_eq_true rfl⟩ rfl rfl (Nat.le_of_ble_eq_true rfl) ⟨by show 0 + 0 ≤ 3; omega, by show 0 + 0 ≤ 18; omega⟩ dL_isGroup_4 ?_
  show Z K 0 0 7 [(0, .ref (eA (kZ K) a0)), (1, .ref (eA (kZ K) a1)), (2, .int a2), (3, .int a3)] [.long x1] s2
  refine Z_lstore hk (lv' := [(4, .long x1), (0, .ref (eA (kZ K) a0)), (1, .ref (eA (kZ K) a1)), (2, .int a2), (3, .int a3)]) dL_isGroup_7 (by decide) rfl ?_
  refine Z_iconst hk dL_isGroup_9 zc_iconst_0 ?_
  refine Z_istore hk (lv' := [(6, .int 0), (4, .long x1), (0, .ref (eA (kZ K) a0)), (1, .ref (eA (kZ K) a1)), (2, .int a2), (3, .int a3)]) dL_isGroup_10 (by decide) rfl ?_
  refine Z_iconst hk dL_isGroup_12 zc_iconst_0 ?_
  refine Z_istore hk (lv' := [(7, .int 0), (6, .int 0), (4, .long x1), (0, .ref (eA (kZ K) a0)), (1, .ref (eA (kZ K) a1)), (2, .int a2), (3, .int a3)]) dL_isGroup_13 (by decide) rfl ?_
  refine Z_iconst hk dL_isGroup_15 zc_iconst_0 ?_
  refine Z_istore hk (lv' := [(8, .int 0), (7, .int 0), (6, .int 0), (4, .long x1), (0, .ref (eA (kZ K) a0)), (1, .ref (eA (kZ K) a1)), (2, .int a2), (3, .int a3)]) dL_isGroup_16 (by decide) rfl ?_
  refine Z_iload_n hk 7 dL_isGroup_18 rfl rfl ?_
  refine Z_sipush hk dL_isGroup_19 zc_sipush_256 ?_
  refine Z_irem hk dL_isGroup_22 (by decide) ?_
  obtain ⟨x4, e5, h⟩ := nm_get h
  refine Z_eqI e5 ?_
  refine Z_istore hk (lv' := [(9, .int x4), (8, .int 0), (7, .int 0), (6, .int 0), (4, .long x1), (0, .ref (eA (kZ K) a0)), (1, .ref (eA (kZ K) a1)), (2, .int a2), (3, .int a3)]) dL_isGroup_23 (by decide) rfl ?_
  refine Z_iconst hk dL_isGroup_25 zc_iconst_0 ?_
  refine Z_istore hk (lv' := [(10, .int 0), (9, .int x4), (8, .int 0), (7, .int 0), (6, .int 0), (4, .long x1), (0, .ref (eA (kZ K) a0)), (1, .ref (eA (kZ K) a1)), (2, .int a2), (3, .int a3)]) dL_isGroup_26 (by decide) rfl ?_
  refine Z_sub [6, 7, 8, 9, 5, 4, 3, 2, 1, 0] rfl ?_
  exact w_L_isGroup_28 hk hfl hnx hq hw 0 0 (by omega) (by omega) F F a0 a1 a2 a3 x1 0 0 0 x4 0 ha0 ha1 s2 h
theorem c_L_isGroup {l : Launch} {E : zE} (hL : eL E) (hJ : eJ E) (hfl : l.stackTraces = false) (F w : Nat) (hw : eN E = w) (a0 : Nat) (a1 : Nat) (a2 : Int32) (a3 : Int32) (ha0 : atCanonCote E a0) (ha1 : aJ E a1 64) (σ : zST) {r0 : Int32} {τ0 : zST} (h : m_L_isGroup F w a0 a1 a2 a3 σ = some (r0, τ0)) : CtX l yL_isGroup wsL_isGroup r_L_isGroup E [.ref (eA E a0), .ref (eA E a1), .int a2, .int a3] σ (.inr (some (.int r0))) τ0 := by
  refine CtX_of (by decide) rfl hL hJ (Nat.le_of_ble_eq_true rfl) (fun K hE hl hk hnx hq => ?_)
  subst hE
  subst hl
  exact w_L_isGroup hk hfl hnx (zQG.of hq) hw F a0 a1 a2 a3 ha0 ha1 σ h
end
