-- CanonCoteLaw.from ([III)I
section
theorem dL_from_0 : decode cL_from 0 = .ok (.aload_n 0, 1) := by decide +kernel
theorem dL_from_1 : decode cL_from 1 = .ok (.arraylength, 1) := by decide +kernel
theorem dL_from_2 : decode cL_from 2 = .ok (.ifCond .ne 13, 3) := by decide +kernel
theorem dL_from_5 : decode cL_from 5 = .ok (.bipush 73, 2) := by decide +kernel
theorem dL_from_7 : decode cL_from 7 = .ok (.iload_n 1, 1) := by decide +kernel
theorem dL_from_8 : decode cL_from 8 = .ok (.imul, 1) := by decide +kernel
theorem dL_from_9 : decode cL_from 9 = .ok (.bipush 41, 2) := by decide +kernel
theorem dL_from_11 : decode cL_from 11 = .ok (.iadd, 1) := by decide +kernel
theorem dL_from_12 : decode cL_from 12 = .ok (.goto 14, 3) := by decide +kernel
theorem dL_from_15 : decode cL_from 15 = .ok (.aload_n 0, 1) := by decide +kernel
theorem dL_from_16 : decode cL_from 16 = .ok (.iload_n 1, 1) := by decide +kernel
theorem dL_from_17 : decode cL_from 17 = .ok (.aload_n 0, 1) := by decide +kernel
theorem dL_from_18 : decode cL_from 18 = .ok (.arraylength, 1) := by decide +kernel
theorem dL_from_19 : decode cL_from 19 = .ok (.irem, 1) := by decide +kernel
theorem dL_from_20 : decode cL_from 20 = .ok (.iaload, 1) := by decide +kernel
theorem dL_from_21 : decode cL_from 21 = .ok (.ldc 7, 2) := by decide +kernel
theorem dL_from_23 : decode cL_from 23 = .ok (.iload_n 1, 1) := by decide +kernel
theorem dL_from_24 : decode cL_from 24 = .ok (.imul, 1) := by decide +kernel
theorem dL_from_25 : decode cL_from 25 = .ok (.ixor, 1) := by decide +kernel
theorem dL_from_26 : decode cL_from 26 = .ok (.istore_n 3, 1) := by decide +kernel
theorem dL_from_27 : decode cL_from 27 = .ok (.iload_n 3, 1) := by decide +kernel
theorem dL_from_28 : decode cL_from 28 = .ok (.ldc 8, 2) := by decide +kernel
theorem dL_from_30 : decode cL_from 30 = .ok (.iand, 1) := by decide +kernel
theorem dL_from_31 : decode cL_from 31 = .ok (.iload_n 2, 1) := by decide +kernel
theorem dL_from_32 : decode cL_from 32 = .ok (.irem, 1) := by decide +kernel
theorem dL_from_33 : decode cL_from 33 = .ok (.ireturn, 1) := by decide +kernel
theorem wd_L_from_0 : Cond.constant RL 7 95107 ∈ wsL_from := by decide +kernel
theorem wd_L_from_1 : Cond.constant RL 8 2147483647 ∈ wsL_from := by decide +kernel
def r_L_from : Room := { frames := 1, cells := 0, slots := 0, locals := 12 }
set_option maxRecDepth 100000 in
set_option maxHeartbeats 4000000 in
theorem w_L_from_26 {K : zK} {w : Nat} {b L : Nat} {xs : Nat → Int32} (hk : zIs K RL cL_from 4 wsL_from (some .int) r_L_from) (hfl : (kL K).stackTraces = false) (hnx : zNX K) {r0 : Int32} {τ0 : zST} (hq : zQG K (.inr (some (.int r0))) τ0) (hw : eN (kZ K) = w) (hsc : zSc K b L xs) (hao : va_AO "CanonCote$Graph" (kS K)) (cs ss : Nat) (hb1 : cs + 0 ≤ 0) (hb2 : ss + 0 ≤ 0) (F : Nat) (a2 : Int32) (t0 : Int32) (σ : zST) (h : m_L_from_26 F w L xs a2 t0 σ = some (r0, τ0)) : Z K cs ss 26 [(0, .ref b), (2, .int a2)] [.int t0] σ := by
  unfold m_L_from_26 at h
  refine Z_istore_n hk (lv' := [(3, .int t0), (0, .ref b), (2, .int a2)]) dL_from_26 rfl (by decide) rfl ?_
  refine Z_iload_n hk 0 dL_from_27 rfl rfl ?_
  refine Z_ldc hk (v := 2147483647) dL_from_28 wd_L_from_1 ?_
  refine Z_iand hk dL_from_30 ?_
  refine Z_iload_n hk 2 dL_from_31 rfl rfl ?_
  obtain ⟨z6, h⟩ := gd_some h
  refine Z_irem hk dL_from_32 z6 ?_
  cases h
  exact ZG_iret hk hq ⟨by show cs + 0 ≤ 0; omega, by show ss + 0 ≤ 0; omega⟩ dL_from_33
set_option maxRecDepth 100000 in
set_option maxHeartbeats 4000000 in
theorem w_L_from {K : zK} {w : Nat} {b L : Nat} {xs : Nat → Int32} (hk : zIs K RL cL_from 4 wsL_from (some .int) r_L_from) (hfl : (kL K).stackTraces = false) (hnx : zNX K) {r0 : Int32} {τ0 : zST} (hq : zQG K (.inr (some (.int r0))) τ0) (hw : eN (kZ K) = w) (hsc : zSc K b L xs) (hao : va_AO "CanonCote$Graph" (kS K)) (F : Nat) (a1 : Int32) (a2 : Int32) (σ : zST) (h : m_L_from F w L xs a1 a2 σ = some (r0, τ0)) : Z K 0 0 0 [(0, .ref b), (1, .int a1), (2, .int a2)] [] σ := by
  unfold m_L_from at h
  refine Z_aload_n hk 0 dL_from_0 rfl rfl ?_
  refine Z_slen hk hsc dL_from_1 ?_
  refine Z_if_ne hk (tgt := 15) dL_from_2 (by decide) (fun c1 => ?_) (fun c1 => ?_)
  · have h := if_yes h c1
    refine Z_bipush hk dL_from_5 zc_bipush_73 ?_
    refine Z_iload_n hk 1 dL_from_7 rfl rfl ?_
    refine Z_imul hk dL_from_8 ?_
    refine Z_bipush hk dL_from_9 zc_bipush_41 ?_
    refine Z_iadd hk dL_from_11 ?_
    refine Z_goto hk (tgt := 26) dL_from_12 (by decide) ?_
    refine Z_sub [0, 2] rfl ?_
    exact w_L_from_26 hk hfl hnx hq hw hsc hao 0 0 (by omega) (by omega) F a2 ((73 * a1) + 41) σ h
  · have h := if_no h c1
    refine Z_aload_n hk 0 dL_from_15 rfl rfl ?_
    refine Z_iload_n hk 1 dL_from_16 rfl rfl ?_
    refine Z_aload_n hk 0 dL_from_17 rfl rfl ?_
    refine Z_slen hk hsc dL_from_18 ?_
    obtain ⟨z2, h⟩ := gd_some h
    refine Z_irem hk dL_from_19 z2 ?_
    obtain ⟨i5, x3, e4, h⟩ := ldT_get h
    refine Z_sld hk hsc i5 dL_from_20 ?_
    refine Z_eqI e4 ?_
    refine Z_ldc hk (v := 95107) dL_from_21 wd_L_from_0 ?_
    refine Z_iload_n hk 1 dL_from_23 rfl rfl ?_
    refine Z_imul hk dL_from_24 ?_
    refine Z_ixor hk dL_from_25 ?_
    refine Z_sub [0, 2] rfl ?_
    exact w_L_from_26 hk hfl hnx hq hw hsc hao 0 0 (by omega) (by omega) F a2 (x3 ^^^ (95107 * a1)) σ h
theorem c_L_from {l : Launch} {E : zE} {b L : Nat} {xs : Nat → Int32} (hL : eL E) (hJ : eJ E) (hfl : l.stackTraces = false) (F w : Nat) (hw : eN E = w) (a1 : Int32) (a2 : Int32) (σ : zST) {r0 : Int32} {τ0 : zST} (h : m_L_from F w L xs a1 a2 σ = some (r0, τ0)) : CtS l yL_from wsL_from r_L_from E [.ref b, .int a1, .int a2] σ (.inr (some (.int r0))) τ0 b L xs := by
  refine CtS_of (by decide) rfl hL hJ (Nat.le_of_ble_eq_true rfl) (fun K hE hl hk hnx hsc hao hq => ?_)
  subst hE
  subst hl
  exact w_L_from hk hfl hnx (zQG.of hq) hw hsc hao F a1 a2 σ h
end

-- CanonCoteLaw.put (JI)J
section
theorem dL_put_0 : decode cL_put 0 = .ok (.lload_n 0, 1) := by decide +kernel
theorem dL_put_1 : decode cL_put 1 = .ok (.invokestatic 23, 3) := by decide +kernel
theorem dL_put_4 : decode cL_put 4 = .ok (.istore_n 3, 1) := by decide +kernel
theorem dL_put_5 : decode cL_put 5 = .ok (.bipush 8, 2) := by decide +kernel
theorem dL_put_7 : decode cL_put 7 = .ok (.newarray .int, 2) := by decide +kernel
theorem dL_put_9 : decode cL_put 9 = .ok (.astore 4, 2) := by decide +kernel
theorem dL_put_11 : decode cL_put 11 = .ok (.iload_n 3, 1) := by decide +kernel
theorem dL_put_12 : decode cL_put 12 = .ok (.i2l, 1) := by decide +kernel
theorem dL_put_13 : decode cL_put 13 = .ok (.bipush 52, 2) := by decide +kernel
theorem dL_put_15 : decode cL_put 15 = .ok (.lshl, 1) := by decide +kernel
theorem dL_put_16 : decode cL_put 16 = .ok (.lstore 5, 2) := by decide +kernel
theorem dL_put_18 : decode cL_put 18 = .ok (.iconst 0, 1) := by decide +kernel
theorem dL_put_19 : decode cL_put 19 = .ok (.istore 7, 2) := by decide +kernel
theorem dL_put_21 : decode cL_put 21 = .ok (.iload 7, 2) := by decide +kernel
theorem dL_put_23 : decode cL_put 23 = .ok (.iload_n 3, 1) := by decide +kernel
theorem dL_put_24 : decode cL_put 24 = .ok (.if_icmp .ge 90, 3) := by decide +kernel
theorem dL_put_27 : decode cL_put 27 = .ok (.aload 4, 2) := by decide +kernel
theorem dL_put_29 : decode cL_put 29 = .ok (.iload 7, 2) := by decide +kernel
theorem dL_put_31 : decode cL_put 31 = .ok (.iload_n 3, 1) := by decide +kernel
theorem dL_put_32 : decode cL_put 32 = .ok (.iload_n 2, 1) := by decide +kernel
theorem dL_put_33 : decode cL_put 33 = .ok (.iload 7, 2) := by decide +kernel
theorem dL_put_35 : decode cL_put 35 = .ok (.invokestatic 27, 3) := by decide +kernel
theorem dL_put_38 : decode cL_put 38 = .ok (.iastore, 1) := by decide +kernel
theorem dL_put_39 : decode cL_put 39 = .ok (.lload 5, 2) := by decide +kernel
theorem dL_put_41 : decode cL_put 41 = .ok (.aload 4, 2) := by decide +kernel
theorem dL_put_43 : decode cL_put 43 = .ok (.iload 7, 2) := by decide +kernel
theorem dL_put_45 : decode cL_put 45 = .ok (.iaload, 1) := by decide +kernel
theorem dL_put_46 : decode cL_put 46 = .ok (.lload_n 0, 1) := by decide +kernel
theorem dL_put_47 : decode cL_put 47 = .ok (.iload 7, 2) := by decide +kernel
theorem dL_put_49 : decode cL_put 49 = .ok (.invokestatic 31, 3) := by decide +kernel
theorem dL_put_52 : decode cL_put 52 = .ok (.invokestatic 35, 3) := by decide +kernel
theorem dL_put_55 : decode cL_put 55 = .ok (.lstore 5, 2) := by decide +kernel
theorem dL_put_57 : decode cL_put 57 = .ok (.iconst 0, 1) := by decide +kernel
theorem dL_put_58 : decode cL_put 58 = .ok (.istore 8, 2) := by decide +kernel
theorem dL_put_60 : decode cL_put 60 = .ok (.iload 8, 2) := by decide +kernel
theorem dL_put_62 : decode cL_put 62 = .ok (.iload 7, 2) := by decide +kernel
theorem dL_put_64 : decode cL_put 64 = .ok (.if_icmp .ge 44, 3) := by decide +kernel
theorem dL_put_67 : decode cL_put 67 = .ok (.lload 5, 2) := by decide +kernel
theorem dL_put_69 : decode cL_put 69 = .ok (.lload_n 0, 1) := by decide +kernel
theorem dL_put_70 : decode cL_put 70 = .ok (.iload 7, 2) := by decide +kernel
theorem dL_put_72 : decode cL_put 72 = .ok (.iload 8, 2) := by decide +kernel
theorem dL_put_74 : decode cL_put 74 = .ok (.invokestatic 39, 3) := by decide +kernel
theorem dL_put_77 : decode cL_put 77 = .ok (.ifCond .eq 21, 3) := by decide +kernel
theorem dL_put_80 : decode cL_put 80 = .ok (.lconst 1, 1) := by decide +kernel
theorem dL_put_81 : decode cL_put 81 = .ok (.aload 4, 2) := by decide +kernel
theorem dL_put_83 : decode cL_put 83 = .ok (.iload 7, 2) := by decide +kernel
theorem dL_put_85 : decode cL_put 85 = .ok (.iaload, 1) := by decide +kernel
theorem dL_put_86 : decode cL_put 86 = .ok (.aload 4, 2) := by decide +kernel
theorem dL_put_88 : decode cL_put 88 = .ok (.iload 8, 2) := by decide +kernel
theorem dL_put_90 : decode cL_put 90 = .ok (.iaload, 1) := by decide +kernel
theorem dL_put_91 : decode cL_put 91 = .ok (.invokestatic 9, 3) := by decide +kernel
theorem dL_put_94 : decode cL_put 94 = .ok (.lshl, 1) := by decide +kernel
theorem dL_put_95 : decode cL_put 95 = .ok (.goto 4, 3) := by decide +kernel
theorem dL_put_98 : decode cL_put 98 = .ok (.lconst 0, 1) := by decide +kernel
theorem dL_put_99 : decode cL_put 99 = .ok (.lor, 1) := by decide +kernel
theorem dL_put_100 : decode cL_put 100 = .ok (.lstore 5, 2) := by decide +kernel
theorem dL_put_102 : decode cL_put 102 = .ok (.iinc 8 1, 3) := by decide +kernel
theorem dL_put_105 : decode cL_put 105 = .ok (.goto (-45), 3) := by decide +kernel
theorem dL_put_108 : decode cL_put 108 = .ok (.iinc 7 1, 3) := by decide +kernel
theorem dL_put_111 : decode cL_put 111 = .ok (.goto (-90), 3) := by decide +kernel
theorem dL_put_114 : decode cL_put 114 = .ok (.lload 5, 2) := by decide +kernel
theorem dL_put_116 : decode cL_put 116 = .ok (.lreturn, 1) := by decide +kernel
set_option maxRecDepth 20000 in
theorem ggL_put_L_size : GoodIn wsL_put wsL_size := goodIn_r _ [5] (by decide +kernel) (by decide +kernel)
set_option maxRecDepth 20000 in
theorem gL_put_L_size : GoodIn wsL_put (va_wsS RL 23 yL_size wsL_size) := goodIn_app (goodIn_of _ (by decide +kernel)) ggL_put_L_size
set_option maxRecDepth 20000 in
theorem ggL_put_L_image : GoodIn wsL_put wsL_image := goodIn_r _ [8, 9, 10, 4, 11] (by decide +kernel) (by decide +kernel)
set_option maxRecDepth 20000 in
theorem gL_put_L_image : GoodIn wsL_put (va_wsS RL 27 yL_image wsL_image) := goodIn_app (goodIn_of _ (by decide +kernel)) ggL_put_L_image
set_option maxRecDepth 20000 in
theorem ggL_put_L_colour : GoodIn wsL_put wsL_colour := goodIn_r _ [14, 15] (by decide +kernel) (by decide +kernel)
set_option maxRecDepth 20000 in
theorem gL_put_L_colour : GoodIn wsL_put (va_wsS RL 31 yL_colour wsL_colour) := goodIn_app (goodIn_of _ (by decide +kernel)) ggL_put_L_colour
set_option maxRecDepth 20000 in
theorem ggL_put_L_coloured : GoodIn wsL_put wsL_coloured := goodIn_r _ [18, 15, 19] (by decide +kernel) (by decide +kernel)
set_option maxRecDepth 20000 in
theorem gL_put_L_coloured : GoodIn wsL_put (va_wsS RL 35 yL_coloured wsL_coloured) := goodIn_app (goodIn_of _ (by decide +kernel)) ggL_put_L_coloured
set_option maxRecDepth 20000 in
theorem ggL_put_L_edge : GoodIn wsL_put wsL_edge := goodIn_r _ [22, 23, 24, 4, 25] (by decide +kernel) (by decide +kernel)
set_option maxRecDepth 20000 in
theorem gL_put_L_edge : GoodIn wsL_put (va_wsS RL 39 yL_edge wsL_edge) := goodIn_app (goodIn_of _ (by decide +kernel)) ggL_put_L_edge
set_option maxRecDepth 20000 in
theorem ggL_put_L_bit : GoodIn wsL_put wsL_bit := goodIn_r _ [25] (by decide +kernel) (by decide +kernel)
set_option maxRecDepth 20000 in
theorem gL_put_L_bit : GoodIn wsL_put (va_wsS RL 9 yL_bit wsL_bit) := goodIn_app (goodIn_of _ (by decide +kernel)) ggL_put_L_bit
theorem wd_L_put_0 : Cond.arrayClass .int ∈ wsL_put := by decide +kernel
def r_L_put : Room := { frames := 3, cells := 1, slots := 8, locals := 62 }
set_option maxRecDepth 100000 in
set_option maxHeartbeats 4000000 in
theorem w_L_put_99 {K : zK} {w : Nat} (hk : zIs K RL cL_put 9 wsL_put (some .long) r_L_put) (hfl : (kL K).stackTraces = false) (hnx : zNX K) {r0 : Int64} {τ0 : zST} (hq : zQG K (.inr (some (.long r0))) τ0) (hw : eN (kZ K) = (w + 1)) (cs ss : Nat) (hb1 : cs + 0 ≤ 1) (hb2 : ss + 0 ≤ 8) (F : Nat) (k21 : Int64 → Int32 → Int32 → Nat → Int64 → Int32 → zST → Option (Int64 × zST)) (hk21 : ∀ (a0 : Int64) (a2 : Int32) (a3 : Int32) (a4 : Nat) (a5 : Int64) (a7 : Int32) (ha4 : aI (kZ K) a4 8) (σ : zST), k21 a0 a2 a3 a4 a5 a7 σ = some (r0, τ0) → Z K cs ss 21 [(0, .long a0), (2, .int a2), (3, .int a3), (4, .ref (eA (kZ K) a4)), (5, .long a5), (7, .int a7)] [] σ) (k60 : Int64 → Int32 → Int32 → Nat → Int64 → Int32 → Int32 → zST → Option (Int64 × zST)) (hk60 : ∀ (a0 : Int64) (a2 : Int32) (a3 : Int32) (a4 : Nat) (a5 : Int64) (a7 : Int32) (a8 : Int32) (ha4 : aI (kZ K) a4 8) (σ : zST), k60 a0 a2 a3 a4 a5 a7 a8 σ = some (r0, τ0) → Z K cs ss 60 [(0, .long a0), (2, .int a2), (3, .int a3), (4, .ref (eA (kZ K) a4)), (5, .long a5), (7, .int a7), (8, .int a8)] [] σ) (a0 : Int64) (a2 : Int32) (a3 : Int32) (a4 : Nat) (a7 : Int32) (a8 : Int32) (t0 : Int64) (t1 : Int64) (ha4 : aI (kZ K) a4 8) (σ : zST) (h : m_L_put_99 F w k21 k60 a0 a2 a3 a4 a7 a8 t0 t1 σ = some (r0, τ0)) : Z K cs ss 99 [(0, .long a0), (2, .int a2), (3, .int a3), (4, .ref (eA (kZ K) a4)), (7, .int a7), (8, .int a8)] [.long t0, .long t1] σ := by
  unfold m_L_put_99 at h
  refine Z_lor hk dL_put_99 ?_
  obtain ⟨x40, e41, h⟩ := nm_get h
  refine Z_eqL e41 ?_
  refine Z_lstore hk (lv' := [(5, .long x40), (0, .long a0), (2, .int a2), (3, .int a3), (4, .ref (eA (kZ K) a4)), (7, .int a7), (8, .int a8)]) dL_put_100 (by decide) rfl ?_
  obtain ⟨x42, e43, h⟩ := nm_get h
  refine Z_iinc hk 6 (v := x42) (lv' := [(8, .int x42), (5, .long x40), (0, .long a0), (2, .int a2), (3, .int a3), (4, .ref (eA (kZ K) a4)), (7, .int a7)]) dL_put_102 rfl (by rw [zc_iinc_1]; exact e43) (by decide) rfl ?_
  refine Z_goto hk (tgt := 60) dL_put_105 (by decide) ?_
  refine Z_sub [2, 3, 4, 5, 1, 6, 0] rfl ?_
  exact hk60 a0 a2 a3 a4 x40 a7 x42 ha4 σ h
set_option maxRecDepth 100000 in
set_option maxHeartbeats 4000000 in
theorem w_L_put_60 {K : zK} {w : Nat} (hk : zIs K RL cL_put 9 wsL_put (some .long) r_L_put) (hfl : (kL K).stackTraces = false) (hnx : zNX K) {r0 : Int64} {τ0 : zST} (hq : zQG K (.inr (some (.long r0))) τ0) (hw : eN (kZ K) = (w + 1)) (cs ss : Nat) (hb1 : cs + 0 ≤ 1) (hb2 : ss + 0 ≤ 8) (F : Nat) (k21 : Int64 → Int32 → Int32 → Nat → Int64 → Int32 → zST → Option (Int64 × zST)) (hk21 : ∀ (a0 : Int64) (a2 : Int32) (a3 : Int32) (a4 : Nat) (a5 : Int64) (a7 : Int32) (ha4 : aI (kZ K) a4 8) (σ : zST), k21 a0 a2 a3 a4 a5 a7 σ = some (r0, τ0) → Z K cs ss 21 [(0, .long a0), (2, .int a2), (3, .int a3), (4, .ref (eA (kZ K) a4)), (5, .long a5), (7, .int a7)] [] σ) : ∀ (n : Nat) (a0 : Int64) (a2 : Int32) (a3 : Int32) (a4 : Nat) (a5 : Int64) (a7 : Int32) (a8 : Int32) (ha4 : aI (kZ K) a4 8) (σ : zST), m_L_put_60 F w k21 n a0 a2 a3 a4 a5 a7 a8 σ = some (r0, τ0) → Z K cs ss 60 [(0, .long a0), (2, .int a2), (3, .int a3), (4, .ref (eA (kZ K) a4)), (5, .long a5), (7, .int a7), (8, .int a8)] [] σ := by
  intro n
  induction n with
  | zero => intro a0 a2 a3 a4 a5 a7 a8 ha4 σ h; cases h
  | succ n ih =>
    intro a0 a2 a3 a4 a5 a7 a8 ha4 σ h
    rw [m_L_put_60] at h
    refine Z_iload hk 6 dL_put_60 rfl ?_
    refine Z_iload hk 5 dL_put_62 rfl ?_
    refine Z_icmp_ge hk (tgt := 108) dL_put_64 (by decide) (fun c24 => ?_) (fun c24 => ?_)
    · have h := if_yes h c24
      obtain ⟨x25, e26, h⟩ := nm_get h
      refine Z_iinc hk 5 (v := x25) (lv' := [(7, .int x25), (0, .long a0), (2, .int a2), (3, .int a3), (4, .ref (eA (kZ K) a4)), (5, .long a5), (8, .int a8)]) dL_put_108 rfl (by rw [zc_iinc_1]; exact e26) (by decide) rfl ?_
      refine Z_goto hk (tgt := 21) dL_put_111 (by decide) ?_
      refine Z_sub [1, 2, 3, 4, 5, 0] rfl ?_
      exact hk21 a0 a2 a3 a4 a5 x25 ha4 σ h
    · have h := if_no h c24
      refine Z_lload hk 4 dL_put_67 rfl ?_
      refine Z_lload_n hk 0 dL_put_69 rfl rfl ?_
      refine Z_iload hk 5 dL_put_70 rfl ?_
      refine Z_iload hk 6 dL_put_72 rfl ?_
      obtain ⟨x27, s28, h29, h⟩ := bd_ok h
      refine Z_callT 3 hk [.long a0, .int a7, .int a8] (c_L_edge hk.loc hk.inj F a0 a7 a8 σ h29) gL_put_L_edge rfl ⟨rfl, rfl⟩ (by decide +kernel) ⟨Nat.le_of_ble_eq_true rfl, Nat.le_of_ble_eq_true rfl⟩ rfl rfl (Nat.le_of_ble_eq_true rfl) ⟨by show cs + 0 ≤ 1; omega, by show ss + 0 ≤ 8; omega⟩ dL_put_74 ?_
      show Z K cs ss 77 [(0, .long a0), (2, .int a2), (3, .int a3), (4, .ref (eA (kZ K) a4)), (5, .long a5), (7, .int a7), (8, .int a8)] [.int x27, .long a5] s28
      refine Z_if_eq hk (tgt := 98) dL_put_77 (by decide) (fun c30 => ?_) (fun c30 => ?_)
      · have h := if_yes h c30
        refine Z_lconst hk dL_put_98 (v := 0) rfl ?_
        refine Z_sub [0, 1, 2, 3, 5, 6] rfl ?_
        exact w_L_put_99 hk hfl hnx hq hw cs ss (by omega) (by omega) F k21 hk21 (m_L_put_60 F w k21 n) ih a0 a2 a3 a4 a7 a8 0 a5 ha4 s28 h
      · have h := if_no h c30
        refine Z_lconst hk dL_put_80 (v := 1) rfl ?_
        refine Z_aload hk 3 dL_put_81 rfl ?_
        refine Z_iload hk 5 dL_put_83 rfl ?_
        obtain ⟨i33, x31, e32, h⟩ := ldI_get h
        refine Z_iald hk ha4 i33 dL_put_85 ?_
        refine Z_eqI e32 ?_
        refine Z_aload hk 3 dL_put_86 rfl ?_
        refine Z_iload hk 6 dL_put_88 rfl ?_
        obtain ⟨i36, x34, e35, h⟩ := ldI_get h
        refine Z_iald hk ha4 i36 dL_put_90 ?_
        refine Z_eqI e35 ?_
        obtain ⟨x37, s38, h39, h⟩ := bd_ok h
        refine Z_callT 2 hk [.int x31, .int x34] (c_L_bit hk.loc hk.inj F x31 x34 s28 h39) gL_put_L_bit rfl ⟨rfl, rfl⟩ (by decide +kernel) ⟨Nat.le_of_ble_eq_true rfl, Nat.le_of_ble_eq_true rfl⟩ rfl rfl (Nat.le_of_ble_eq_true rfl) ⟨by show cs + 0 ≤ 1; omega, by show ss + 0 ≤ 8; omega⟩ dL_put_91 ?_
        show Z K cs ss 94 [(0, .long a0), (2, .int a2), (3, .int a3), (4, .ref (eA (kZ K) a4)), (5, .long a5), (7, .int a7), (8, .int a8)] [.int x37, .long 1, .long a5] s38
        refine Z_lshl hk dL_put_94 ?_
        refine Z_goto hk (tgt := 99) dL_put_95 (by decide) ?_
        refine Z_sub [0, 1, 2, 3, 5, 6] rfl ?_
        exact w_L_put_99 hk hfl hnx hq hw cs ss (by omega) (by omega) F k21 hk21 (m_L_put_60 F w k21 n) ih a0 a2 a3 a4 a7 a8 (jlshl 1 x37) a5 ha4 s38 h
set_option maxRecDepth 100000 in
set_option maxHeartbeats 4000000 in
theorem w_L_put_21 {K : zK} {w : Nat} (hk : zIs K RL cL_put 9 wsL_put (some .long) r_L_put) (hfl : (kL K).stackTraces = false) (hnx : zNX K) {r0 : Int64} {τ0 : zST} (hq : zQG K (.inr (some (.long r0))) τ0) (hw : eN (kZ K) = (w + 1)) (cs ss : Nat) (hb1 : cs + 0 ≤ 1) (hb2 : ss + 0 ≤ 8) (F : Nat) : ∀ (n : Nat) (a0 : Int64) (a2 : Int32) (a3 : Int32) (a4 : Nat) (a5 : Int64) (a7 : Int32) (ha4 : aI (kZ K) a4 8) (σ : zST), m_L_put_21 F w n a0 a2 a3 a4 a5 a7 σ = some (r0, τ0) → Z K cs ss 21 [(0, .long a0), (2, .int a2), (3, .int a3), (4, .ref (eA (kZ K) a4)), (5, .long a5), (7, .int a7)] [] σ := by
  intro n
  induction n with
  | zero => intro a0 a2 a3 a4 a5 a7 ha4 σ h; cases h
  | succ n ih =>
    intro a0 a2 a3 a4 a5 a7 ha4 σ h
    rw [m_L_put_21] at h
    refine Z_iload hk 5 dL_put_21 rfl ?_
    refine Z_iload_n hk 2 dL_put_23 rfl rfl ?_
    refine Z_icmp_ge hk (tgt := 114) dL_put_24 (by decide) (fun c8 => ?_) (fun c8 => ?_)
    · have h := if_yes h c8
      refine Z_lload hk 4 dL_put_114 rfl ?_
      cases h
      exact ZG_lret hk hq ⟨by show cs + 0 ≤ 1; omega, by show ss + 0 ≤ 8; omega⟩ dL_put_116
    · have h := if_no h c8
      refine Z_aload hk 3 dL_put_27 rfl ?_
      refine Z_iload hk 5 dL_put_29 rfl ?_
      refine Z_iload_n hk 2 dL_put_31 rfl rfl ?_
      refine Z_iload_n hk 1 dL_put_32 rfl rfl ?_
      refine Z_iload hk 5 dL_put_33 rfl ?_
      obtain ⟨x9, s10, h11, h⟩ := bd_ok h
      refine Z_callT 3 hk [.int a3, .int a2, .int a7] (c_L_image hk.loc hk.inj F a3 a2 a7 σ h11) gL_put_L_image rfl ⟨rfl, rfl⟩ (by decide +kernel) ⟨Nat.le_of_ble_eq_true rfl, Nat.le_of_ble_eq_true rfl⟩ rfl rfl (Nat.le_of_ble_eq_true rfl) ⟨by show cs + 0 ≤ 1; omega, by show ss + 0 ≤ 8; omega⟩ dL_put_35 ?_
      show Z K cs ss 38 [(0, .long a0), (2, .int a2), (3, .int a3), (4, .ref (eA (kZ K) a4)), (5, .long a5), (7, .int a7)] [.int x9, .int a7, .ref (eA (kZ K) a4)] s10
      obtain ⟨i14, s12, e13, h⟩ := stI_get h
      refine Z_iast hk ha4 i14 dL_put_38 ?_
      refine Z_eqS e13 ?_
      refine Z_lload hk 4 dL_put_39 rfl ?_
      refine Z_aload hk 3 dL_put_41 rfl ?_
      refine Z_iload hk 5 dL_put_43 rfl ?_
      obtain ⟨i17, x15, e16, h⟩ := ldI_get h
      refine Z_iald hk ha4 i17 dL_put_45 ?_
      refine Z_eqI e16 ?_
      refine Z_lload_n hk 0 dL_put_46 rfl rfl ?_
      refine Z_iload hk 5 dL_put_47 rfl ?_
      obtain ⟨x18, s19, h20, h⟩ := bd_ok h
      refine Z_callT 2 hk [.long a0, .int a7] (c_L_colour hk.loc hk.inj F a0 a7 s12 h20) gL_put_L_colour rfl ⟨rfl, rfl⟩ (by decide +kernel) ⟨Nat.le_of_ble_eq_true rfl, Nat.le_of_ble_eq_true rfl⟩ rfl rfl (Nat.le_of_ble_eq_true rfl) ⟨by show cs + 0 ≤ 1; omega, by show ss + 0 ≤ 8; omega⟩ dL_put_49 ?_
      show Z K cs ss 52 [(0, .long a0), (2, .int a2), (3, .int a3), (4, .ref (eA (kZ K) a4)), (5, .long a5), (7, .int a7)] [.int x18, .int x15, .long a5] s19
      obtain ⟨x21, s22, h23, h⟩ := bd_ok h
      refine Z_callT 3 hk [.long a5, .int x15, .int x18] (c_L_coloured hk.loc hk.inj F a5 x15 x18 s19 h23) gL_put_L_coloured rfl ⟨rfl, rfl⟩ (by decide +kernel) ⟨Nat.le_of_ble_eq_true rfl, Nat.le_of_ble_eq_true rfl⟩ rfl rfl (Nat.le_of_ble_eq_true rfl) ⟨by show cs + 0 ≤ 1; omega, by show ss + 0 ≤ 8; omega⟩ dL_put_52 ?_
      show Z K cs ss 55 [(0, .long a0), (2, .int a2), (3, .int a3), (4, .ref (eA (kZ K) a4)), (5, .long a5), (7, .int a7)] [.long x21] s22
      refine Z_lstore hk (lv' := [(5, .long x21), (0, .long a0), (2, .int a2), (3, .int a3), (4, .ref (eA (kZ K) a4)), (7, .int a7)]) dL_put_55 (by decide) rfl ?_
      refine Z_iconst hk dL_put_57 zc_iconst_0 ?_
      refine Z_istore hk (lv' := [(8, .int 0), (5, .long x21), (0, .long a0), (2, .int a2), (3, .int a3), (4, .ref (eA (kZ K) a4)), (7, .int a7)]) dL_put_58 (by decide) rfl ?_
      refine Z_sub [2, 3, 4, 5, 1, 6, 0] rfl ?_
      exact w_L_put_60 hk hfl hnx hq hw cs ss (by omega) (by omega) F (m_L_put_21 F w n) ih F a0 a2 a3 a4 x21 a7 0 ha4 s22 h
set_option maxRecDepth 100000 in
set_option maxHeartbeats 4000000 in
theorem w_L_put_9 {K : zK} {w : Nat} (hk : zIs K RL cL_put 9 wsL_put (some .long) r_L_put) (hfl : (kL K).stackTraces = false) (hnx : zNX K) {r0 : Int64} {τ0 : zST} (hq : zQG K (.inr (some (.long r0))) τ0) (hw : eN (kZ K) = (w + 1)) (cs ss : Nat) (hb1 : cs + 0 ≤ 1) (hb2 : ss + 0 ≤ 8) (F : Nat) (a0 : Int64) (a2 : Int32) (a3 : Int32) (t0 : Nat) (ht0 : aI (kZ K) t0 8) (σ : zST) (h : m_L_put_9 F w a0 a2 a3 t0 σ = some (r0, τ0)) : Z K cs ss 9 [(0, .long a0), (2, .int a2), (3, .int a3)] [.ref (eA (kZ K) t0)] σ := by
  unfold m_L_put_9 at h
  refine Z_astore hk (lv' := [(4, .ref (eA (kZ K) t0)), (0, .long a0), (2, .int a2), (3, .int a3)]) dL_put_9 (by decide) rfl ?_
  refine Z_iload_n hk 3 dL_put_11 rfl rfl ?_
  refine Z_i2l hk dL_put_12 ?_
  refine Z_bipush hk dL_put_13 zc_bipush_52 ?_
  refine Z_lshl hk dL_put_15 ?_
  obtain ⟨x6, e7, h⟩ := nm_get h
  refine Z_eqL e7 ?_
  refine Z_lstore hk (lv' := [(5, .long x6), (4, .ref (eA (kZ K) t0)), (0, .long a0), (2, .int a2), (3, .int a3)]) dL_put_16 (by decide) rfl ?_
  refine Z_iconst hk dL_put_18 zc_iconst_0 ?_
  refine Z_istore hk (lv' := [(7, .int 0), (5, .long x6), (4, .ref (eA (kZ K) t0)), (0, .long a0), (2, .int a2), (3, .int a3)]) dL_put_19 (by decide) rfl ?_
  refine Z_sub [3, 4, 5, 2, 1, 0] rfl ?_
  exact w_L_put_21 hk hfl hnx hq hw cs ss (by omega) (by omega) F F a0 a2 a3 t0 x6 0 ht0 σ h
set_option maxRecDepth 100000 in
set_option maxHeartbeats 4000000 in
theorem w_L_put {K : zK} {w : Nat} (hk : zIs K RL cL_put 9 wsL_put (some .long) r_L_put) (hfl : (kL K).stackTraces = false) (hnx : zNX K) {r0 : Int64} {τ0 : zST} (hq : zQG K (.inr (some (.long r0))) τ0) (hw : eN (kZ K) = w) (F : Nat) (a0 : Int64) (a2 : Int32) (σ : zST) (h : m_L_put F w a0 a2 σ = some (r0, τ0)) : Z K 0 0 0 [(0, .long a0), (2, .int a2)] [] σ := by
  unfold m_L_put at h
  refine Z_lload_n hk 0 dL_put_0 rfl rfl ?_
  obtain ⟨x1, s2, h3, h⟩ := bd_ok h
  refine Z_callT 1 hk [.long a0] (c_L_size hk.loc hk.inj F a0 σ h3) gL_put_L_size rfl ⟨rfl, rfl⟩ (by decide +kernel) ⟨Nat.le_of_ble_eq_true rfl, Nat.le_of_ble_eq_true rfl⟩ rfl rfl (Nat.le_of_ble_eq_true rfl) ⟨by show 0 + 0 ≤ 1; omega, by show 0 + 0 ≤ 8; omega⟩ dL_put_1 ?_
  show Z K 0 0 4 [(0, .long a0), (2, .int a2)] [.int x1] s2
  refine Z_istore_n hk (lv' := [(3, .int x1), (0, .long a0), (2, .int a2)]) dL_put_4 rfl (by decide) rfl ?_
  refine Z_bipush hk dL_put_5 zc_bipush_8 ?_
  obtain ⟨s4, e5, h⟩ := nm_get h
  refine Z_newI hk hw (N := 8) wd_L_put_0 (by decide) (by decide +kernel) (Nat.le_of_ble_eq_true rfl) ⟨by show 0 + 1 ≤ 1; omega, by show 0 + 8 ≤ 8; omega⟩ dL_put_7 (fun K1 hk1 hX1 hw1 haN hl1 hnx1 hq1 => ?_)
  refine Z_eqS e5 ?_
  rw [← hl1] at hfl
  have hnx := hnx1 hnx
  have hq := hq1 _ _ hq
  have hk := hk1
  have hw : eN (kZ K1) = (w + 1) := hw1
  refine Z_sub [1, 2, 0] rfl ?_
  exact w_L_put_9 hk hfl hnx hq hw 1 8 (by omega) (by omega) F a0 a2 x1 w haN s4 h
theorem c_L_put {l : Launch} {E : zE} (hL : eL E) (hJ : eJ E) (hfl : l.stackTraces = false) (F w : Nat) (hw : eN E = w) (a0 : Int64) (a2 : Int32) (σ : zST) {r0 : Int64} {τ0 : zST} (h : m_L_put F w a0 a2 σ = some (r0, τ0)) : CtX l yL_put wsL_put r_L_put E [.long a0, .int a2] σ (.inr (some (.long r0))) τ0 := by
  refine CtX_of (by decide) rfl hL hJ (Nat.le_of_ble_eq_true rfl) (fun K hE hl hk hnx hq => ?_)
  subst hE
  subst hl
  exact w_L_put hk hfl hnx (zQG.of hq) hw F a0 a2 σ h
end

-- CanonCoteLaw.least (J)I
section
theorem dL_least_0 : decode cL_least 0 = .ok (.iconst 0, 1) := by decide +kernel
theorem dL_least_1 : decode cL_least 1 = .ok (.istore_n 2, 1) := by decide +kernel
theorem dL_least_2 : decode cL_least 2 = .ok (.lload_n 0, 1) := by decide +kernel
theorem dL_least_3 : decode cL_least 3 = .ok (.lstore_n 3, 1) := by decide +kernel
theorem dL_least_4 : decode cL_least 4 = .ok (.iconst 1, 1) := by decide +kernel
theorem dL_least_5 : decode cL_least 5 = .ok (.istore 5, 2) := by decide +kernel
theorem dL_least_7 : decode cL_least 7 = .ok (.iload 5, 2) := by decide +kernel
theorem dL_least_9 : decode cL_least 9 = .ok (.lload_n 0, 1) := by decide +kernel
theorem dL_least_10 : decode cL_least 10 = .ok (.invokestatic 23, 3) := by decide +kernel
theorem dL_least_13 : decode cL_least 13 = .ok (.invokestatic 19, 3) := by decide +kernel
theorem dL_least_16 : decode cL_least 16 = .ok (.if_icmp .ge 45, 3) := by decide +kernel
theorem dL_least_19 : decode cL_least 19 = .ok (.lload_n 0, 1) := by decide +kernel
theorem dL_least_20 : decode cL_least 20 = .ok (.iload 5, 2) := by decide +kernel
theorem dL_least_22 : decode cL_least 22 = .ok (.invokestatic 43, 3) := by decide +kernel
theorem dL_least_25 : decode cL_least 25 = .ok (.lstore 6, 2) := by decide +kernel
theorem dL_least_27 : decode cL_least 27 = .ok (.lload 6, 2) := by decide +kernel
theorem dL_least_29 : decode cL_least 29 = .ok (.lload_n 3, 1) := by decide +kernel
theorem dL_least_30 : decode cL_least 30 = .ok (.lcmp, 1) := by decide +kernel
theorem dL_least_31 : decode cL_least 31 = .ok (.ifCond .ge 8, 3) := by decide +kernel
theorem dL_least_34 : decode cL_least 34 = .ok (.iload 5, 2) := by decide +kernel
theorem dL_least_36 : decode cL_least 36 = .ok (.goto 4, 3) := by decide +kernel
theorem dL_least_39 : decode cL_least 39 = .ok (.iload_n 2, 1) := by decide +kernel
theorem dL_least_40 : decode cL_least 40 = .ok (.istore_n 2, 1) := by decide +kernel
theorem dL_least_41 : decode cL_least 41 = .ok (.lload 6, 2) := by decide +kernel
theorem dL_least_43 : decode cL_least 43 = .ok (.lload_n 3, 1) := by decide +kernel
theorem dL_least_44 : decode cL_least 44 = .ok (.lcmp, 1) := by decide +kernel
theorem dL_least_45 : decode cL_least 45 = .ok (.ifCond .ge 8, 3) := by decide +kernel
theorem dL_least_48 : decode cL_least 48 = .ok (.lload 6, 2) := by decide +kernel
theorem dL_least_50 : decode cL_least 50 = .ok (.goto 4, 3) := by decide +kernel
theorem dL_least_53 : decode cL_least 53 = .ok (.lload_n 3, 1) := by decide +kernel
theorem dL_least_54 : decode cL_least 54 = .ok (.lstore_n 3, 1) := by decide +kernel
theorem dL_least_55 : decode cL_least 55 = .ok (.iinc 5 1, 3) := by decide +kernel
theorem dL_least_58 : decode cL_least 58 = .ok (.goto (-51), 3) := by decide +kernel
theorem dL_least_61 : decode cL_least 61 = .ok (.iload_n 2, 1) := by decide +kernel
theorem dL_least_62 : decode cL_least 62 = .ok (.ireturn, 1) := by decide +kernel
set_option maxRecDepth 20000 in
theorem ggL_least_L_size : GoodIn wsL_least wsL_size := goodIn_r _ [4] (by decide +kernel) (by decide +kernel)
set_option maxRecDepth 20000 in
theorem gL_least_L_size : GoodIn wsL_least (va_wsS RL 23 yL_size wsL_size) := goodIn_app (goodIn_of _ (by decide +kernel)) ggL_least_L_size
set_option maxRecDepth 20000 in
theorem ggL_least_L_maps : GoodIn wsL_least wsL_maps := goodIn_r _ [7] (by decide +kernel) (by decide +kernel)
set_option maxRecDepth 20000 in
theorem gL_least_L_maps : GoodIn wsL_least (va_wsS RL 19 yL_maps wsL_maps) := goodIn_app (goodIn_of _ (by decide +kernel)) ggL_least_L_maps
set_option maxRecDepth 20000 in
theorem ggL_least_L_put : GoodIn wsL_least wsL_put := goodIn_r _ [10, 11, 1, 2, 3, 4, 12, 13, 14, 5, 6, 7, 15, 16, 17, 18, 19, 20, 21, 22, 23, 24, 25, 26, 27, 28] (by decide +kernel) (by decide +kernel)
set_option maxRecDepth 20000 in
theorem gL_least_L_put : GoodIn wsL_least (va_wsS RL 43 yL_put wsL_put) := goodIn_app (goodIn_of _ (by decide +kernel)) ggL_least_L_put
def r_L_least : Room := { frames := 4, cells := 122, slots := 976, locals := 90 }
set_option maxRecDepth 100000 in
set_option maxHeartbeats 4000000 in
theorem w_L_least_54 {K : zK} {w : Nat} (hk : zIs K RL cL_least 8 wsL_least (some .int) r_L_least) (hfl : (kL K).stackTraces = false) (hnx : zNX K) {r0 : Int32} {τ0 : zST} (hq : zQG K (.inr (some (.int r0))) τ0) (hw : eN (kZ K) = w) (cs ss : Nat) (C S : Nat) (hr1 : cs + 0 ≤ C) (hr2 : ss + 0 ≤ S) (hb1 : cs + 0 ≤ 122) (hb2 : ss + 0 ≤ 976) (F : Nat) (k7 : Int64 → Int32 → Int64 → Int32 → zST → Option (Int32 × zST)) (hk7 : ∀ (a0 : Int64) (a2 : Int32) (a3 : Int64) (a5 : Int32) (σ : zST), k7 a0 a2 a3 a5 σ = some (r0, τ0) → Z K C S 7 [(0, .long a0), (2, .int a2), (3, .long a3), (5, .int a5)] [] σ) (a0 : Int64) (a2 : Int32) (a5 : Int32) (t0 : Int64) (σ : zST) (h : m_L_least_54 F w k7 a0 a2 a5 t0 σ = some (r0, τ0)) : Z K cs ss 54 [(0, .long a0), (2, .int a2), (5, .int a5)] [.long t0] σ := by
  unfold m_L_least_54 at h
  refine Z_lstore_n hk (lv' := [(3, .long t0), (0, .long a0), (2, .int a2), (5, .int a5)]) dL_least_54 rfl (by decide) rfl ?_
  obtain ⟨x13, e14, h⟩ := nm_get h
  refine Z_iinc hk 3 (v := x13) (lv' := [(5, .int x13), (3, .long t0), (0, .long a0), (2, .int a2)]) dL_least_55 rfl (by rw [zc_iinc_1]; exact e14) (by decide) rfl ?_
  refine Z_goto hk (tgt := 7) dL_least_58 (by decide) ?_
  refine Z_sub [2, 3, 1, 0] rfl ?_
  refine Z_widen (cs' := C) (ss' := S) (by omega) (by omega) ?_
  exact hk7 a0 a2 t0 x13 σ h
set_option maxRecDepth 100000 in
set_option maxHeartbeats 4000000 in
theorem w_L_least_40 {K : zK} {w : Nat} (hk : zIs K RL cL_least 8 wsL_least (some .int) r_L_least) (hfl : (kL K).stackTraces = false) (hnx : zNX K) {r0 : Int32} {τ0 : zST} (hq : zQG K (.inr (some (.int r0))) τ0) (hw : eN (kZ K) = w) (cs ss : Nat) (C S : Nat) (hr1 : cs + 0 ≤ C) (hr2 : ss + 0 ≤ S) (hb1 : cs + 0 ≤ 122) (hb2 : ss + 0 ≤ 976) (F : Nat) (k7 : Int64 → Int32 → Int64 → Int32 → zST → Option (Int32 × zST)) (hk7 : ∀ (a0 : Int64) (a2 : Int32) (a3 : Int64) (a5 : Int32) (σ : zST), k7 a0 a2 a3 a5 σ = some (r0, τ0) → Z K C S 7 [(0, .long a0), (2, .int a2), (3, .long a3), (5, .int a5)] [] σ) (a0 : Int64) (a3 : Int64) (a5 : Int32) (a6 : Int64) (t0 : Int32) (σ : zST) (h : m_L_least_40 F w k7 a0 a3 a5 a6 t0 σ = some (r0, τ0)) : Z K cs ss 40 [(0, .long a0), (3, .long a3), (5, .int a5), (6, .long a6)] [.int t0] σ := by
  unfold m_L_least_40 at h
  refine Z_istore_n hk (lv' := [(2, .int t0), (0, .long a0), (3, .long a3), (5, .int a5), (6, .long a6)]) dL_least_40 rfl (by decide) rfl ?_
  refine Z_lload hk 4 dL_least_41 rfl ?_
  refine Z_lload_n hk 2 dL_least_43 rfl rfl ?_
  refine Z_lcmp hk dL_least_44 ?_
  refine Z_if_ge hk (tgt := 53) dL_least_45 (by decide) (fun c12 => ?_) (fun c12 => ?_)
  · have h := if_yes h c12
    refine Z_lload_n hk 2 dL_least_53 rfl rfl ?_
    refine Z_sub [1, 0, 3] rfl ?_
    exact w_L_least_54 hk hfl hnx hq hw cs ss C S (by omega) (by omega) (by omega) (by omega) F k7 hk7 a0 t0 a5 a3 σ h
  · have h := if_no h c12
    refine Z_lload hk 4 dL_least_48 rfl ?_
    refine Z_goto hk (tgt := 54) dL_least_50 (by decide) ?_
    refine Z_sub [1, 0, 3] rfl ?_
    exact w_L_least_54 hk hfl hnx hq hw cs ss C S (by omega) (by omega) (by omega) (by omega) F k7 hk7 a0 t0 a5 a6 σ h
set_option maxRecDepth 100000 in
set_option maxHeartbeats 4000000 in
theorem w_L_least_7 {K : zK} {w : Nat} (hk : zIs K RL cL_least 8 wsL_least (some .int) r_L_least) (hfl : (kL K).stackTraces = false) (hnx : zNX K) {r0 : Int32} {τ0 : zST} (hq : zQG K (.inr (some (.int r0))) τ0) (hw : eN (kZ K) = w) (F : Nat) : ∀ (n : Nat) (cs ss : Nat) (hb1 : cs + 1 * n + 1 ≤ 122) (hb2 : ss + 8 * n + 8 ≤ 976) (a0 : Int64) (a2 : Int32) (a3 : Int64) (a5 : Int32) (σ : zST), m_L_least_7 F w n a0 a2 a3 a5 σ = some (r0, τ0) → Z K cs ss 7 [(0, .long a0), (2, .int a2), (3, .long a3), (5, .int a5)] [] σ := by
  intro n
  induction n with
  | zero => intro cs ss hb1 hb2 a0 a2 a3 a5 σ h; cases h
  | succ n ih0 =>
    intro cs ss hb1 hb2 a0 a2 a3 a5 σ h
    have ih := ih0 (cs + 1) (ss + 8) (by omega) (by omega)
    rw [m_L_least_7] at h
    refine Z_iload hk 3 dL_least_7 rfl ?_
    refine Z_lload_n hk 0 dL_least_9 rfl rfl ?_
    obtain ⟨x1, s2, h3, h⟩ := bd_ok h
    refine Z_callT 1 hk [.long a0] (c_L_size hk.loc hk.inj F a0 σ h3) gL_least_L_size rfl ⟨rfl, rfl⟩ (by decide +kernel) ⟨Nat.le_of_ble_eq_true rfl, Nat.le_of_ble_eq_true rfl⟩ rfl rfl (Nat.le_of_ble_eq_true rfl) ⟨by show cs + 0 ≤ 122; omega, by show ss + 0 ≤ 976; omega⟩ dL_least_10 ?_
    show Z K cs ss 13 [(0, .long a0), (2, .int a2), (3, .long a3), (5, .int a5)] [.int x1, .int a5] s2
    obtain ⟨x4, s5, h6, h⟩ := bd_ok h
    refine Z_callT 1 hk [.int x1] (c_L_maps hk.loc hk.inj F x1 s2 h6) gL_least_L_maps rfl ⟨rfl, rfl⟩ (by decide +kernel) ⟨Nat.le_of_ble_eq_true rfl, Nat.le_of_ble_eq_true rfl⟩ rfl rfl (Nat.le_of_ble_eq_true rfl) ⟨by show cs + 0 ≤ 122; omega, by show ss + 0 ≤ 976; omega⟩ dL_least_13 ?_
    show Z K cs ss 16 [(0, .long a0), (2, .int a2), (3, .long a3), (5, .int a5)] [.int x4, .int a5] s5
    refine Z_icmp_ge hk (tgt := 61) dL_least_16 (by decide) (fun c7 => ?_) (fun c7 => ?_)
    · have h := if_yes h c7
      refine Z_iload_n hk 1 dL_least_61 rfl rfl ?_
      cases h
      exact ZG_iret hk hq ⟨by show cs + 0 ≤ 122; omega, by show ss + 0 ≤ 976; omega⟩ dL_least_62
    · have h := if_no h c7
      refine Z_lload_n hk 0 dL_least_19 rfl rfl ?_
      refine Z_iload hk 3 dL_least_20 rfl ?_
      obtain ⟨x8, s9, h10, h⟩ := bd_ok h
      refine ZX_callT 2 hk [.long a0, .int a5] (c_L_put hk.loc hk.inj hfl F w hw a0 a5 s5 h10) gL_least_L_put rfl ⟨by decide +kernel, by decide +kernel, by decide +kernel⟩ ⟨Nat.le_of_ble_eq_true rfl, Nat.le_of_ble_eq_true rfl⟩ rfl rfl (Nat.le_of_ble_eq_true rfl) ⟨by show cs + 1 ≤ 122; omega, by show ss + 8 ≤ 976; omega⟩ dL_least_22 (fun X hX => by cases hX) (fun v hv => ?_)
      cases hv
      show Z K (cs + 1) (ss + 8) 25 [(0, .long a0), (2, .int a2), (3, .long a3), (5, .int a5)] [.long x8] s9
      refine Z_lstore hk (lv' := [(6, .long x8), (0, .long a0), (2, .int a2), (3, .long a3), (5, .int a5)]) dL_least_25 (by decide) rfl ?_
      refine Z_lload hk 0 dL_least_27 rfl ?_
      refine Z_lload_n hk 3 dL_least_29 rfl rfl ?_
      refine Z_lcmp hk dL_least_30 ?_
      refine Z_if_ge hk (tgt := 39) dL_least_31 (by decide) (fun c11 => ?_) (fun c11 => ?_)
      · have h := if_yes h c11
        refine Z_iload_n hk 2 dL_least_39 rfl rfl ?_
        refine Z_sub [1, 3, 4, 0] rfl ?_
        exact w_L_least_40 hk hfl hnx hq hw (cs + 1) (ss + 8) (cs + 1) (ss + 8) (by omega) (by omega) (by omega) (by omega) F (m_L_least_7 F w n) ih a0 a3 a5 x8 a2 s9 h
      · have h := if_no h c11
        refine Z_iload hk 4 dL_least_34 rfl ?_
        refine Z_goto hk (tgt := 40) dL_least_36 (by decide) ?_
        refine Z_sub [1, 3, 4, 0] rfl ?_
        exact w_L_least_40 hk hfl hnx hq hw (cs + 1) (ss + 8) (cs + 1) (ss + 8) (by omega) (by omega) (by omega) (by omega) F (m_L_least_7 F w n) ih a0 a3 a5 x8 a5 s9 h
set_option maxRecDepth 100000 in
set_option maxHeartbeats 4000000 in
theorem w_L_least {K : zK} {w : Nat} (hk : zIs K RL cL_least 8 wsL_least (some .int) r_L_least) (hfl : (kL K).stackTraces = false) (hnx : zNX K) {r0 : Int32} {τ0 : zST} (hq : zQG K (.inr (some (.int r0))) τ0) (hw : eN (kZ K) = w) (F : Nat) (a0 : Int64) (σ : zST) (h : m_L_least F w a0 σ = some (r0, τ0)) : Z K 0 0 0 [(0, .long a0)] [] σ := by
  unfold m_L_least at h
  refine Z_iconst hk dL_least_0 zc_iconst_0 ?_
  refine Z_istore_n hk (lv' := [(2, .int 0), (0, .long a0)]) dL_least_1 rfl (by decide) rfl ?_
  refine Z_lload_n hk 1 dL_least_2 rfl rfl ?_
  refine Z_lstore_n hk (lv' := [(3, .long a0), (2, .int 0), (0, .long a0)]) dL_least_3 rfl (by decide) rfl ?_
  refine Z_iconst hk dL_least_4 zc_iconst_1 ?_
  refine Z_istore hk (lv' := [(5, .int 1), (3, .long a0), (2, .int 0), (0, .long a0)]) dL_least_5 (by decide) rfl ?_
  refine Z_sub [3, 2, 1, 0] rfl ?_
  exact w_L_least_7 hk hfl hnx hq hw F 121 0 0 (by omega) (by omega) a0 0 a0 1 σ h
theorem c_L_least {l : Launch} {E : zE} (hL : eL E) (hJ : eJ E) (hfl : l.stackTraces = false) (F w : Nat) (hw : eN E = w) (a0 : Int64) (σ : zST) {r0 : Int32} {τ0 : zST} (h : m_L_least F w a0 σ = some (r0, τ0)) : CtX l yL_least wsL_least r_L_least E [.long a0] σ (.inr (some (.int r0))) τ0 := by
  refine CtX_of (by decide) rfl hL hJ (Nat.le_of_ble_eq_true rfl) (fun K hE hl hk hnx hq => ?_)
  subst hE
  subst hl
  exact w_L_least hk hfl hnx (zQG.of hq) hw F a0 σ h
end

-- CanonCoteLaw.first (JJ)I
section
theorem dL_first_0 : decode cL_first 0 = .ok (.lload_n 0, 1) := by decide +kernel
theorem dL_first_1 : decode cL_first 1 = .ok (.invokestatic 23, 3) := by decide +kernel
theorem dL_first_4 : decode cL_first 4 = .ok (.lload_n 2, 1) := by decide +kernel
theorem dL_first_5 : decode cL_first 5 = .ok (.invokestatic 23, 3) := by decide +kernel
theorem dL_first_8 : decode cL_first 8 = .ok (.if_icmp .ne 7, 3) := by decide +kernel
theorem dL_first_11 : decode cL_first 11 = .ok (.iconst 0, 1) := by decide +kernel
theorem dL_first_12 : decode cL_first 12 = .ok (.goto 5, 3) := by decide +kernel
theorem dL_first_15 : decode cL_first 15 = .ok (.ldc 47, 2) := by decide +kernel
theorem dL_first_17 : decode cL_first 17 = .ok (.istore 4, 2) := by decide +kernel
theorem dL_first_19 : decode cL_first 19 = .ok (.iload 4, 2) := by decide +kernel
theorem dL_first_21 : decode cL_first 21 = .ok (.lload_n 0, 1) := by decide +kernel
theorem dL_first_22 : decode cL_first 22 = .ok (.invokestatic 23, 3) := by decide +kernel
theorem dL_first_25 : decode cL_first 25 = .ok (.invokestatic 19, 3) := by decide +kernel
theorem dL_first_28 : decode cL_first 28 = .ok (.if_icmp .ge 20, 3) := by decide +kernel
theorem dL_first_31 : decode cL_first 31 = .ok (.lload_n 0, 1) := by decide +kernel
theorem dL_first_32 : decode cL_first 32 = .ok (.iload 4, 2) := by decide +kernel
theorem dL_first_34 : decode cL_first 34 = .ok (.invokestatic 43, 3) := by decide +kernel
theorem dL_first_37 : decode cL_first 37 = .ok (.lload_n 2, 1) := by decide +kernel
theorem dL_first_38 : decode cL_first 38 = .ok (.lcmp, 1) := by decide +kernel
theorem dL_first_39 : decode cL_first 39 = .ok (.ifCond .eq 9, 3) := by decide +kernel
theorem dL_first_42 : decode cL_first 42 = .ok (.iinc 4 1, 3) := by decide +kernel
theorem dL_first_45 : decode cL_first 45 = .ok (.goto (-26), 3) := by decide +kernel
theorem dL_first_48 : decode cL_first 48 = .ok (.iload 4, 2) := by decide +kernel
theorem dL_first_50 : decode cL_first 50 = .ok (.lload_n 0, 1) := by decide +kernel
theorem dL_first_51 : decode cL_first 51 = .ok (.invokestatic 23, 3) := by decide +kernel
theorem dL_first_54 : decode cL_first 54 = .ok (.invokestatic 19, 3) := by decide +kernel
theorem dL_first_57 : decode cL_first 57 = .ok (.if_icmp .ge 8, 3) := by decide +kernel
theorem dL_first_60 : decode cL_first 60 = .ok (.iload 4, 2) := by decide +kernel
theorem dL_first_62 : decode cL_first 62 = .ok (.goto 4, 3) := by decide +kernel
theorem dL_first_65 : decode cL_first 65 = .ok (.iconst (-1), 1) := by decide +kernel
theorem dL_first_66 : decode cL_first 66 = .ok (.ireturn, 1) := by decide +kernel
set_option maxRecDepth 20000 in
theorem ggL_first_L_size : GoodIn wsL_first wsL_size := goodIn_r _ [5] (by decide +kernel) (by decide +kernel)
set_option maxRecDepth 20000 in
theorem gL_first_L_size : GoodIn wsL_first (va_wsS RL 23 yL_size wsL_size) := goodIn_app (goodIn_of _ (by decide +kernel)) ggL_first_L_size
set_option maxRecDepth 20000 in
theorem ggL_first_L_maps : GoodIn wsL_first wsL_maps := goodIn_r _ [8] (by decide +kernel) (by decide +kernel)
set_option maxRecDepth 20000 in
theorem gL_first_L_maps : GoodIn wsL_first (va_wsS RL 19 yL_maps wsL_maps) := goodIn_app (goodIn_of _ (by decide +kernel)) ggL_first_L_maps
set_option maxRecDepth 20000 in
theorem ggL_first_L_put : GoodIn wsL_first wsL_put := goodIn_r _ [11, 12, 2, 3, 4, 5, 13, 14, 15, 6, 7, 8, 16, 17, 18, 19, 20, 21, 22, 23, 24, 25, 26, 27, 28, 29] (by decide +kernel) (by decide +kernel)
set_option maxRecDepth 20000 in
theorem gL_first_L_put : GoodIn wsL_first (va_wsS RL 43 yL_put wsL_put) := goodIn_app (goodIn_of _ (by decide +kernel)) ggL_first_L_put
theorem wd_L_first_0 : Cond.constant RL 47 999999 ∈ wsL_first := by decide +kernel
def r_L_first : Room := { frames := 4, cells := 123, slots := 984, locals := 90 }
set_option maxRecDepth 100000 in
set_option maxHeartbeats 4000000 in
theorem w_L_first_48 {K : zK} {w : Nat} (hk : zIs K RL cL_first 5 wsL_first (some .int) r_L_first) (hfl : (kL K).stackTraces = false) (hnx : zNX K) {r0 : Int32} {τ0 : zST} (hq : zQG K (.inr (some (.int r0))) τ0) (hw : eN (kZ K) = w) (cs ss : Nat) (hb1 : cs + 0 ≤ 123) (hb2 : ss + 0 ≤ 984) (F : Nat) (a0 : Int64) (a4 : Int32) (σ : zST) (h : m_L_first_48 F w a0 a4 σ = some (r0, τ0)) : Z K cs ss 48 [(0, .long a0), (4, .int a4)] [] σ := by
  unfold m_L_first_48 at h
  refine Z_iload hk 1 dL_first_48 rfl ?_
  refine Z_lload_n hk 0 dL_first_50 rfl rfl ?_
  obtain ⟨x21, s22, h23, h⟩ := bd_ok h
  refine Z_callT 1 hk [.long a0] (c_L_size hk.loc hk.inj F a0 σ h23) gL_first_L_size rfl ⟨rfl, rfl⟩ (by decide +kernel) ⟨Nat.le_of_ble_eq_true rfl, Nat.le_of_ble_eq_true rfl⟩ rfl rfl (Nat.le_of_ble_eq_true rfl) ⟨by show cs + 0 ≤ 123; omega, by show ss + 0 ≤ 984; omega⟩ dL_first_51 ?_
  show Z K cs ss 54 [(0, .long a0), (4, .int a4)] [.int x21, .int a4] s22
  obtain ⟨x24, s25, h26, h⟩ := bd_ok h
  refine Z_callT 1 hk [.int x21] (c_L_maps hk.loc hk.inj F x21 s22 h26) gL_first_L_maps rfl ⟨rfl, rfl⟩ (by decide +kernel) ⟨Nat.le_of_ble_eq_true rfl, Nat.le_of_ble_eq_true rfl⟩ rfl rfl (Nat.le_of_ble_eq_true rfl) ⟨by show cs + 0 ≤ 123; omega, by show ss + 0 ≤ 984; omega⟩ dL_first_54 ?_
  show Z K cs ss 57 [(0, .long a0), (4, .int a4)] [.int x24, .int a4] s25
  refine Z_icmp_ge hk (tgt := 65) dL_first_57 (by decide) (fun c27 => ?_) (fun c27 => ?_)
  · have h := if_yes h c27
    refine Z_iconst hk dL_first_65 zc_iconst_m1 ?_
    cases h
    exact ZG_iret hk hq ⟨by show cs + 0 ≤ 123; omega, by show ss + 0 ≤ 984; omega⟩ dL_first_66
  · have h := if_no h c27
    refine Z_iload hk 1 dL_first_60 rfl ?_
    refine Z_goto hk (tgt := 66) dL_first_62 (by decide) ?_
    cases h
    exact ZG_iret hk hq ⟨by show cs + 0 ≤ 123; omega, by show ss + 0 ≤ 984; omega⟩ dL_first_66
set_option maxRecDepth 100000 in
set_option maxHeartbeats 4000000 in
theorem w_L_first_19 {K : zK} {w : Nat} (hk : zIs K RL cL_first 5 wsL_first (some .int) r_L_first) (hfl : (kL K).stackTraces = false) (hnx : zNX K) {r0 : Int32} {τ0 : zST} (hq : zQG K (.inr (some (.int r0))) τ0) (hw : eN (kZ K) = w) (F : Nat) : ∀ (n : Nat) (cs ss : Nat) (hb1 : cs + 1 * n + 1 ≤ 123) (hb2 : ss + 8 * n + 8 ≤ 984) (a0 : Int64) (a2 : Int64) (a4 : Int32) (σ : zST), m_L_first_19 F w n a0 a2 a4 σ = some (r0, τ0) → Z K cs ss 19 [(0, .long a0), (2, .long a2), (4, .int a4)] [] σ := by
  intro n
  induction n with
  | zero => intro cs ss hb1 hb2 a0 a2 a4 σ h; cases h
  | succ n ih0 =>
    intro cs ss hb1 hb2 a0 a2 a4 σ h
    have ih := ih0 (cs + 1) (ss + 8) (by omega) (by omega)
    rw [m_L_first_19] at h
    refine Z_iload hk 2 dL_first_19 rfl ?_
    refine Z_lload_n hk 0 dL_first_21 rfl rfl ?_
    obtain ⟨x8, s9, h10, h⟩ := bd_ok h
    refine Z_callT 1 hk [.long a0] (c_L_size hk.loc hk.inj F a0 σ h10) gL_first_L_size rfl ⟨rfl, rfl⟩ (by decide +kernel) ⟨Nat.le_of_ble_eq_true rfl, Nat.le_of_ble_eq_true rfl⟩ rfl rfl (Nat.le_of_ble_eq_true rfl) ⟨by show cs + 0 ≤ 123; omega, by show ss + 0 ≤ 984; omega⟩ dL_first_22 ?_
    show Z K cs ss 25 [(0, .long a0), (2, .long a2), (4, .int a4)] [.int x8, .int a4] s9
    obtain ⟨x11, s12, h13, h⟩ := bd_ok h
    refine Z_callT 1 hk [.int x8] (c_L_maps hk.loc hk.inj F x8 s9 h13) gL_first_L_maps rfl ⟨rfl, rfl⟩ (by decide +kernel) ⟨Nat.le_of_ble_eq_true rfl, Nat.le_of_ble_eq_true rfl⟩ rfl rfl (Nat.le_of_ble_eq_true rfl) ⟨by show cs + 0 ≤ 123; omega, by show ss + 0 ≤ 984; omega⟩ dL_first_25 ?_
    show Z K cs ss 28 [(0, .long a0), (2, .long a2), (4, .int a4)] [.int x11, .int a4] s12
    refine Z_icmp_ge hk (tgt := 48) dL_first_28 (by decide) (fun c14 => ?_) (fun c14 => ?_)
    · have h := if_yes h c14
      refine Z_sub [0, 2] rfl ?_
      exact w_L_first_48 hk hfl hnx hq hw cs ss (by omega) (by omega) F a0 a4 s12 h
    · have h := if_no h c14
      refine Z_lload_n hk 0 dL_first_31 rfl rfl ?_
      refine Z_iload hk 2 dL_first_32 rfl ?_
      obtain ⟨x15, s16, h17, h⟩ := bd_ok h
      refine ZX_callT 2 hk [.long a0, .int a4] (c_L_put hk.loc hk.inj hfl F w hw a0 a4 s12 h17) gL_first_L_put rfl ⟨by decide +kernel, by decide +kernel, by decide +kernel⟩ ⟨Nat.le_of_ble_eq_true rfl, Nat.le_of_ble_eq_true rfl⟩ rfl rfl (Nat.le_of_ble_eq_true rfl) ⟨by show cs + 1 ≤ 123; omega, by show ss + 8 ≤ 984; omega⟩ dL_first_34 (fun X hX => by cases hX) (fun v hv => ?_)
      cases hv
      show Z K (cs + 1) (ss + 8) 37 [(0, .long a0), (2, .long a2), (4, .int a4)] [.long x15] s16
      refine Z_lload_n hk 1 dL_first_37 rfl rfl ?_
      refine Z_lcmp hk dL_first_38 ?_
      refine Z_if_eq hk (tgt := 48) dL_first_39 (by decide) (fun c18 => ?_) (fun c18 => ?_)
      · have h := if_yes h c18
        refine Z_sub [0, 2] rfl ?_
        exact w_L_first_48 hk hfl hnx hq hw (cs + 1) (ss + 8) (by omega) (by omega) F a0 a4 s16 h
      · have h := if_no h c18
        obtain ⟨x19, e20, h⟩ := nm_get h
        refine Z_iinc hk 2 (v := x19) (lv' := [(4, .int x19), (0, .long a0), (2, .long a2)]) dL_first_42 rfl (by rw [zc_iinc_1]; exact e20) (by decide) rfl ?_
        refine Z_goto hk (tgt := 19) dL_first_45 (by decide) ?_
        refine Z_sub [1, 2, 0] rfl ?_
        refine Z_widen (cs' := (cs + 1)) (ss' := (ss + 8)) (by omega) (by omega) ?_
        exact ih a0 a2 x19 s16 h
set_option maxRecDepth 100000 in
set_option maxHeartbeats 4000000 in
theorem w_L_first_17 {K : zK} {w : Nat} (hk : zIs K RL cL_first 5 wsL_first (some .int) r_L_first) (hfl : (kL K).stackTraces = false) (hnx : zNX K) {r0 : Int32} {τ0 : zST} (hq : zQG K (.inr (some (.int r0))) τ0) (hw : eN (kZ K) = w) (cs ss : Nat) (hb1 : cs + 123 ≤ 123) (hb2 : ss + 984 ≤ 984) (F : Nat) (a0 : Int64) (a2 : Int64) (t0 : Int32) (σ : zST) (h : m_L_first_17 F w a0 a2 t0 σ = some (r0, τ0)) : Z K cs ss 17 [(0, .long a0), (2, .long a2)] [.int t0] σ := by
  unfold m_L_first_17 at h
  refine Z_istore hk (lv' := [(4, .int t0), (0, .long a0), (2, .long a2)]) dL_first_17 (by decide) rfl ?_
  refine Z_sub [1, 2, 0] rfl ?_
  exact w_L_first_19 hk hfl hnx hq hw F 122 cs ss (by omega) (by omega) a0 a2 t0 σ h
set_option maxRecDepth 100000 in
set_option maxHeartbeats 4000000 in
theorem w_L_first {K : zK} {w : Nat} (hk : zIs K RL cL_first 5 wsL_first (some .int) r_L_first) (hfl : (kL K).stackTraces = false) (hnx : zNX K) {r0 : Int32} {τ0 : zST} (hq : zQG K (.inr (some (.int r0))) τ0) (hw : eN (kZ K) = w) (F : Nat) (a0 : Int64) (a2 : Int64) (σ : zST) (h : m_L_first F w a0 a2 σ = some (r0, τ0)) : Z K 0 0 0 [(0, .long a0), (2, .long a2)] [] σ := by
  unfold m_L_first at h
  refine Z_lload_n hk 0 dL_first_0 rfl rfl ?_
  obtain ⟨x1, s2, h3, h⟩ := bd_ok h
  refine Z_callT 1 hk [.long a0] (c_L_size hk.loc hk.inj F a0 σ h3) gL_first_L_size rfl ⟨rfl, rfl⟩ (by decide +kernel) ⟨Nat.le_of_ble_eq_true rfl, Nat.le_of_ble_eq_true rfl⟩ rfl rfl (Nat.le_of_ble_eq_true rfl) ⟨by show 0 + 0 ≤ 123; omega, by show 0 + 0 ≤ 984; omega⟩ dL_first_1 ?_
  show Z K 0 0 4 [(0, .long a0), (2, .long a2)] [.int x1] s2
  refine Z_lload_n hk 1 dL_first_4 rfl rfl ?_
  obtain ⟨x4, s5, h6, h⟩ := bd_ok h
  refine Z_callT 1 hk [.long a2] (c_L_size hk.loc hk.inj F a2 s2 h6) gL_first_L_size rfl ⟨rfl, rfl⟩ (by decide +kernel) ⟨Nat.le_of_ble_eq_true rfl, Nat.le_of_ble_eq_true rfl⟩ rfl rfl (Nat.le_of_ble_eq_true rfl) ⟨by show 0 + 0 ≤ 123; omega, by show 0 + 0 ≤ 984; omega⟩ dL_first_5 ?_
  show Z K 0 0 8 [(0, .long a0), (2, .long a2)] [.int x4, .int x1] s5
  refine Z_icmp_ne hk (tgt := 15) dL_first_8 (by decide) (fun c7 => ?_) (fun c7 => ?_)
  · have h := if_yes h c7
    refine Z_iconst hk dL_first_11 zc_iconst_0 ?_
    refine Z_goto hk (tgt := 17) dL_first_12 (by decide) ?_
    refine Z_sub [0, 1] rfl ?_
    exact w_L_first_17 hk hfl hnx hq hw 0 0 (by omega) (by omega) F a0 a2 0 s5 h
  · have h := if_no h c7
    refine Z_ldc hk (v := 999999) dL_first_15 wd_L_first_0 ?_
    refine Z_sub [0, 1] rfl ?_
    exact w_L_first_17 hk hfl hnx hq hw 0 0 (by omega) (by omega) F a0 a2 999999 s5 h
theorem c_L_first {l : Launch} {E : zE} (hL : eL E) (hJ : eJ E) (hfl : l.stackTraces = false) (F w : Nat) (hw : eN E = w) (a0 : Int64) (a2 : Int64) (σ : zST) {r0 : Int32} {τ0 : zST} (h : m_L_first F w a0 a2 σ = some (r0, τ0)) : CtX l yL_first wsL_first r_L_first E [.long a0, .long a2] σ (.inr (some (.int r0))) τ0 := by
  refine CtX_of (by decide) rfl hL hJ (Nat.le_of_ble_eq_true rfl) (fun K hE hl hk hnx hq => ?_)
  subst hE
  subst hl
  exact w_L_first hk hfl hnx (zQG.of hq) hw F a0 a2 σ h
end
