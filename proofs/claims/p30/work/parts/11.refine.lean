-- CanonCote$Refinement.isFirstOfKey (I)Z
section
theorem dX6_isFirstOfKey_0 : decode cX6_isFirstOfKey 0 = .ok (.iconst 0, 1) := by decide +kernel
theorem dX6_isFirstOfKey_1 : decode cX6_isFirstOfKey 1 = .ok (.istore_n 2, 1) := by decide +kernel
theorem dX6_isFirstOfKey_2 : decode cX6_isFirstOfKey 2 = .ok (.iload_n 2, 1) := by decide +kernel
theorem dX6_isFirstOfKey_3 : decode cX6_isFirstOfKey 3 = .ok (.iload_n 1, 1) := by decide +kernel
theorem dX6_isFirstOfKey_4 : decode cX6_isFirstOfKey 4 = .ok (.if_icmp .ge 27, 3) := by decide +kernel
theorem dX6_isFirstOfKey_7 : decode cX6_isFirstOfKey 7 = .ok (.aload_n 0, 1) := by decide +kernel
theorem dX6_isFirstOfKey_8 : decode cX6_isFirstOfKey 8 = .ok (.getfield 18, 3) := by decide +kernel
theorem dX6_isFirstOfKey_11 : decode cX6_isFirstOfKey 11 = .ok (.iload_n 2, 1) := by decide +kernel
theorem dX6_isFirstOfKey_12 : decode cX6_isFirstOfKey 12 = .ok (.laload, 1) := by decide +kernel
theorem dX6_isFirstOfKey_13 : decode cX6_isFirstOfKey 13 = .ok (.aload_n 0, 1) := by decide +kernel
theorem dX6_isFirstOfKey_14 : decode cX6_isFirstOfKey 14 = .ok (.getfield 18, 3) := by decide +kernel
theorem dX6_isFirstOfKey_17 : decode cX6_isFirstOfKey 17 = .ok (.iload_n 1, 1) := by decide +kernel
theorem dX6_isFirstOfKey_18 : decode cX6_isFirstOfKey 18 = .ok (.laload, 1) := by decide +kernel
theorem dX6_isFirstOfKey_19 : decode cX6_isFirstOfKey 19 = .ok (.lcmp, 1) := by decide +kernel
theorem dX6_isFirstOfKey_20 : decode cX6_isFirstOfKey 20 = .ok (.ifCond .ne 5, 3) := by decide +kernel
theorem dX6_isFirstOfKey_23 : decode cX6_isFirstOfKey 23 = .ok (.iconst 0, 1) := by decide +kernel
theorem dX6_isFirstOfKey_24 : decode cX6_isFirstOfKey 24 = .ok (.ireturn, 1) := by decide +kernel
theorem dX6_isFirstOfKey_25 : decode cX6_isFirstOfKey 25 = .ok (.iinc 2 1, 3) := by decide +kernel
theorem dX6_isFirstOfKey_28 : decode cX6_isFirstOfKey 28 = .ok (.goto (-26), 3) := by decide +kernel
theorem dX6_isFirstOfKey_31 : decode cX6_isFirstOfKey 31 = .ok (.iconst 1, 1) := by decide +kernel
theorem dX6_isFirstOfKey_32 : decode cX6_isFirstOfKey 32 = .ok (.ireturn, 1) := by decide +kernel
theorem in_X6_isFirstOfKey_Refinement : ∀ w ∈ u_ws RX6 TX6 5, w ∈ wsX6_isFirstOfKey := by decide +kernel
theorem wd_X6_isFirstOfKey_1 : Cond.fieldLink RX6 18 (TX6 4).1 (TX6 4).2.1 (TX6 4).2.2.1 ∈ wsX6_isFirstOfKey := by decide +kernel
def r_X6_isFirstOfKey : Room := { frames := 1, cells := 0, slots := 0, locals := 12 }
set_option maxRecDepth 100000 in
set_option maxHeartbeats 4000000 in
theorem w_X6_isFirstOfKey_2 {K : zK} (hk : zIs K RX6 cX6_isFirstOfKey 3 wsX6_isFirstOfKey (some .boolean) r_X6_isFirstOfKey) {r0 : Int32} {τ0 : zST} (hq : zQ K (some (.int r0)) τ0) (F : Nat) : ∀ (n : Nat) (a0 : Nat) (a1 : Int32) (a2 : Int32) (ha0 : atRefinement (kZ K) a0) (σ : zST), m_X6_isFirstOfKey_2 F n a0 a1 a2 σ = some (r0, τ0) → Z K 0 0 2 [(0, .ref (eA (kZ K) a0)), (1, .int a1), (2, .int a2)] [] σ := by
  intro n
  induction n with
  | zero => intro a0 a1 a2 ha0 σ h; cases h
  | succ n ih =>
    intro a0 a1 a2 ha0 σ h
    rw [m_X6_isFirstOfKey_2] at h
    refine Z_iload_n hk 2 dX6_isFirstOfKey_2 rfl rfl ?_
    refine Z_iload_n hk 1 dX6_isFirstOfKey_3 rfl rfl ?_
    refine Z_icmp_ge hk (tgt := 31) dX6_isFirstOfKey_4 (by decide) (fun c1 => ?_) (fun c1 => ?_)
    · have h := if_yes h c1
      refine Z_iconst hk dX6_isFirstOfKey_31 zc_iconst_1 ?_
      cases h
      exact Z_zret hk (by decide) hq dX6_isFirstOfKey_32
    · have h := if_no h c1
      refine Z_aload_n hk 0 dX6_isFirstOfKey_7 rfl rfl ?_
      refine Z_get hk in_X6_isFirstOfKey_Refinement rfl ha0.cell.1 (ha0.cell.2 _) 4 (by decide) wd_X6_isFirstOfKey_1 rfl dX6_isFirstOfKey_8 ?_
      refine Z_iload_n hk 2 dX6_isFirstOfKey_11 rfl rfl ?_
      obtain ⟨i4, x2, e3, h⟩ := ldL_get h
      refine Z_lald hk (ha0.keys) i4 dX6_isFirstOfKey_12 ?_
      refine Z_eqL e3 ?_
      refine Z_aload_n hk 0 dX6_isFirstOfKey_13 rfl rfl ?_
      refine Z_get hk in_X6_isFirstOfKey_Refinement rfl ha0.cell.1 (ha0.cell.2 _) 4 (by decide) wd_X6_isFirstOfKey_1 rfl dX6_isFirstOfKey_14 ?_
      refine Z_iload_n hk 1 dX6_isFirstOfKey_17 rfl rfl ?_
      obtain ⟨i7, x5, e6, h⟩ := ldL_get h
      refine Z_lald hk (ha0.keys) i7 dX6_isFirstOfKey_18 ?_
      refine Z_eqL e6 ?_
      refine Z_lcmp hk dX6_isFirstOfKey_19 ?_
      refine Z_if_ne hk (tgt := 25) dX6_isFirstOfKey_20 (by decide) (fun c8 => ?_) (fun c8 => ?_)
      · have h := if_yes h c8
        refine Z_iconst hk dX6_isFirstOfKey_23 zc_iconst_0 ?_
        cases h
        exact Z_zret hk (by decide) hq dX6_isFirstOfKey_24
      · have h := if_no h c8
        obtain ⟨x9, e10, h⟩ := nm_get h
        refine Z_iinc hk 2 (v := x9) (lv' := [(2, .int x9), (0, .ref (eA (kZ K) a0)), (1, .int a1)]) dX6_isFirstOfKey_25 rfl (by rw [zc_iinc_1]; exact e10) (by decide) rfl ?_
        refine Z_goto hk (tgt := 2) dX6_isFirstOfKey_28 (by decide) ?_
        refine Z_sub [1, 2, 0] rfl ?_
        exact ih a0 a1 x9 ha0 σ h
set_option maxRecDepth 100000 in
set_option maxHeartbeats 4000000 in
theorem w_X6_isFirstOfKey {K : zK} (hk : zIs K RX6 cX6_isFirstOfKey 3 wsX6_isFirstOfKey (some .boolean) r_X6_isFirstOfKey) {r0 : Int32} {τ0 : zST} (hq : zQ K (some (.int r0)) τ0) (F : Nat) (a0 : Nat) (a1 : Int32) (ha0 : atRefinement (kZ K) a0) (σ : zST) (h : m_X6_isFirstOfKey F a0 a1 σ = some (r0, τ0)) : Z K 0 0 0 [(0, .ref (eA (kZ K) a0)), (1, .int a1)] [] σ := by
  unfold m_X6_isFirstOfKey at h
  refine Z_iconst hk dX6_isFirstOfKey_0 zc_iconst_0 ?_
  refine Z_istore_n hk (lv' := [(2, .int 0), (0, .ref (eA (kZ K) a0)), (1, .int a1)]) dX6_isFirstOfKey_1 rfl (by decide) rfl ?_
  refine Z_sub [1, 2, 0] rfl ?_
  exact w_X6_isFirstOfKey_2 hk hq F F a0 a1 0 ha0 σ h
theorem c_X6_isFirstOfKey {l : Launch} {E : zE} (hL : eL E) (hJ : eJ E) (F : Nat) (a0 : Nat) (a1 : Int32) (ha0 : atRefinement E a0) (σ : zST) {r0 : Int32} {τ0 : zST} (h : m_X6_isFirstOfKey F a0 a1 σ = some (r0, τ0)) : Ct l yX6_isFirstOfKey wsX6_isFirstOfKey r_X6_isFirstOfKey E [.ref (eA E a0), .int a1] σ (some (.int r0)) τ0 := by
  refine Ct_of (by decide) rfl hL hJ (Nat.le_of_ble_eq_true rfl) (fun K hE hl hk hq => ?_)
  subst hE
  exact w_X6_isFirstOfKey hk hq F a0 a1 ha0 σ h
end

-- CanonCote$Refinement.numberByKeys (I)V
section
theorem dX6_numberByKeys_0 : decode cX6_numberByKeys 0 = .ok (.iconst 0, 1) := by decide +kernel
theorem dX6_numberByKeys_1 : decode cX6_numberByKeys 1 = .ok (.istore_n 2, 1) := by decide +kernel
theorem dX6_numberByKeys_2 : decode cX6_numberByKeys 2 = .ok (.iconst 0, 1) := by decide +kernel
theorem dX6_numberByKeys_3 : decode cX6_numberByKeys 3 = .ok (.istore_n 3, 1) := by decide +kernel
theorem dX6_numberByKeys_4 : decode cX6_numberByKeys 4 = .ok (.iload_n 3, 1) := by decide +kernel
theorem dX6_numberByKeys_5 : decode cX6_numberByKeys 5 = .ok (.iload_n 1, 1) := by decide +kernel
theorem dX6_numberByKeys_6 : decode cX6_numberByKeys 6 = .ok (.if_icmp .ge 23, 3) := by decide +kernel
theorem dX6_numberByKeys_9 : decode cX6_numberByKeys 9 = .ok (.aload_n 0, 1) := by decide +kernel
theorem dX6_numberByKeys_10 : decode cX6_numberByKeys 10 = .ok (.iload_n 3, 1) := by decide +kernel
theorem dX6_numberByKeys_11 : decode cX6_numberByKeys 11 = .ok (.invokevirtual 54, 3) := by decide +kernel
theorem dX6_numberByKeys_14 : decode cX6_numberByKeys 14 = .ok (.ifCond .eq 9, 3) := by decide +kernel
theorem dX6_numberByKeys_17 : decode cX6_numberByKeys 17 = .ok (.iload_n 2, 1) := by decide +kernel
theorem dX6_numberByKeys_18 : decode cX6_numberByKeys 18 = .ok (.iconst 1, 1) := by decide +kernel
theorem dX6_numberByKeys_19 : decode cX6_numberByKeys 19 = .ok (.iload_n 3, 1) := by decide +kernel
theorem dX6_numberByKeys_20 : decode cX6_numberByKeys 20 = .ok (.ishl, 1) := by decide +kernel
theorem dX6_numberByKeys_21 : decode cX6_numberByKeys 21 = .ok (.ior, 1) := by decide +kernel
theorem dX6_numberByKeys_22 : decode cX6_numberByKeys 22 = .ok (.istore_n 2, 1) := by decide +kernel
theorem dX6_numberByKeys_23 : decode cX6_numberByKeys 23 = .ok (.iinc 3 1, 3) := by decide +kernel
theorem dX6_numberByKeys_26 : decode cX6_numberByKeys 26 = .ok (.goto (-22), 3) := by decide +kernel
theorem dX6_numberByKeys_29 : decode cX6_numberByKeys 29 = .ok (.aload_n 0, 1) := by decide +kernel
theorem dX6_numberByKeys_30 : decode cX6_numberByKeys 30 = .ok (.iload_n 2, 1) := by decide +kernel
theorem dX6_numberByKeys_31 : decode cX6_numberByKeys 31 = .ok (.invokestatic 48, 3) := by decide +kernel
theorem dX6_numberByKeys_34 : decode cX6_numberByKeys 34 = .ok (.putfield 35, 3) := by decide +kernel
theorem dX6_numberByKeys_37 : decode cX6_numberByKeys 37 = .ok (.aload_n 0, 1) := by decide +kernel
theorem dX6_numberByKeys_38 : decode cX6_numberByKeys 38 = .ok (.getfield 15, 3) := by decide +kernel
theorem dX6_numberByKeys_41 : decode cX6_numberByKeys 41 = .ok (.iconst 0, 1) := by decide +kernel
theorem dX6_numberByKeys_42 : decode cX6_numberByKeys 42 = .ok (.invokestatic 58, 3) := by decide +kernel
theorem dX6_numberByKeys_45 : decode cX6_numberByKeys 45 = .ok (.iconst 0, 1) := by decide +kernel
theorem dX6_numberByKeys_46 : decode cX6_numberByKeys 46 = .ok (.istore_n 3, 1) := by decide +kernel
theorem dX6_numberByKeys_47 : decode cX6_numberByKeys 47 = .ok (.iload_n 3, 1) := by decide +kernel
theorem dX6_numberByKeys_48 : decode cX6_numberByKeys 48 = .ok (.iload_n 1, 1) := by decide +kernel
theorem dX6_numberByKeys_49 : decode cX6_numberByKeys 49 = .ok (.if_icmp .ge 77, 3) := by decide +kernel
theorem dX6_numberByKeys_52 : decode cX6_numberByKeys 52 = .ok (.iconst 0, 1) := by decide +kernel
theorem dX6_numberByKeys_53 : decode cX6_numberByKeys 53 = .ok (.istore 4, 2) := by decide +kernel
theorem dX6_numberByKeys_55 : decode cX6_numberByKeys 55 = .ok (.iconst 0, 1) := by decide +kernel
theorem dX6_numberByKeys_56 : decode cX6_numberByKeys 56 = .ok (.istore 5, 2) := by decide +kernel
theorem dX6_numberByKeys_58 : decode cX6_numberByKeys 58 = .ok (.iload 5, 2) := by decide +kernel
theorem dX6_numberByKeys_60 : decode cX6_numberByKeys 60 = .ok (.iload_n 1, 1) := by decide +kernel
theorem dX6_numberByKeys_61 : decode cX6_numberByKeys 61 = .ok (.if_icmp .ge 38, 3) := by decide +kernel
theorem dX6_numberByKeys_64 : decode cX6_numberByKeys 64 = .ok (.iload_n 2, 1) := by decide +kernel
theorem dX6_numberByKeys_65 : decode cX6_numberByKeys 65 = .ok (.iload 5, 2) := by decide +kernel
theorem dX6_numberByKeys_67 : decode cX6_numberByKeys 67 = .ok (.invokestatic 64, 3) := by decide +kernel
theorem dX6_numberByKeys_70 : decode cX6_numberByKeys 70 = .ok (.ifCond .eq 23, 3) := by decide +kernel
theorem dX6_numberByKeys_73 : decode cX6_numberByKeys 73 = .ok (.aload_n 0, 1) := by decide +kernel
theorem dX6_numberByKeys_74 : decode cX6_numberByKeys 74 = .ok (.getfield 18, 3) := by decide +kernel
theorem dX6_numberByKeys_77 : decode cX6_numberByKeys 77 = .ok (.iload 5, 2) := by decide +kernel
theorem dX6_numberByKeys_79 : decode cX6_numberByKeys 79 = .ok (.laload, 1) := by decide +kernel
theorem dX6_numberByKeys_80 : decode cX6_numberByKeys 80 = .ok (.aload_n 0, 1) := by decide +kernel
theorem dX6_numberByKeys_81 : decode cX6_numberByKeys 81 = .ok (.getfield 18, 3) := by decide +kernel
theorem dX6_numberByKeys_84 : decode cX6_numberByKeys 84 = .ok (.iload_n 3, 1) := by decide +kernel
theorem dX6_numberByKeys_85 : decode cX6_numberByKeys 85 = .ok (.laload, 1) := by decide +kernel
theorem dX6_numberByKeys_86 : decode cX6_numberByKeys 86 = .ok (.lcmp, 1) := by decide +kernel
theorem dX6_numberByKeys_87 : decode cX6_numberByKeys 87 = .ok (.ifCond .ge 6, 3) := by decide +kernel
theorem dX6_numberByKeys_90 : decode cX6_numberByKeys 90 = .ok (.iinc 4 1, 3) := by decide +kernel
theorem dX6_numberByKeys_93 : decode cX6_numberByKeys 93 = .ok (.iinc 5 1, 3) := by decide +kernel
theorem dX6_numberByKeys_96 : decode cX6_numberByKeys 96 = .ok (.goto (-38), 3) := by decide +kernel
theorem dX6_numberByKeys_99 : decode cX6_numberByKeys 99 = .ok (.aload_n 0, 1) := by decide +kernel
theorem dX6_numberByKeys_100 : decode cX6_numberByKeys 100 = .ok (.getfield 9, 3) := by decide +kernel
theorem dX6_numberByKeys_103 : decode cX6_numberByKeys 103 = .ok (.iload_n 3, 1) := by decide +kernel
theorem dX6_numberByKeys_104 : decode cX6_numberByKeys 104 = .ok (.iload 4, 2) := by decide +kernel
theorem dX6_numberByKeys_106 : decode cX6_numberByKeys 106 = .ok (.iastore, 1) := by decide +kernel
theorem dX6_numberByKeys_107 : decode cX6_numberByKeys 107 = .ok (.aload_n 0, 1) := by decide +kernel
theorem dX6_numberByKeys_108 : decode cX6_numberByKeys 108 = .ok (.getfield 15, 3) := by decide +kernel
theorem dX6_numberByKeys_111 : decode cX6_numberByKeys 111 = .ok (.iload 4, 2) := by decide +kernel
theorem dX6_numberByKeys_113 : decode cX6_numberByKeys 113 = .ok (.dup2, 1) := by decide +kernel
theorem dX6_numberByKeys_114 : decode cX6_numberByKeys 114 = .ok (.iaload, 1) := by decide +kernel
theorem dX6_numberByKeys_115 : decode cX6_numberByKeys 115 = .ok (.iconst 1, 1) := by decide +kernel
theorem dX6_numberByKeys_116 : decode cX6_numberByKeys 116 = .ok (.iload_n 3, 1) := by decide +kernel
theorem dX6_numberByKeys_117 : decode cX6_numberByKeys 117 = .ok (.ishl, 1) := by decide +kernel
theorem dX6_numberByKeys_118 : decode cX6_numberByKeys 118 = .ok (.ior, 1) := by decide +kernel
theorem dX6_numberByKeys_119 : decode cX6_numberByKeys 119 = .ok (.iastore, 1) := by decide +kernel
theorem dX6_numberByKeys_120 : decode cX6_numberByKeys 120 = .ok (.iinc 3 1, 3) := by decide +kernel
theorem dX6_numberByKeys_123 : decode cX6_numberByKeys 123 = .ok (.goto (-76), 3) := by decide +kernel
theorem dX6_numberByKeys_126 : decode cX6_numberByKeys 126 = .ok (.return_, 1) := by decide +kernel
set_option maxRecDepth 20000 in
theorem ggX6_numberByKeys_X6_isFirstOfKey : GoodIn wsX6_numberByKeys wsX6_isFirstOfKey := goodIn_r _ [9, 3, 24, 25, 26, 27, 28] (by decide +kernel) (by decide +kernel)
set_option maxRecDepth 20000 in
theorem gX6_numberByKeys_X6_isFirstOfKey : GoodIn wsX6_numberByKeys (wsV RX6 54 RX6 yX6_isFirstOfKey wsX6_isFirstOfKey) := goodIn_app (goodIn_of _ (by decide +kernel)) ggX6_numberByKeys_X6_isFirstOfKey
set_option maxRecDepth 20000 in
theorem ggX6_numberByKeys_J6_bitCount_0f7a4 : GoodIn wsX6_numberByKeys wsJ6_bitCount_0f7a4 := goodIn_r _ [13, 14, 15, 16] (by decide +kernel) (by decide +kernel)
set_option maxRecDepth 20000 in
theorem gX6_numberByKeys_J6_bitCount_0f7a4 : GoodIn wsX6_numberByKeys (va_wsS RX6 48 yJ6_bitCount_0f7a4 wsJ6_bitCount_0f7a4) := goodIn_app (goodIn_of _ (by decide +kernel)) ggX6_numberByKeys_J6_bitCount_0f7a4
set_option maxRecDepth 20000 in
theorem ggX6_numberByKeys_J7_fill_53178 : GoodIn wsX6_numberByKeys wsJ7_fill_53178 := goodIn_r _ [20] (by decide +kernel) (by decide +kernel)
set_option maxRecDepth 20000 in
theorem gX6_numberByKeys_J7_fill_53178 : GoodIn wsX6_numberByKeys (va_wsS RX6 58 yJ7_fill_53178 wsJ7_fill_53178) := goodIn_app (goodIn_of _ (by decide +kernel)) ggX6_numberByKeys_J7_fill_53178
set_option maxRecDepth 20000 in
theorem ggX6_numberByKeys_X7_isIn : GoodIn wsX6_numberByKeys wsX7_isIn := goodIn_r _ [23] (by decide +kernel) (by decide +kernel)
set_option maxRecDepth 20000 in
theorem gX6_numberByKeys_X7_isIn_n64 : GoodIn wsX6_numberByKeys (wsX7_isIn) := ggX6_numberByKeys_X7_isIn
theorem in_X6_numberByKeys_Refinement : ∀ w ∈ u_ws RX6 TX6 5, w ∈ wsX6_numberByKeys := by decide +kernel
theorem wd_X6_numberByKeys_1 : Cond.fieldLink RX6 35 (TX6 0).1 (TX6 0).2.1 (TX6 0).2.2.1 ∈ wsX6_numberByKeys := by decide +kernel
theorem wd_X6_numberByKeys_2 : Cond.fieldLink RX6 15 (TX6 3).1 (TX6 3).2.1 (TX6 3).2.2.1 ∈ wsX6_numberByKeys := by decide +kernel
theorem wd_X6_numberByKeys_3 : Cond.fieldLink RX6 9 (TX6 2).1 (TX6 2).2.1 (TX6 2).2.2.1 ∈ wsX6_numberByKeys := by decide +kernel
theorem wd_X6_numberByKeys_4 : Cond.initialized yX7_isIn.cls ∈ wsX6_numberByKeys := by decide +kernel
theorem wd_X6_numberByKeys_5 : Cond.static yX7_isIn ∈ wsX6_numberByKeys := by decide +kernel
theorem wd_X6_numberByKeys_6 : Cond.fieldLink RX6 18 (TX6 4).1 (TX6 4).2.1 (TX6 4).2.2.1 ∈ wsX6_numberByKeys := by decide +kernel
def r_X6_numberByKeys : Room := { frames := 2, cells := 0, slots := 0, locals := 35 }
set_option maxRecDepth 100000 in
set_option maxHeartbeats 4000000 in
theorem w_X6_numberByKeys_23 {K : zK} (hk : zIs K RX6 cX6_numberByKeys 6 wsX6_numberByKeys none r_X6_numberByKeys) {τ0 : zST} (hq : zQ K none τ0) (F : Nat) (k4 : Nat → Int32 → Int32 → Int32 → zST → Option zST) (hk4 : ∀ (a0 : Nat) (a1 : Int32) (a2 : Int32) (a3 : Int32) (ha0 : atRefinement (kZ K) a0) (σ : zST), k4 a0 a1 a2 a3 σ = some τ0 → Z K 0 0 4 [(0, .ref (eA (kZ K) a0)), (1, .int a1), (2, .int a2), (3, .int a3)] [] σ) (a0 : Nat) (a1 : Int32) (a2 : Int32) (a3 : Int32) (ha0 : atRefinement (kZ K) a0) (σ : zST) (h : m_X6_numberByKeys_23 F k4 a0 a1 a2 a3 σ = some τ0) : Z K 0 0 23 [(0, .ref (eA (kZ K) a0)), (1, .int a1), (2, .int a2), (3, .int a3)] [] σ := by
  unfold m_X6_numberByKeys_23 at h
  obtain ⟨x17, e18, h⟩ := nm_get h
  refine Z_iinc hk 3 (v := x17) (lv' := [(3, .int x17), (0, .ref (eA (kZ K) a0)), (1, .int a1), (2, .int a2)]) dX6_numberByKeys_23 rfl (by rw [zc_iinc_1]; exact e18) (by decide) rfl ?_
  refine Z_goto hk (tgt := 4) dX6_numberByKeys_26 (by decide) ?_
  refine Z_sub [1, 2, 3, 0] rfl ?_
  exact hk4 a0 a1 a2 x17 ha0 σ h
set_option maxRecDepth 100000 in
set_option maxHeartbeats 4000000 in
theorem w_X6_numberByKeys_93 {K : zK} (hk : zIs K RX6 cX6_numberByKeys 6 wsX6_numberByKeys none r_X6_numberByKeys) {τ0 : zST} (hq : zQ K none τ0) (F : Nat) (k47 : Nat → Int32 → Int32 → Int32 → zST → Option zST) (hk47 : ∀ (a0 : Nat) (a1 : Int32) (a2 : Int32) (a3 : Int32) (ha0 : atRefinement (kZ K) a0) (σ : zST), k47 a0 a1 a2 a3 σ = some τ0 → Z K 0 0 47 [(0, .ref (eA (kZ K) a0)), (1, .int a1), (2, .int a2), (3, .int a3)] [] σ) (k58 : Nat → Int32 → Int32 → Int32 → Int32 → Int32 → zST → Option zST) (hk58 : ∀ (a0 : Nat) (a1 : Int32) (a2 : Int32) (a3 : Int32) (a4 : Int32) (a5 : Int32) (ha0 : atRefinement (kZ K) a0) (σ : zST), k58 a0 a1 a2 a3 a4 a5 σ = some τ0 → Z K 0 0 58 [(0, .ref (eA (kZ K) a0)), (1, .int a1), (2, .int a2), (3, .int a3), (4, .int a4), (5, .int a5)] [] σ) (a0 : Nat) (a1 : Int32) (a2 : Int32) (a3 : Int32) (a4 : Int32) (a5 : Int32) (ha0 : atRefinement (kZ K) a0) (σ : zST) (h : m_X6_numberByKeys_93 F k47 k58 a0 a1 a2 a3 a4 a5 σ = some τ0) : Z K 0 0 93 [(0, .ref (eA (kZ K) a0)), (1, .int a1), (2, .int a2), (3, .int a3), (4, .int a4), (5, .int a5)] [] σ := by
  unfold m_X6_numberByKeys_93 at h
  obtain ⟨x44, e45, h⟩ := nm_get h
  refine Z_iinc hk 5 (v := x44) (lv' := [(5, .int x44), (0, .ref (eA (kZ K) a0)), (1, .int a1), (2, .int a2), (3, .int a3), (4, .int a4)]) dX6_numberByKeys_93 rfl (by rw [zc_iinc_1]; exact e45) (by decide) rfl ?_
  refine Z_goto hk (tgt := 58) dX6_numberByKeys_96 (by decide) ?_
  refine Z_sub [1, 2, 3, 4, 5, 0] rfl ?_
  exact hk58 a0 a1 a2 a3 a4 x44 ha0 σ h
set_option maxRecDepth 100000 in
set_option maxHeartbeats 4000000 in
theorem w_X6_numberByKeys_58 {K : zK} (hk : zIs K RX6 cX6_numberByKeys 6 wsX6_numberByKeys none r_X6_numberByKeys) {τ0 : zST} (hq : zQ K none τ0) (F : Nat) (k47 : Nat → Int32 → Int32 → Int32 → zST → Option zST) (hk47 : ∀ (a0 : Nat) (a1 : Int32) (a2 : Int32) (a3 : Int32) (ha0 : atRefinement (kZ K) a0) (σ : zST), k47 a0 a1 a2 a3 σ = some τ0 → Z K 0 0 47 [(0, .ref (eA (kZ K) a0)), (1, .int a1), (2, .int a2), (3, .int a3)] [] σ) : ∀ (n : Nat) (a0 : Nat) (a1 : Int32) (a2 : Int32) (a3 : Int32) (a4 : Int32) (a5 : Int32) (ha0 : atRefinement (kZ K) a0) (σ : zST), m_X6_numberByKeys_58 F k47 n a0 a1 a2 a3 a4 a5 σ = some τ0 → Z K 0 0 58 [(0, .ref (eA (kZ K) a0)), (1, .int a1), (2, .int a2), (3, .int a3), (4, .int a4), (5, .int a5)] [] σ := by
  intro n
  induction n with
  | zero => intro a0 a1 a2 a3 a4 a5 ha0 σ h; cases h
  | succ n ih =>
    intro a0 a1 a2 a3 a4 a5 ha0 σ h
    rw [m_X6_numberByKeys_58] at h
    refine Z_iload hk 5 dX6_numberByKeys_58 rfl ?_
    refine Z_iload_n hk 1 dX6_numberByKeys_60 rfl rfl ?_
    refine Z_icmp_ge hk (tgt := 99) dX6_numberByKeys_61 (by decide) (fun c19 => ?_) (fun c19 => ?_)
    · have h := if_yes h c19
      refine Z_aload_n hk 0 dX6_numberByKeys_99 rfl rfl ?_
      refine Z_get hk in_X6_numberByKeys_Refinement rfl ha0.cell.1 (ha0.cell.2 _) 2 (by decide) wd_X6_numberByKeys_3 rfl dX6_numberByKeys_100 ?_
      refine Z_iload_n hk 3 dX6_numberByKeys_103 rfl rfl ?_
      refine Z_iload hk 4 dX6_numberByKeys_104 rfl ?_
      obtain ⟨i22, s20, e21, h⟩ := stI_get h
      refine Z_iast hk (ha0.numbers) i22 dX6_numberByKeys_106 ?_
      refine Z_eqS e21 ?_
      refine Z_aload_n hk 0 dX6_numberByKeys_107 rfl rfl ?_
      refine Z_get hk in_X6_numberByKeys_Refinement rfl ha0.cell.1 (ha0.cell.2 _) 3 (by decide) wd_X6_numberByKeys_2 rfl dX6_numberByKeys_108 ?_
      refine Z_iload hk 4 dX6_numberByKeys_111 rfl ?_
      refine Z_dup2 hk dX6_numberByKeys_113 rfl rfl ?_
      obtain ⟨i25, x23, e24, h⟩ := ldI_get h
      refine Z_iald hk (ha0.members) i25 dX6_numberByKeys_114 ?_
      refine Z_eqI e24 ?_
      refine Z_iconst hk dX6_numberByKeys_115 zc_iconst_1 ?_
      refine Z_iload_n hk 3 dX6_numberByKeys_116 rfl rfl ?_
      refine Z_ishl hk dX6_numberByKeys_117 ?_
      refine Z_ior hk dX6_numberByKeys_118 ?_
      obtain ⟨i28, s26, e27, h⟩ := stI_get h
      refine Z_iast hk (ha0.members) i28 dX6_numberByKeys_119 ?_
      refine Z_eqS e27 ?_
      obtain ⟨x29, e30, h⟩ := nm_get h
      refine Z_iinc hk 3 (v := x29) (lv' := [(3, .int x29), (0, .ref (eA (kZ K) a0)), (1, .int a1), (2, .int a2), (4, .int a4), (5, .int a5)]) dX6_numberByKeys_120 rfl (by rw [zc_iinc_1]; exact e30) (by decide) rfl ?_
      refine Z_goto hk (tgt := 47) dX6_numberByKeys_123 (by decide) ?_
      refine Z_sub [1, 2, 3, 0] rfl ?_
      exact hk47 a0 a1 a2 x29 ha0 s26 h
    · have h := if_no h c19
      refine Z_iload_n hk 2 dX6_numberByKeys_64 rfl rfl ?_
      refine Z_iload hk 5 dX6_numberByKeys_65 rfl ?_
      obtain ⟨x31, s32, h33, h⟩ := bd_ok h
      refine Z_callSN 2 hk [.int a2, .int a5] (c_X7_isIn hk.loc hk.inj F a2 a5 σ h33) gX6_numberByKeys_X7_isIn_n64 nw_17 rfl ⟨rfl, rfl⟩ ⟨wd_X6_numberByKeys_4, wd_X6_numberByKeys_5⟩ (by decide +kernel) ⟨Nat.le_of_ble_eq_true rfl, Nat.le_of_ble_eq_true rfl⟩ rfl rfl (Nat.le_of_ble_eq_true rfl) ⟨Nat.zero_le _, Nat.zero_le _⟩ dX6_numberByKeys_67 ?_
      show Z K 0 0 70 [(0, .ref (eA (kZ K) a0)), (1, .int a1), (2, .int a2), (3, .int a3), (4, .int a4), (5, .int a5)] [.int x31] s32
      refine Z_if_eq hk (tgt := 93) dX6_numberByKeys_70 (by decide) (fun c34 => ?_) (fun c34 => ?_)
      · have h := if_yes h c34
        refine Z_sub [0, 1, 2, 3, 4, 5] rfl ?_
        exact w_X6_numberByKeys_93 hk hq F k47 hk47 (m_X6_numberByKeys_58 F k47 n) ih a0 a1 a2 a3 a4 a5 ha0 s32 h
      · have h := if_no h c34
        refine Z_aload_n hk 0 dX6_numberByKeys_73 rfl rfl ?_
        refine Z_get hk in_X6_numberByKeys_Refinement rfl ha0.cell.1 (ha0.cell.2 _) 4 (by decide) wd_X6_numberByKeys_6 rfl dX6_numberByKeys_74 ?_
        refine Z_iload hk 5 dX6_numberByKeys_77 rfl ?_
        obtain ⟨i37, x35, e36, h⟩ := ldL_get h
        refine Z_lald hk (ha0.keys) i37 dX6_numberByKeys_79 ?_
        refine Z_eqL e36 ?_
        refine Z_aload_n hk 0 dX6_numberByKeys_80 rfl rfl ?_
        refine Z_get hk in_X6_numberByKeys_Refinement rfl ha0.cell.1 (ha0.cell.2 _) 4 (by decide) wd_X6_numberByKeys_6 rfl dX6_numberByKeys_81 ?_
        refine Z_iload_n hk 3 dX6_numberByKeys_84 rfl rfl ?_
        obtain ⟨i40, x38, e39, h⟩ := ldL_get h
        refine Z_lald hk (ha0.keys) i40 dX6_numberByKeys_85 ?_
        refine Z_eqL e39 ?_
        refine Z_lcmp hk dX6_numberByKeys_86 ?_
        refine Z_if_ge hk (tgt := 93) dX6_numberByKeys_87 (by decide) (fun c41 => ?_) (fun c41 => ?_)
        · have h := if_yes h c41
          refine Z_sub [0, 1, 2, 3, 4, 5] rfl ?_
          exact w_X6_numberByKeys_93 hk hq F k47 hk47 (m_X6_numberByKeys_58 F k47 n) ih a0 a1 a2 a3 a4 a5 ha0 s32 h
        · have h := if_no h c41
          obtain ⟨x42, e43, h⟩ := nm_get h
          refine Z_iinc hk 4 (v := x42) (lv' := [(4, .int x42), (0, .ref (eA (kZ K) a0)), (1, .int a1), (2, .int a2), (3, .int a3), (5, .int a5)]) dX6_numberByKeys_90 rfl (by rw [zc_iinc_1]; exact e43) (by decide) rfl ?_
          refine Z_sub [1, 2, 3, 4, 0, 5] rfl ?_
          exact w_X6_numberByKeys_93 hk hq F k47 hk47 (m_X6_numberByKeys_58 F k47 n) ih a0 a1 a2 a3 x42 a5 ha0 s32 h
set_option maxRecDepth 100000 in
set_option maxHeartbeats 4000000 in
theorem w_X6_numberByKeys_47 {K : zK} (hk : zIs K RX6 cX6_numberByKeys 6 wsX6_numberByKeys none r_X6_numberByKeys) {τ0 : zST} (hq : zQ K none τ0) (F : Nat) : ∀ (n : Nat) (a0 : Nat) (a1 : Int32) (a2 : Int32) (a3 : Int32) (ha0 : atRefinement (kZ K) a0) (σ : zST), m_X6_numberByKeys_47 F n a0 a1 a2 a3 σ = some τ0 → Z K 0 0 47 [(0, .ref (eA (kZ K) a0)), (1, .int a1), (2, .int a2), (3, .int a3)] [] σ := by
  intro n
  induction n with
  | zero => intro a0 a1 a2 a3 ha0 σ h; cases h
  | succ n ih =>
    intro a0 a1 a2 a3 ha0 σ h
    rw [m_X6_numberByKeys_47] at h
    refine Z_iload_n hk 3 dX6_numberByKeys_47 rfl rfl ?_
    refine Z_iload_n hk 1 dX6_numberByKeys_48 rfl rfl ?_
    refine Z_icmp_ge hk (tgt := 126) dX6_numberByKeys_49 (by decide) (fun c16 => ?_) (fun c16 => ?_)
    · have h := if_yes h c16
      cases h
      exact Z_vret hk hq dX6_numberByKeys_126
    · have h := if_no h c16
      refine Z_iconst hk dX6_numberByKeys_52 zc_iconst_0 ?_
      refine Z_istore hk (lv' := [(4, .int 0), (0, .ref (eA (kZ K) a0)), (1, .int a1), (2, .int a2), (3, .int a3)]) dX6_numberByKeys_53 (by decide) rfl ?_
      refine Z_iconst hk dX6_numberByKeys_55 zc_iconst_0 ?_
      refine Z_istore hk (lv' := [(5, .int 0), (4, .int 0), (0, .ref (eA (kZ K) a0)), (1, .int a1), (2, .int a2), (3, .int a3)]) dX6_numberByKeys_56 (by decide) rfl ?_
      refine Z_sub [2, 3, 4, 5, 1, 0] rfl ?_
      exact w_X6_numberByKeys_58 hk hq F (m_X6_numberByKeys_47 F n) ih F a0 a1 a2 a3 0 0 ha0 σ h
set_option maxRecDepth 100000 in
set_option maxHeartbeats 4000000 in
theorem w_X6_numberByKeys_4 {K : zK} (hk : zIs K RX6 cX6_numberByKeys 6 wsX6_numberByKeys none r_X6_numberByKeys) {τ0 : zST} (hq : zQ K none τ0) (F : Nat) : ∀ (n : Nat) (a0 : Nat) (a1 : Int32) (a2 : Int32) (a3 : Int32) (ha0 : atRefinement (kZ K) a0) (σ : zST), m_X6_numberByKeys_4 F n a0 a1 a2 a3 σ = some τ0 → Z K 0 0 4 [(0, .ref (eA (kZ K) a0)), (1, .int a1), (2, .int a2), (3, .int a3)] [] σ := by
  intro n
  induction n with
  | zero => intro a0 a1 a2 a3 ha0 σ h; cases h
  | succ n ih =>
    intro a0 a1 a2 a3 ha0 σ h
    rw [m_X6_numberByKeys_4] at h
    refine Z_iload_n hk 3 dX6_numberByKeys_4 rfl rfl ?_
    refine Z_iload_n hk 1 dX6_numberByKeys_5 rfl rfl ?_
    refine Z_icmp_ge hk (tgt := 29) dX6_numberByKeys_6 (by decide) (fun c1 => ?_) (fun c1 => ?_)
    · have h := if_yes h c1
      refine Z_aload_n hk 0 dX6_numberByKeys_29 rfl rfl ?_
      refine Z_iload_n hk 2 dX6_numberByKeys_30 rfl rfl ?_
      obtain ⟨x2, s3, h4, h⟩ := bd_ok h
      refine Z_callT 1 hk [.int a2] (c_J6_bitCount_0f7a4 hk.loc hk.inj F a2 σ h4) gX6_numberByKeys_J6_bitCount_0f7a4 rfl ⟨rfl, rfl⟩ (by decide +kernel) ⟨Nat.le_of_ble_eq_true rfl, Nat.le_of_ble_eq_true rfl⟩ rfl rfl (Nat.le_of_ble_eq_true rfl) ⟨Nat.zero_le _, Nat.zero_le _⟩ dX6_numberByKeys_31 ?_
      show Z K 0 0 34 [(0, .ref (eA (kZ K) a0)), (1, .int a1), (2, .int a2), (3, .int a3)] [.int x2, .ref (eA (kZ K) a0)] s3
      obtain ⟨s5, e6, h⟩ := nm_get h
      refine Z_put hk in_X6_numberByKeys_Refinement tyX6 tok_TX6 tnm_TX6 rfl ha0.cell.1 (ha0.cell.2 _) 0 (by decide) wd_X6_numberByKeys_1 rfl (by decide) (Nat.le_of_ble_eq_true rfl) (ha0.put_count _ _) dX6_numberByKeys_34 ?_
      refine Z_eqS e6 ?_
      refine Z_aload_n hk 0 dX6_numberByKeys_37 rfl rfl ?_
      refine Z_get hk in_X6_numberByKeys_Refinement rfl ha0.cell.1 (ha0.cell.2 _) 3 (by decide) wd_X6_numberByKeys_2 rfl dX6_numberByKeys_38 ?_
      refine Z_iconst hk dX6_numberByKeys_41 zc_iconst_0 ?_
      obtain ⟨s8, h9, h⟩ := bv_ok h
      refine Z_callT 2 hk [.ref (eA (kZ K) (a0 + 2)), .int 0] (c_J7_fill_53178 hk.loc hk.inj F 8 (a0 + 2) 0 (ha0.members) s5 h9) gX6_numberByKeys_J7_fill_53178 rfl ⟨rfl, rfl⟩ (by decide +kernel) ⟨Nat.le_of_ble_eq_true rfl, Nat.le_of_ble_eq_true rfl⟩ rfl rfl (Nat.le_of_ble_eq_true rfl) ⟨Nat.zero_le _, Nat.zero_le _⟩ dX6_numberByKeys_42 ?_
      show Z K 0 0 45 [(0, .ref (eA (kZ K) a0)), (1, .int a1), (2, .int a2), (3, .int a3)] [] s8
      refine Z_iconst hk dX6_numberByKeys_45 zc_iconst_0 ?_
      refine Z_istore_n hk (lv' := [(3, .int 0), (0, .ref (eA (kZ K) a0)), (1, .int a1), (2, .int a2)]) dX6_numberByKeys_46 rfl (by decide) rfl ?_
      refine Z_sub [1, 2, 3, 0] rfl ?_
      exact w_X6_numberByKeys_47 hk hq F F a0 a1 a2 0 ha0 s8 h
    · have h := if_no h c1
      refine Z_aload_n hk 0 dX6_numberByKeys_9 rfl rfl ?_
      refine Z_iload_n hk 3 dX6_numberByKeys_10 rfl rfl ?_
      obtain ⟨x10, s11, h12, h⟩ := bd_ok h
      refine Z_callV 1 hk [.int a3] (c_X6_isFirstOfKey hk.loc hk.inj F a0 a3 ha0 σ h12) gX6_numberByKeys_X6_isFirstOfKey rfl ⟨rfl, rfl⟩ (by decide +kernel) ⟨Nat.le_of_ble_eq_true rfl, Nat.le_of_ble_eq_true rfl⟩ ha0.cell.1 (ha0.cell.2 _) rfl rfl rfl (Nat.le_of_ble_eq_true rfl) ⟨Nat.zero_le _, Nat.zero_le _⟩ dX6_numberByKeys_11 ?_
      show Z K 0 0 14 [(0, .ref (eA (kZ K) a0)), (1, .int a1), (2, .int a2), (3, .int a3)] [.int x10] s11
      refine Z_if_eq hk (tgt := 23) dX6_numberByKeys_14 (by decide) (fun c13 => ?_) (fun c13 => ?_)
      · have h := if_yes h c13
        refine Z_sub [0, 1, 2, 3] rfl ?_
        exact w_X6_numberByKeys_23 hk hq F (m_X6_numberByKeys_4 F n) ih a0 a1 a2 a3 ha0 s11 h
      · have h := if_no h c13
        refine Z_iload_n hk 2 dX6_numberByKeys_17 rfl rfl ?_
        refine Z_iconst hk dX6_numberByKeys_18 zc_iconst_1 ?_
        refine Z_iload_n hk 3 dX6_numberByKeys_19 rfl rfl ?_
        refine Z_ishl hk dX6_numberByKeys_20 ?_
        refine Z_ior hk dX6_numberByKeys_21 ?_
        obtain ⟨x14, e15, h⟩ := nm_get h
        refine Z_eqI e15 ?_
        refine Z_istore_n hk (lv' := [(2, .int x14), (0, .ref (eA (kZ K) a0)), (1, .int a1), (3, .int a3)]) dX6_numberByKeys_22 rfl (by decide) rfl ?_
        refine Z_sub [1, 2, 0, 3] rfl ?_
        exact w_X6_numberByKeys_23 hk hq F (m_X6_numberByKeys_4 F n) ih a0 a1 x14 a3 ha0 s11 h
set_option maxRecDepth 100000 in
set_option maxHeartbeats 4000000 in
theorem w_X6_numberByKeys {K : zK} (hk : zIs K RX6 cX6_numberByKeys 6 wsX6_numberByKeys none r_X6_numberByKeys) {τ0 : zST} (hq : zQ K none τ0) (F : Nat) (a0 : Nat) (a1 : Int32) (ha0 : atRefinement (kZ K) a0) (σ : zST) (h : m_X6_numberByKeys F a0 a1 σ = some τ0) : Z K 0 0 0 [(0, .ref (eA (kZ K) a0)), (1, .int a1)] [] σ := by
  unfold m_X6_numberByKeys at h
  refine Z_iconst hk dX6_numberByKeys_0 zc_iconst_0 ?_
  refine Z_istore_n hk (lv' := [(2, .int 0), (0, .ref (eA (kZ K) a0)), (1, .int a1)]) dX6_numberByKeys_1 rfl (by decide) rfl ?_
  refine Z_iconst hk dX6_numberByKeys_2 zc_iconst_0 ?_
  refine Z_istore_n hk (lv' := [(3, .int 0), (2, .int 0), (0, .ref (eA (kZ K) a0)), (1, .int a1)]) dX6_numberByKeys_3 rfl (by decide) rfl ?_
  refine Z_sub [2, 3, 1, 0] rfl ?_
  exact w_X6_numberByKeys_4 hk hq F F a0 a1 0 0 ha0 σ h
theorem c_X6_numberByKeys {l : Launch} {E : zE} (hL : eL E) (hJ : eJ E) (F : Nat) (a0 : Nat) (a1 : Int32) (ha0 : atRefinement E a0) (σ : zST) {τ0 : zST} (h : m_X6_numberByKeys F a0 a1 σ = some τ0) : Ct l yX6_numberByKeys wsX6_numberByKeys r_X6_numberByKeys E [.ref (eA E a0), .int a1] σ none τ0 := by
  refine Ct_of (by decide) rfl hL hJ (Nat.le_of_ble_eq_true rfl) (fun K hE hl hk hq => ?_)
  subst hE
  exact w_X6_numberByKeys hk hq F a0 a1 ha0 σ h
end

-- CanonCote$Refinement.keyOf (LCanonCote$Graph;I)J
section
theorem dX6_keyOf_0 : decode cX6_keyOf 0 = .ok (.aload_n 0, 1) := by decide +kernel
theorem dX6_keyOf_1 : decode cX6_keyOf 1 = .ok (.getfield 9, 3) := by decide +kernel
theorem dX6_keyOf_4 : decode cX6_keyOf 4 = .ok (.iload_n 2, 1) := by decide +kernel
theorem dX6_keyOf_5 : decode cX6_keyOf 5 = .ok (.iaload, 1) := by decide +kernel
theorem dX6_keyOf_6 : decode cX6_keyOf 6 = .ok (.i2l, 1) := by decide +kernel
theorem dX6_keyOf_7 : decode cX6_keyOf 7 = .ok (.lstore_n 3, 1) := by decide +kernel
theorem dX6_keyOf_8 : decode cX6_keyOf 8 = .ok (.iconst 0, 1) := by decide +kernel
theorem dX6_keyOf_9 : decode cX6_keyOf 9 = .ok (.istore 5, 2) := by decide +kernel
theorem dX6_keyOf_11 : decode cX6_keyOf 11 = .ok (.iload 5, 2) := by decide +kernel
theorem dX6_keyOf_13 : decode cX6_keyOf 13 = .ok (.bipush 8, 2) := by decide +kernel
theorem dX6_keyOf_15 : decode cX6_keyOf 15 = .ok (.if_icmp .ge 32, 3) := by decide +kernel
theorem dX6_keyOf_18 : decode cX6_keyOf 18 = .ok (.lload_n 3, 1) := by decide +kernel
theorem dX6_keyOf_19 : decode cX6_keyOf 19 = .ok (.iconst 4, 1) := by decide +kernel
theorem dX6_keyOf_20 : decode cX6_keyOf 20 = .ok (.lshl, 1) := by decide +kernel
theorem dX6_keyOf_21 : decode cX6_keyOf 21 = .ok (.aload_n 1, 1) := by decide +kernel
theorem dX6_keyOf_22 : decode cX6_keyOf 22 = .ok (.getfield 45, 3) := by decide +kernel
theorem dX6_keyOf_25 : decode cX6_keyOf 25 = .ok (.iload_n 2, 1) := by decide +kernel
theorem dX6_keyOf_26 : decode cX6_keyOf 26 = .ok (.iaload, 1) := by decide +kernel
theorem dX6_keyOf_27 : decode cX6_keyOf 27 = .ok (.aload_n 0, 1) := by decide +kernel
theorem dX6_keyOf_28 : decode cX6_keyOf 28 = .ok (.getfield 15, 3) := by decide +kernel
theorem dX6_keyOf_31 : decode cX6_keyOf 31 = .ok (.iload 5, 2) := by decide +kernel
theorem dX6_keyOf_33 : decode cX6_keyOf 33 = .ok (.iaload, 1) := by decide +kernel
theorem dX6_keyOf_34 : decode cX6_keyOf 34 = .ok (.iand, 1) := by decide +kernel
theorem dX6_keyOf_35 : decode cX6_keyOf 35 = .ok (.invokestatic 48, 3) := by decide +kernel
theorem dX6_keyOf_38 : decode cX6_keyOf 38 = .ok (.i2l, 1) := by decide +kernel
theorem dX6_keyOf_39 : decode cX6_keyOf 39 = .ok (.lor, 1) := by decide +kernel
theorem dX6_keyOf_40 : decode cX6_keyOf 40 = .ok (.lstore_n 3, 1) := by decide +kernel
theorem dX6_keyOf_41 : decode cX6_keyOf 41 = .ok (.iinc 5 1, 3) := by decide +kernel
theorem dX6_keyOf_44 : decode cX6_keyOf 44 = .ok (.goto (-33), 3) := by decide +kernel
theorem dX6_keyOf_47 : decode cX6_keyOf 47 = .ok (.lload_n 3, 1) := by decide +kernel
theorem dX6_keyOf_48 : decode cX6_keyOf 48 = .ok (.lreturn, 1) := by decide +kernel
set_option maxRecDepth 20000 in
theorem ggX6_keyOf_J6_bitCount_0f7a4 : GoodIn wsX6_keyOf wsJ6_bitCount_0f7a4 := goodIn_r _ [6, 7, 8, 9] (by decide +kernel) (by decide +kernel)
set_option maxRecDepth 20000 in
theorem gX6_keyOf_J6_bitCount_0f7a4 : GoodIn wsX6_keyOf (va_wsS RX6 48 yJ6_bitCount_0f7a4 wsJ6_bitCount_0f7a4) := goodIn_app (goodIn_of _ (by decide +kernel)) ggX6_keyOf_J6_bitCount_0f7a4
theorem in_X6_keyOf_Refinement : ∀ w ∈ u_ws RX6 TX6 5, w ∈ wsX6_keyOf := by decide +kernel
theorem wd_X6_keyOf_1 : Cond.fieldLink RX6 9 (TX6 2).1 (TX6 2).2.1 (TX6 2).2.2.1 ∈ wsX6_keyOf := by decide +kernel
theorem in_X6_keyOf_Graph : ∀ w ∈ u_ws RX2 TX2 3, w ∈ wsX6_keyOf := by decide +kernel
theorem wd_X6_keyOf_3 : Cond.fieldLink RX6 15 (TX6 3).1 (TX6 3).2.1 (TX6 3).2.2.1 ∈ wsX6_keyOf := by decide +kernel
def r_X6_keyOf : Room := { frames := 2, cells := 0, slots := 0, locals := 32 }
set_option maxRecDepth 100000 in
set_option maxHeartbeats 4000000 in
theorem w_X6_keyOf_11 {K : zK} (hk : zIs K RX6 cX6_keyOf 6 wsX6_keyOf (some .long) r_X6_keyOf) {r0 : Int64} {τ0 : zST} (hq : zQ K (some (.long r0)) τ0) (F : Nat) : ∀ (n : Nat) (a0 : Nat) (a1 : Nat) (a2 : Int32) (a3 : Int64) (a5 : Int32) (ha0 : atRefinement (kZ K) a0) (ha1 : atGraph (kZ K) a1) (σ : zST), m_X6_keyOf_11 F n a0 a1 a2 a3 a5 σ = some (r0, τ0) → Z K 0 0 11 [(0, .ref (eA (kZ K) a0)), (1, .ref (eA (kZ K) a1)), (2, .int a2), (3, .long a3), (5, .int a5)] [] σ := by
  intro n
  induction n with
  | zero => intro a0 a1 a2 a3 a5 ha0 ha1 σ h; cases h
  | succ n ih =>
    intro a0 a1 a2 a3 a5 ha0 ha1 σ h
    rw [m_X6_keyOf_11] at h
    refine Z_iload hk 4 dX6_keyOf_11 rfl ?_
    refine Z_bipush hk dX6_keyOf_13 zc_bipush_8 ?_
    refine Z_icmp_ge hk (tgt := 47) dX6_keyOf_15 (by decide) (fun c6 => ?_) (fun c6 => ?_)
    · have h := if_yes h c6
      refine Z_lload_n hk 3 dX6_keyOf_47 rfl rfl ?_
      cases h
      exact Z_lret hk hq dX6_keyOf_48
    · have h := if_no h c6
      refine Z_lload_n hk 3 dX6_keyOf_18 rfl rfl ?_
      refine Z_iconst hk dX6_keyOf_19 zc_iconst_4 ?_
      refine Z_lshl hk dX6_keyOf_20 ?_
      refine Z_aload_n hk 1 dX6_keyOf_21 rfl rfl ?_
      refine Z_getN hk in_X6_keyOf_Graph rfl ha1.cell.1 (ha1.cell.2 _) 1 (by decide) nw_18 rfl dX6_keyOf_22 ?_
      refine Z_iload_n hk 2 dX6_keyOf_25 rfl rfl ?_
      obtain ⟨i9, x7, e8, h⟩ := ldI_get h
      refine Z_iald hk (ha1.near) i9 dX6_keyOf_26 ?_
      refine Z_eqI e8 ?_
      refine Z_aload_n hk 0 dX6_keyOf_27 rfl rfl ?_
      refine Z_get hk in_X6_keyOf_Refinement rfl ha0.cell.1 (ha0.cell.2 _) 3 (by decide) wd_X6_keyOf_3 rfl dX6_keyOf_28 ?_
      refine Z_iload hk 4 dX6_keyOf_31 rfl ?_
      obtain ⟨i12, x10, e11, h⟩ := ldI_get h
      refine Z_iald hk (ha0.members) i12 dX6_keyOf_33 ?_
      refine Z_eqI e11 ?_
      refine Z_iand hk dX6_keyOf_34 ?_
      obtain ⟨x13, s14, h15, h⟩ := bd_ok h
      refine Z_callT 1 hk [.int (x7 &&& x10)] (c_J6_bitCount_0f7a4 hk.loc hk.inj F (x7 &&& x10) σ h15) gX6_keyOf_J6_bitCount_0f7a4 rfl ⟨rfl, rfl⟩ (by decide +kernel) ⟨Nat.le_of_ble_eq_true rfl, Nat.le_of_ble_eq_true rfl⟩ rfl rfl (Nat.le_of_ble_eq_true rfl) ⟨Nat.zero_le _, Nat.zero_le _⟩ dX6_keyOf_35 ?_
      show Z K 0 0 38 [(0, .ref (eA (kZ K) a0)), (1, .ref (eA (kZ K) a1)), (2, .int a2), (3, .long a3), (5, .int a5)] [.int x13, .long (jlshl a3 4)] s14
      refine Z_i2l hk dX6_keyOf_38 ?_
      refine Z_lor hk dX6_keyOf_39 ?_
      obtain ⟨x16, e17, h⟩ := nm_get h
      refine Z_eqL e17 ?_
      refine Z_lstore_n hk (lv' := [(3, .long x16), (0, .ref (eA (kZ K) a0)), (1, .ref (eA (kZ K) a1)), (2, .int a2), (5, .int a5)]) dX6_keyOf_40 rfl (by decide) rfl ?_
      obtain ⟨x18, e19, h⟩ := nm_get h
      refine Z_iinc hk 4 (v := x18) (lv' := [(5, .int x18), (3, .long x16), (0, .ref (eA (kZ K) a0)), (1, .ref (eA (kZ K) a1)), (2, .int a2)]) dX6_keyOf_41 rfl (by rw [zc_iinc_1]; exact e19) (by decide) rfl ?_
      refine Z_goto hk (tgt := 11) dX6_keyOf_44 (by decide) ?_
      refine Z_sub [2, 3, 4, 1, 0] rfl ?_
      exact ih a0 a1 a2 x16 x18 ha0 ha1 s14 h
set_option maxRecDepth 100000 in
set_option maxHeartbeats 4000000 in
theorem w_X6_keyOf {K : zK} (hk : zIs K RX6 cX6_keyOf 6 wsX6_keyOf (some .long) r_X6_keyOf) {r0 : Int64} {τ0 : zST} (hq : zQ K (some (.long r0)) τ0) (F : Nat) (a0 : Nat) (a1 : Nat) (a2 : Int32) (ha0 : atRefinement (kZ K) a0) (ha1 : atGraph (kZ K) a1) (σ : zST) (h : m_X6_keyOf F a0 a1 a2 σ = some (r0, τ0)) : Z K 0 0 0 [(0, .ref (eA (kZ K) a0)), (1, .ref (eA (kZ K) a1)), (2, .int a2)] [] σ := by
  unfold m_X6_keyOf at h
  refine Z_aload_n hk 0 dX6_keyOf_0 rfl rfl ?_
  refine Z_get hk in_X6_keyOf_Refinement rfl ha0.cell.1 (ha0.cell.2 _) 2 (by decide) wd_X6_keyOf_1 rfl dX6_keyOf_1 ?_
  refine Z_iload_n hk 2 dX6_keyOf_4 rfl rfl ?_
  obtain ⟨i3, x1, e2, h⟩ := ldI_get h
  refine Z_iald hk (ha0.numbers) i3 dX6_keyOf_5 ?_
  refine Z_eqI e2 ?_
  refine Z_i2l hk dX6_keyOf_6 ?_
  obtain ⟨x4, e5, h⟩ := nm_get h
  refine Z_eqL e5 ?_
  refine Z_lstore_n hk (lv' := [(3, .long x4), (0, .ref (eA (kZ K) a0)), (1, .ref (eA (kZ K) a1)), (2, .int a2)]) dX6_keyOf_7 rfl (by decide) rfl ?_
  refine Z_iconst hk dX6_keyOf_8 zc_iconst_0 ?_
  refine Z_istore hk (lv' := [(5, .int 0), (3, .long x4), (0, .ref (eA (kZ K) a0)), (1, .ref (eA (kZ K) a1)), (2, .int a2)]) dX6_keyOf_9 (by decide) rfl ?_
  refine Z_sub [2, 3, 4, 1, 0] rfl ?_
  exact w_X6_keyOf_11 hk hq F F a0 a1 a2 x4 0 ha0 ha1 σ h
theorem c_X6_keyOf {l : Launch} {E : zE} (hL : eL E) (hJ : eJ E) (F : Nat) (a0 : Nat) (a1 : Nat) (a2 : Int32) (ha0 : atRefinement E a0) (ha1 : atGraph E a1) (σ : zST) {r0 : Int64} {τ0 : zST} (h : m_X6_keyOf F a0 a1 a2 σ = some (r0, τ0)) : Ct l yX6_keyOf wsX6_keyOf r_X6_keyOf E [.ref (eA E a0), .ref (eA E a1), .int a2] σ (some (.long r0)) τ0 := by
  refine Ct_of (by decide) rfl hL hJ (Nat.le_of_ble_eq_true rfl) (fun K hE hl hk hq => ?_)
  subst hE
  exact w_X6_keyOf hk hq F a0 a1 a2 ha0 ha1 σ h
end

-- CanonCote$Refinement.refine (LCanonCote$Graph;)V
section
theorem dX6_refine_0 : decode cX6_refine 0 = .ok (.iconst 0, 1) := by decide +kernel
theorem dX6_refine_1 : decode cX6_refine 1 = .ok (.istore_n 2, 1) := by decide +kernel
theorem dX6_refine_2 : decode cX6_refine 2 = .ok (.iload_n 2, 1) := by decide +kernel
theorem dX6_refine_3 : decode cX6_refine 3 = .ok (.aload_n 1, 1) := by decide +kernel
theorem dX6_refine_4 : decode cX6_refine 4 = .ok (.getfield 22, 3) := by decide +kernel
theorem dX6_refine_7 : decode cX6_refine 7 = .ok (.if_icmp .ge 22, 3) := by decide +kernel
theorem dX6_refine_10 : decode cX6_refine 10 = .ok (.aload_n 0, 1) := by decide +kernel
theorem dX6_refine_11 : decode cX6_refine 11 = .ok (.getfield 18, 3) := by decide +kernel
theorem dX6_refine_14 : decode cX6_refine 14 = .ok (.iload_n 2, 1) := by decide +kernel
theorem dX6_refine_15 : decode cX6_refine 15 = .ok (.aload_n 1, 1) := by decide +kernel
theorem dX6_refine_16 : decode cX6_refine 16 = .ok (.getfield 28, 3) := by decide +kernel
theorem dX6_refine_19 : decode cX6_refine 19 = .ok (.iload_n 2, 1) := by decide +kernel
theorem dX6_refine_20 : decode cX6_refine 20 = .ok (.iaload, 1) := by decide +kernel
theorem dX6_refine_21 : decode cX6_refine 21 = .ok (.i2l, 1) := by decide +kernel
theorem dX6_refine_22 : decode cX6_refine 22 = .ok (.lastore, 1) := by decide +kernel
theorem dX6_refine_23 : decode cX6_refine 23 = .ok (.iinc 2 1, 3) := by decide +kernel
theorem dX6_refine_26 : decode cX6_refine 26 = .ok (.goto (-24), 3) := by decide +kernel
theorem dX6_refine_29 : decode cX6_refine 29 = .ok (.aload_n 0, 1) := by decide +kernel
theorem dX6_refine_30 : decode cX6_refine 30 = .ok (.aload_n 1, 1) := by decide +kernel
theorem dX6_refine_31 : decode cX6_refine 31 = .ok (.getfield 22, 3) := by decide +kernel
theorem dX6_refine_34 : decode cX6_refine 34 = .ok (.invokevirtual 31, 3) := by decide +kernel
theorem dX6_refine_37 : decode cX6_refine 37 = .ok (.iconst 0, 1) := by decide +kernel
theorem dX6_refine_38 : decode cX6_refine 38 = .ok (.istore_n 2, 1) := by decide +kernel
theorem dX6_refine_39 : decode cX6_refine 39 = .ok (.iconst 1, 1) := by decide +kernel
theorem dX6_refine_40 : decode cX6_refine 40 = .ok (.istore_n 3, 1) := by decide +kernel
theorem dX6_refine_41 : decode cX6_refine 41 = .ok (.iload_n 3, 1) := by decide +kernel
theorem dX6_refine_42 : decode cX6_refine 42 = .ok (.bipush 8, 2) := by decide +kernel
theorem dX6_refine_44 : decode cX6_refine 44 = .ok (.if_icmp .gt 67, 3) := by decide +kernel
theorem dX6_refine_47 : decode cX6_refine 47 = .ok (.iload_n 2, 1) := by decide +kernel
theorem dX6_refine_48 : decode cX6_refine 48 = .ok (.aload_n 0, 1) := by decide +kernel
theorem dX6_refine_49 : decode cX6_refine 49 = .ok (.getfield 35, 3) := by decide +kernel
theorem dX6_refine_52 : decode cX6_refine 52 = .ok (.if_icmp .ge 59, 3) := by decide +kernel
theorem dX6_refine_55 : decode cX6_refine 55 = .ok (.aload_n 0, 1) := by decide +kernel
theorem dX6_refine_56 : decode cX6_refine 56 = .ok (.getfield 35, 3) := by decide +kernel
theorem dX6_refine_59 : decode cX6_refine 59 = .ok (.istore_n 2, 1) := by decide +kernel
theorem dX6_refine_60 : decode cX6_refine 60 = .ok (.iconst 0, 1) := by decide +kernel
theorem dX6_refine_61 : decode cX6_refine 61 = .ok (.istore 4, 2) := by decide +kernel
theorem dX6_refine_63 : decode cX6_refine 63 = .ok (.iload 4, 2) := by decide +kernel
theorem dX6_refine_65 : decode cX6_refine 65 = .ok (.aload_n 1, 1) := by decide +kernel
theorem dX6_refine_66 : decode cX6_refine 66 = .ok (.getfield 22, 3) := by decide +kernel
theorem dX6_refine_69 : decode cX6_refine 69 = .ok (.if_icmp .ge 23, 3) := by decide +kernel
theorem dX6_refine_72 : decode cX6_refine 72 = .ok (.aload_n 0, 1) := by decide +kernel
theorem dX6_refine_73 : decode cX6_refine 73 = .ok (.getfield 18, 3) := by decide +kernel
theorem dX6_refine_76 : decode cX6_refine 76 = .ok (.iload 4, 2) := by decide +kernel
theorem dX6_refine_78 : decode cX6_refine 78 = .ok (.aload_n 0, 1) := by decide +kernel
theorem dX6_refine_79 : decode cX6_refine 79 = .ok (.aload_n 1, 1) := by decide +kernel
theorem dX6_refine_80 : decode cX6_refine 80 = .ok (.iload 4, 2) := by decide +kernel
theorem dX6_refine_82 : decode cX6_refine 82 = .ok (.invokevirtual 38, 3) := by decide +kernel
theorem dX6_refine_85 : decode cX6_refine 85 = .ok (.lastore, 1) := by decide +kernel
theorem dX6_refine_86 : decode cX6_refine 86 = .ok (.iinc 4 1, 3) := by decide +kernel
theorem dX6_refine_89 : decode cX6_refine 89 = .ok (.goto (-26), 3) := by decide +kernel
theorem dX6_refine_92 : decode cX6_refine 92 = .ok (.aload_n 0, 1) := by decide +kernel
theorem dX6_refine_93 : decode cX6_refine 93 = .ok (.aload_n 1, 1) := by decide +kernel
theorem dX6_refine_94 : decode cX6_refine 94 = .ok (.getfield 22, 3) := by decide +kernel
theorem dX6_refine_97 : decode cX6_refine 97 = .ok (.invokevirtual 31, 3) := by decide +kernel
theorem dX6_refine_100 : decode cX6_refine 100 = .ok (.aload_n 0, 1) := by decide +kernel
theorem dX6_refine_101 : decode cX6_refine 101 = .ok (.iload_n 3, 1) := by decide +kernel
theorem dX6_refine_102 : decode cX6_refine 102 = .ok (.putfield 42, 3) := by decide +kernel
theorem dX6_refine_105 : decode cX6_refine 105 = .ok (.iinc 3 1, 3) := by decide +kernel
theorem dX6_refine_108 : decode cX6_refine 108 = .ok (.goto (-67), 3) := by decide +kernel
theorem dX6_refine_111 : decode cX6_refine 111 = .ok (.return_, 1) := by decide +kernel
set_option maxRecDepth 20000 in
theorem ggX6_refine_X6_numberByKeys : GoodIn wsX6_refine wsX6_numberByKeys := goodIn_r _ [8, 2, 9, 1, 10, 11, 12, 13, 7, 14, 15, 16, 17, 18, 19, 20, 21, 22, 23, 24, 25, 26, 27, 28, 36, 37, 38, 39, 40] (by decide +kernel) (by decide +kernel)
set_option maxRecDepth 20000 in
theorem gX6_refine_X6_numberByKeys : GoodIn wsX6_refine (wsV RX6 31 RX6 yX6_numberByKeys wsX6_numberByKeys) := goodIn_app (goodIn_of _ (by decide +kernel)) ggX6_refine_X6_numberByKeys
set_option maxRecDepth 20000 in
theorem ggX6_refine_X6_keyOf : GoodIn wsX6_refine wsX6_keyOf := goodIn_r _ [32, 10, 9, 15, 16, 17, 18, 19, 20, 21, 36, 37, 38, 39, 40, 33, 34, 35] (by decide +kernel) (by decide +kernel)
set_option maxRecDepth 20000 in
theorem gX6_refine_X6_keyOf : GoodIn wsX6_refine (wsV RX6 38 RX6 yX6_keyOf wsX6_keyOf) := goodIn_app (goodIn_of _ (by decide +kernel)) ggX6_refine_X6_keyOf
theorem in_X6_refine_Graph : ∀ w ∈ u_ws RX2 TX2 3, w ∈ wsX6_refine := by decide +kernel
theorem in_X6_refine_Refinement : ∀ w ∈ u_ws RX6 TX6 5, w ∈ wsX6_refine := by decide +kernel
theorem wd_X6_refine_2 : Cond.fieldLink RX6 18 (TX6 4).1 (TX6 4).2.1 (TX6 4).2.2.1 ∈ wsX6_refine := by decide +kernel
theorem wd_X6_refine_3 : Cond.fieldLink RX6 35 (TX6 0).1 (TX6 0).2.1 (TX6 0).2.2.1 ∈ wsX6_refine := by decide +kernel
theorem wd_X6_refine_4 : Cond.fieldLink RX6 42 (TX6 1).1 (TX6 1).2.1 (TX6 1).2.2.1 ∈ wsX6_refine := by decide +kernel
def r_X6_refine : Room := { frames := 3, cells := 0, slots := 0, locals := 60 }
set_option maxRecDepth 100000 in
set_option maxHeartbeats 4000000 in
theorem w_X6_refine_63 {K : zK} (hk : zIs K RX6 cX6_refine 5 wsX6_refine none r_X6_refine) {τ0 : zST} (hq : zQ K none τ0) (F : Nat) (k41 : Nat → Nat → Int32 → Int32 → zST → Option zST) (hk41 : ∀ (a0 : Nat) (a1 : Nat) (a2 : Int32) (a3 : Int32) (ha0 : atRefinement (kZ K) a0) (ha1 : atGraph (kZ K) a1) (σ : zST), k41 a0 a1 a2 a3 σ = some τ0 → Z K 0 0 41 [(0, .ref (eA (kZ K) a0)), (1, .ref (eA (kZ K) a1)), (2, .int a2), (3, .int a3)] [] σ) : ∀ (n : Nat) (a0 : Nat) (a1 : Nat) (a2 : Int32) (a3 : Int32) (a4 : Int32) (ha0 : atRefinement (kZ K) a0) (ha1 : atGraph (kZ K) a1) (σ : zST), m_X6_refine_63 F k41 n a0 a1 a2 a3 a4 σ = some τ0 → Z K 0 0 63 [(0, .ref (eA (kZ K) a0)), (1, .ref (eA (kZ K) a1)), (2, .int a2), (3, .int a3), (4, .int a4)] [] σ := by
  intro n
  induction n with
  | zero => intro a0 a1 a2 a3 a4 ha0 ha1 σ h; cases h
  | succ n ih =>
    intro a0 a1 a2 a3 a4 ha0 ha1 σ h
    rw [m_X6_refine_63] at h
    refine Z_iload hk 4 dX6_refine_63 rfl ?_
    refine Z_aload_n hk 1 dX6_refine_65 rfl rfl ?_
    refine Z_getN hk in_X6_refine_Graph rfl ha1.cell.1 (ha1.cell.2 _) 0 (by decide) nw_19 rfl dX6_refine_66 ?_
    refine Z_icmp_ge hk (tgt := 92) dX6_refine_69 (by decide) (fun c17 => ?_) (fun c17 => ?_)
    · have h := if_yes h c17
      refine Z_aload_n hk 0 dX6_refine_92 rfl rfl ?_
      refine Z_aload_n hk 1 dX6_refine_93 rfl rfl ?_
      refine Z_getN hk in_X6_refine_Graph rfl ha1.cell.1 (ha1.cell.2 _) 0 (by decide) nw_19 rfl dX6_refine_94 ?_
      obtain ⟨s19, h20, h⟩ := bv_ok h
      refine Z_callV 1 hk [.int (gI σ a1 0)] (c_X6_numberByKeys hk.loc hk.inj F a0 (gI σ a1 0) ha0 σ h20) gX6_refine_X6_numberByKeys rfl ⟨rfl, rfl⟩ (by decide +kernel) ⟨Nat.le_of_ble_eq_true rfl, Nat.le_of_ble_eq_true rfl⟩ ha0.cell.1 (ha0.cell.2 _) rfl rfl rfl (Nat.le_of_ble_eq_true rfl) ⟨Nat.zero_le _, Nat.zero_le _⟩ dX6_refine_97 ?_
      show Z K 0 0 100 [(0, .ref (eA (kZ K) a0)), (1, .ref (eA (kZ K) a1)), (2, .int a2), (3, .int a3), (4, .int a4)] [] s19
      refine Z_aload_n hk 0 dX6_refine_100 rfl rfl ?_
      refine Z_iload_n hk 3 dX6_refine_101 rfl rfl ?_
      obtain ⟨s21, e22, h⟩ := nm_get h
      refine Z_put hk in_X6_refine_Refinement tyX6 tok_TX6 tnm_TX6 rfl ha0.cell.1 (ha0.cell.2 _) 1 (by decide) wd_X6_refine_4 rfl (by decide) (Nat.le_of_ble_eq_true rfl) (ha0.put_lastRound _ _) dX6_refine_102 ?_
      refine Z_eqS e22 ?_
      obtain ⟨x23, e24, h⟩ := nm_get h
      refine Z_iinc hk 3 (v := x23) (lv' := [(3, .int x23), (0, .ref (eA (kZ K) a0)), (1, .ref (eA (kZ K) a1)), (2, .int a2), (4, .int a4)]) dX6_refine_105 rfl (by rw [zc_iinc_1]; exact e24) (by decide) rfl ?_
      refine Z_goto hk (tgt := 41) dX6_refine_108 (by decide) ?_
      refine Z_sub [1, 2, 3, 0] rfl ?_
      exact hk41 a0 a1 a2 x23 ha0 ha1 s21 h
    · have h := if_no h c17
      refine Z_aload_n hk 0 dX6_refine_72 rfl rfl ?_
      refine Z_get hk in_X6_refine_Refinement rfl ha0.cell.1 (ha0.cell.2 _) 4 (by decide) wd_X6_refine_2 rfl dX6_refine_73 ?_
      refine Z_iload hk 4 dX6_refine_76 rfl ?_
      refine Z_aload_n hk 0 dX6_refine_78 rfl rfl ?_
      refine Z_aload_n hk 1 dX6_refine_79 rfl rfl ?_
      refine Z_iload hk 4 dX6_refine_80 rfl ?_
      obtain ⟨x25, s26, h27, h⟩ := bd_ok h
      refine Z_callV 2 hk [.ref (eA (kZ K) a1), .int a4] (c_X6_keyOf hk.loc hk.inj F a0 a1 a4 ha0 ha1 σ h27) gX6_refine_X6_keyOf rfl ⟨rfl, rfl⟩ (by decide +kernel) ⟨Nat.le_of_ble_eq_true rfl, Nat.le_of_ble_eq_true rfl⟩ ha0.cell.1 (ha0.cell.2 _) rfl rfl rfl (Nat.le_of_ble_eq_true rfl) ⟨Nat.zero_le _, Nat.zero_le _⟩ dX6_refine_82 ?_
      show Z K 0 0 85 [(0, .ref (eA (kZ K) a0)), (1, .ref (eA (kZ K) a1)), (2, .int a2), (3, .int a3), (4, .int a4)] [.long x25, .int a4, .ref (eA (kZ K) (a0 + 3))] s26
      obtain ⟨i30, s28, e29, h⟩ := stL_get h
      refine Z_last hk (ha0.keys) i30 dX6_refine_85 ?_
      refine Z_eqS e29 ?_
      obtain ⟨x31, e32, h⟩ := nm_get h
      refine Z_iinc hk 4 (v := x31) (lv' := [(4, .int x31), (0, .ref (eA (kZ K) a0)), (1, .ref (eA (kZ K) a1)), (2, .int a2), (3, .int a3)]) dX6_refine_86 rfl (by rw [zc_iinc_1]; exact e32) (by decide) rfl ?_
      refine Z_goto hk (tgt := 63) dX6_refine_89 (by decide) ?_
      refine Z_sub [1, 2, 3, 4, 0] rfl ?_
      exact ih a0 a1 a2 a3 x31 ha0 ha1 s28 h
set_option maxRecDepth 100000 in
set_option maxHeartbeats 4000000 in
theorem w_X6_refine_41 {K : zK} (hk : zIs K RX6 cX6_refine 5 wsX6_refine none r_X6_refine) {τ0 : zST} (hq : zQ K none τ0) (F : Nat) : ∀ (n : Nat) (a0 : Nat) (a1 : Nat) (a2 : Int32) (a3 : Int32) (ha0 : atRefinement (kZ K) a0) (ha1 : atGraph (kZ K) a1) (σ : zST), m_X6_refine_41 F n a0 a1 a2 a3 σ = some τ0 → Z K 0 0 41 [(0, .ref (eA (kZ K) a0)), (1, .ref (eA (kZ K) a1)), (2, .int a2), (3, .int a3)] [] σ := by
  intro n
  induction n with
  | zero => intro a0 a1 a2 a3 ha0 ha1 σ h; cases h
  | succ n ih =>
    intro a0 a1 a2 a3 ha0 ha1 σ h
    rw [m_X6_refine_41] at h
    refine Z_iload_n hk 3 dX6_refine_41 rfl rfl ?_
    refine Z_bipush hk dX6_refine_42 zc_bipush_8 ?_
    refine Z_icmp_gt hk (tgt := 111) dX6_refine_44 (by decide) (fun c13 => ?_) (fun c13 => ?_)
    · have h := if_yes h c13
      cases h
      exact Z_vret hk hq dX6_refine_111
    · have h := if_no h c13
      refine Z_iload_n hk 2 dX6_refine_47 rfl rfl ?_
      refine Z_aload_n hk 0 dX6_refine_48 rfl rfl ?_
      refine Z_get hk in_X6_refine_Refinement rfl ha0.cell.1 (ha0.cell.2 _) 0 (by decide) wd_X6_refine_3 rfl dX6_refine_49 ?_
      refine Z_icmp_ge hk (tgt := 111) dX6_refine_52 (by decide) (fun c14 => ?_) (fun c14 => ?_)
      · have h := if_yes h c14
        cases h
        exact Z_vret hk hq dX6_refine_111
      · have h := if_no h c14
        refine Z_aload_n hk 0 dX6_refine_55 rfl rfl ?_
        refine Z_get hk in_X6_refine_Refinement rfl ha0.cell.1 (ha0.cell.2 _) 0 (by decide) wd_X6_refine_3 rfl dX6_refine_56 ?_
        obtain ⟨x15, e16, h⟩ := nm_get h
        refine Z_eqI e16 ?_
        refine Z_istore_n hk (lv' := [(2, .int x15), (0, .ref (eA (kZ K) a0)), (1, .ref (eA (kZ K) a1)), (3, .int a3)]) dX6_refine_59 rfl (by decide) rfl ?_
        refine Z_iconst hk dX6_refine_60 zc_iconst_0 ?_
        refine Z_istore hk (lv' := [(4, .int 0), (2, .int x15), (0, .ref (eA (kZ K) a0)), (1, .ref (eA (kZ K) a1)), (3, .int a3)]) dX6_refine_61 (by decide) rfl ?_
        refine Z_sub [2, 3, 1, 4, 0] rfl ?_
        exact w_X6_refine_63 hk hq F (m_X6_refine_41 F n) ih F a0 a1 x15 a3 0 ha0 ha1 σ h
set_option maxRecDepth 100000 in
set_option maxHeartbeats 4000000 in
theorem w_X6_refine_2 {K : zK} (hk : zIs K RX6 cX6_refine 5 wsX6_refine none r_X6_refine) {τ0 : zST} (hq : zQ K none τ0) (F : Nat) : ∀ (n : Nat) (a0 : Nat) (a1 : Nat) (a2 : Int32) (ha0 : atRefinement (kZ K) a0) (ha1 : atGraph (kZ K) a1) (σ : zST), m_X6_refine_2 F n a0 a1 a2 σ = some τ0 → Z K 0 0 2 [(0, .ref (eA (kZ K) a0)), (1, .ref (eA (kZ K) a1)), (2, .int a2)] [] σ := by
  intro n
  induction n with
  | zero => intro a0 a1 a2 ha0 ha1 σ h; cases h
  | succ n ih =>
    intro a0 a1 a2 ha0 ha1 σ h
    rw [m_X6_refine_2] at h
    refine Z_iload_n hk 2 dX6_refine_2 rfl rfl ?_
    refine Z_aload_n hk 1 dX6_refine_3 rfl rfl ?_
    refine Z_getN hk in_X6_refine_Graph rfl ha1.cell.1 (ha1.cell.2 _) 0 (by decide) nw_19 rfl dX6_refine_4 ?_
    refine Z_icmp_ge hk (tgt := 29) dX6_refine_7 (by decide) (fun c1 => ?_) (fun c1 => ?_)
    · have h := if_yes h c1
      refine Z_aload_n hk 0 dX6_refine_29 rfl rfl ?_
      refine Z_aload_n hk 1 dX6_refine_30 rfl rfl ?_
      refine Z_getN hk in_X6_refine_Graph rfl ha1.cell.1 (ha1.cell.2 _) 0 (by decide) nw_19 rfl dX6_refine_31 ?_
      obtain ⟨s3, h4, h⟩ := bv_ok h
      refine Z_callV 1 hk [.int (gI σ a1 0)] (c_X6_numberByKeys hk.loc hk.inj F a0 (gI σ a1 0) ha0 σ h4) gX6_refine_X6_numberByKeys rfl ⟨rfl, rfl⟩ (by decide +kernel) ⟨Nat.le_of_ble_eq_true rfl, Nat.le_of_ble_eq_true rfl⟩ ha0.cell.1 (ha0.cell.2 _) rfl rfl rfl (Nat.le_of_ble_eq_true rfl) ⟨Nat.zero_le _, Nat.zero_le _⟩ dX6_refine_34 ?_
      show Z K 0 0 37 [(0, .ref (eA (kZ K) a0)), (1, .ref (eA (kZ K) a1)), (2, .int a2)] [] s3
      refine Z_iconst hk dX6_refine_37 zc_iconst_0 ?_
      refine Z_istore_n hk (lv' := [(2, .int 0), (0, .ref (eA (kZ K) a0)), (1, .ref (eA (kZ K) a1))]) dX6_refine_38 rfl (by decide) rfl ?_
      refine Z_iconst hk dX6_refine_39 zc_iconst_1 ?_
      refine Z_istore_n hk (lv' := [(3, .int 1), (2, .int 0), (0, .ref (eA (kZ K) a0)), (1, .ref (eA (kZ K) a1))]) dX6_refine_40 rfl (by decide) rfl ?_
      refine Z_sub [2, 3, 1, 0] rfl ?_
      exact w_X6_refine_41 hk hq F F a0 a1 0 1 ha0 ha1 s3 h
    · have h := if_no h c1
      refine Z_aload_n hk 0 dX6_refine_10 rfl rfl ?_
      refine Z_get hk in_X6_refine_Refinement rfl ha0.cell.1 (ha0.cell.2 _) 4 (by decide) wd_X6_refine_2 rfl dX6_refine_11 ?_
      refine Z_iload_n hk 2 dX6_refine_14 rfl rfl ?_
      refine Z_aload_n hk 1 dX6_refine_15 rfl rfl ?_
      refine Z_getN hk in_X6_refine_Graph rfl ha1.cell.1 (ha1.cell.2 _) 2 (by decide) nw_20 rfl dX6_refine_16 ?_
      refine Z_iload_n hk 2 dX6_refine_19 rfl rfl ?_
      obtain ⟨i7, x5, e6, h⟩ := ldI_get h
      refine Z_iald hk (ha1.colours) i7 dX6_refine_20 ?_
      refine Z_eqI e6 ?_
      refine Z_i2l hk dX6_refine_21 ?_
      obtain ⟨i10, s8, e9, h⟩ := stL_get h
      refine Z_last hk (ha0.keys) i10 dX6_refine_22 ?_
      refine Z_eqS e9 ?_
      obtain ⟨x11, e12, h⟩ := nm_get h
      refine Z_iinc hk 2 (v := x11) (lv' := [(2, .int x11), (0, .ref (eA (kZ K) a0)), (1, .ref (eA (kZ K) a1))]) dX6_refine_23 rfl (by rw [zc_iinc_1]; exact e12) (by decide) rfl ?_
      refine Z_goto hk (tgt := 2) dX6_refine_26 (by decide) ?_
      refine Z_sub [1, 2, 0] rfl ?_
      exact ih a0 a1 x11 ha0 ha1 s8 h
set_option maxRecDepth 100000 in
set_option maxHeartbeats 4000000 in
theorem w_X6_refine {K : zK} (hk : zIs K RX6 cX6_refine 5 wsX6_refine none r_X6_refine) {τ0 : zST} (hq : zQ K none τ0) (F : Nat) (a0 : Nat) (a1 : Nat) (ha0 : atRefinement (kZ K) a0) (ha1 : atGraph (kZ K) a1) (σ : zST) (h : m_X6_refine F a0 a1 σ = some τ0) : Z K 0 0 0 [(0, .ref (eA (kZ K) a0)), (1, .ref (eA (kZ K) a1))] [] σ := by
  unfold m_X6_refine at h
  refine Z_iconst hk dX6_refine_0 zc_iconst_0 ?_
  refine Z_istore_n hk (lv' := [(2, .int 0), (0, .ref (eA (kZ K) a0)), (1, .ref (eA (kZ K) a1))]) dX6_refine_1 rfl (by decide) rfl ?_
  refine Z_sub [1, 2, 0] rfl ?_
  exact w_X6_refine_2 hk hq F F a0 a1 0 ha0 ha1 σ h
theorem c_X6_refine {l : Launch} {E : zE} (hL : eL E) (hJ : eJ E) (F : Nat) (a0 : Nat) (a1 : Nat) (ha0 : atRefinement E a0) (ha1 : atGraph E a1) (σ : zST) {τ0 : zST} (h : m_X6_refine F a0 a1 σ = some τ0) : Ct l yX6_refine wsX6_refine r_X6_refine E [.ref (eA E a0), .ref (eA E a1)] σ none τ0 := by
  refine Ct_of (by decide) rfl hL hJ (Nat.le_of_ble_eq_true rfl) (fun K hE hl hk hq => ?_)
  subst hE
  exact w_X6_refine hk hq F a0 a1 ha0 ha1 σ h
end
