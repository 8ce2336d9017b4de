-- CanonCote$Arranging.findTwins (LCanonCote$Graph;)V
section
theorem dX0_findTwins_0 : decode cX0_findTwins 0 = .ok (.iconst 0, 1) := by decide +kernel
theorem dX0_findTwins_1 : decode cX0_findTwins 1 = .ok (.istore_n 2, 1) := by decide +kernel
theorem dX0_findTwins_2 : decode cX0_findTwins 2 = .ok (.iload_n 2, 1) := by decide +kernel
theorem dX0_findTwins_3 : decode cX0_findTwins 3 = .ok (.aload_n 1, 1) := by decide +kernel
theorem dX0_findTwins_4 : decode cX0_findTwins 4 = .ok (.getfield 40, 3) := by decide +kernel
theorem dX0_findTwins_7 : decode cX0_findTwins 7 = .ok (.if_icmp .ge 53, 3) := by decide +kernel
theorem dX0_findTwins_10 : decode cX0_findTwins 10 = .ok (.aload_n 0, 1) := by decide +kernel
theorem dX0_findTwins_11 : decode cX0_findTwins 11 = .ok (.getfield 11, 3) := by decide +kernel
theorem dX0_findTwins_14 : decode cX0_findTwins 14 = .ok (.iload_n 2, 1) := by decide +kernel
theorem dX0_findTwins_15 : decode cX0_findTwins 15 = .ok (.iconst 0, 1) := by decide +kernel
theorem dX0_findTwins_16 : decode cX0_findTwins 16 = .ok (.iastore, 1) := by decide +kernel
theorem dX0_findTwins_17 : decode cX0_findTwins 17 = .ok (.iconst 0, 1) := by decide +kernel
theorem dX0_findTwins_18 : decode cX0_findTwins 18 = .ok (.istore_n 3, 1) := by decide +kernel
theorem dX0_findTwins_19 : decode cX0_findTwins 19 = .ok (.iload_n 3, 1) := by decide +kernel
theorem dX0_findTwins_20 : decode cX0_findTwins 20 = .ok (.aload_n 1, 1) := by decide +kernel
theorem dX0_findTwins_21 : decode cX0_findTwins 21 = .ok (.getfield 40, 3) := by decide +kernel
theorem dX0_findTwins_24 : decode cX0_findTwins 24 = .ok (.if_icmp .ge 30, 3) := by decide +kernel
theorem dX0_findTwins_27 : decode cX0_findTwins 27 = .ok (.aload_n 1, 1) := by decide +kernel
theorem dX0_findTwins_28 : decode cX0_findTwins 28 = .ok (.iload_n 2, 1) := by decide +kernel
theorem dX0_findTwins_29 : decode cX0_findTwins 29 = .ok (.iload_n 3, 1) := by decide +kernel
theorem dX0_findTwins_30 : decode cX0_findTwins 30 = .ok (.invokevirtual 45, 3) := by decide +kernel
theorem dX0_findTwins_33 : decode cX0_findTwins 33 = .ok (.ifCond .eq 15, 3) := by decide +kernel
theorem dX0_findTwins_36 : decode cX0_findTwins 36 = .ok (.aload_n 0, 1) := by decide +kernel
theorem dX0_findTwins_37 : decode cX0_findTwins 37 = .ok (.getfield 11, 3) := by decide +kernel
theorem dX0_findTwins_40 : decode cX0_findTwins 40 = .ok (.iload_n 2, 1) := by decide +kernel
theorem dX0_findTwins_41 : decode cX0_findTwins 41 = .ok (.dup2, 1) := by decide +kernel
theorem dX0_findTwins_42 : decode cX0_findTwins 42 = .ok (.iaload, 1) := by decide +kernel
theorem dX0_findTwins_43 : decode cX0_findTwins 43 = .ok (.iconst 1, 1) := by decide +kernel
theorem dX0_findTwins_44 : decode cX0_findTwins 44 = .ok (.iload_n 3, 1) := by decide +kernel
theorem dX0_findTwins_45 : decode cX0_findTwins 45 = .ok (.ishl, 1) := by decide +kernel
theorem dX0_findTwins_46 : decode cX0_findTwins 46 = .ok (.ior, 1) := by decide +kernel
theorem dX0_findTwins_47 : decode cX0_findTwins 47 = .ok (.iastore, 1) := by decide +kernel
theorem dX0_findTwins_48 : decode cX0_findTwins 48 = .ok (.iinc 3 1, 3) := by decide +kernel
theorem dX0_findTwins_51 : decode cX0_findTwins 51 = .ok (.goto (-32), 3) := by decide +kernel
theorem dX0_findTwins_54 : decode cX0_findTwins 54 = .ok (.iinc 2 1, 3) := by decide +kernel
theorem dX0_findTwins_57 : decode cX0_findTwins 57 = .ok (.goto (-55), 3) := by decide +kernel
theorem dX0_findTwins_60 : decode cX0_findTwins 60 = .ok (.return_, 1) := by decide +kernel
set_option maxRecDepth 20000 in
theorem ggX0_findTwins_X2_areTwins : GoodIn wsX0_findTwins wsX2_areTwins := goodIn_r _ [5, 6, 7, 8, 9, 10] (by decide +kernel) (by decide +kernel)
set_option maxRecDepth 20000 in
theorem gX0_findTwins_X2_areTwins_n45 : GoodIn wsX0_findTwins (wsX2_areTwins) := ggX0_findTwins_X2_areTwins
theorem in_X0_findTwins_Graph : ∀ w ∈ u_ws RX2 TX2 3, w ∈ wsX0_findTwins := by decide +kernel
theorem in_X0_findTwins_Arranging : ∀ w ∈ u_ws RX0 TX0 7, w ∈ wsX0_findTwins := by decide +kernel
theorem wd_X0_findTwins_2 : Cond.fieldLink RX0 11 (TX0 3).1 (TX0 3).2.1 (TX0 3).2.2.1 ∈ wsX0_findTwins := by decide +kernel
theorem wd_X0_findTwins_3 : Cond.initialized yX2_areTwins.cls ∈ wsX0_findTwins := by decide +kernel
theorem wd_X0_findTwins_4 : Cond.instanceMethod yX2_areTwins ∈ wsX0_findTwins := by decide +kernel
theorem wd_X0_findTwins_5 : Cond.selects RX2 yX2_areTwins yX2_areTwins ∈ wsX0_findTwins := by decide +kernel
def r_X0_findTwins : Room := { frames := 2, cells := 0, slots := 0, locals := 35 }
set_option maxRecDepth 100000 in
set_option maxHeartbeats 4000000 in
theorem w_X0_findTwins_48 {K : zK} (hk : zIs K RX0 cX0_findTwins 4 wsX0_findTwins none r_X0_findTwins) {τ0 : zST} (hq : zQ K none τ0) (F : Nat) (k2 : Nat → Nat → Int32 → zST → Option zST) (hk2 : ∀ (a0 : Nat) (a1 : Nat) (a2 : Int32) (ha0 : atArranging (kZ K) a0) (ha1 : atGraph (kZ K) a1) (σ : zST), k2 a0 a1 a2 σ = some τ0 → Z K 0 0 2 [(0, .ref (eA (kZ K) a0)), (1, .ref (eA (kZ K) a1)), (2, .int a2)] [] σ) (k19 : Nat → Nat → Int32 → Int32 → zST → Option zST) (hk19 : ∀ (a0 : Nat) (a1 : Nat) (a2 : Int32) (a3 : Int32) (ha0 : atArranging (kZ K) a0) (ha1 : atGraph (kZ K) a1) (σ : zST), k19 a0 a1 a2 a3 σ = some τ0 → Z K 0 0 19 [(0, .ref (eA (kZ K) a0)), (1, .ref (eA (kZ K) a1)), (2, .int a2), (3, .int a3)] [] σ) (a0 : Nat) (a1 : Nat) (a2 : Int32) (a3 : Int32) (ha0 : atArranging (kZ K) a0) (ha1 : atGraph (kZ K) a1) (σ : zST) (h : m_X0_findTwins_48 F k2 k19 a0 a1 a2 a3 σ = some τ0) : Z K 0 0 48 [(0, .ref (eA (kZ K) a0)), (1, .ref (eA (kZ K) a1)), (2, .int a2), (3, .int a3)] [] σ := by
  unfold m_X0_findTwins_48 at h
  obtain ⟨x18, e19, h⟩ := nm_get h
  refine Z_iinc hk 3 (v := x18) (lv' := [(3, .int x18), (0, .ref (eA (kZ K) a0)), (1, .ref (eA (kZ K) a1)), (2, .int a2)]) dX0_findTwins_48 rfl (by rw [zc_iinc_1]; exact e19) (by decide) rfl ?_
  refine Z_goto hk (tgt := 19) dX0_findTwins_51 (by decide) ?_
  refine Z_sub [1, 2, 3, 0] rfl ?_
  exact hk19 a0 a1 a2 x18 ha0 ha1 σ h
set_option maxRecDepth 100000 in
set_option maxHeartbeats 4000000 in
theorem w_X0_findTwins_19 {K : zK} (hk : zIs K RX0 cX0_findTwins 4 wsX0_findTwins none r_X0_findTwins) {τ0 : zST} (hq : zQ K none τ0) (F : Nat) (k2 : Nat → Nat → Int32 → zST → Option zST) (hk2 : ∀ (a0 : Nat) (a1 : Nat) (a2 : Int32) (ha0 : atArranging (kZ K) a0) (ha1 : atGraph (kZ K) a1) (σ : zST), k2 a0 a1 a2 σ = some τ0 → Z K 0 0 2 [(0, .ref (eA (kZ K) a0)), (1, .ref (eA (kZ K) a1)), (2, .int a2)] [] σ) : ∀ (n : Nat) (a0 : Nat) (a1 : Nat) (a2 : Int32) (a3 : Int32) (ha0 : atArranging (kZ K) a0) (ha1 : atGraph (kZ K) a1) (σ : zST), m_X0_findTwins_19 F k2 n a0 a1 a2 a3 σ = some τ0 → Z K 0 0 19 [(0, .ref (eA (kZ K) a0)), (1, .ref (eA (kZ K) a1)), (2, .int a2), (3, .int a3)] [] σ := by
  intro n
  induction n with
  | zero => intro a0 a1 a2 a3 ha0 ha1 σ h; cases h
  | succ n ih =>
    intro a0 a1 a2 a3 ha0 ha1 σ h
    rw [m_X0_findTwins_19] at h
    refine Z_iload_n hk 3 dX0_findTwins_19 rfl rfl ?_
    refine Z_aload_n hk 1 dX0_findTwins_20 rfl rfl ?_
    refine Z_getN hk in_X0_findTwins_Graph rfl ha1.cell.1 (ha1.cell.2 _) 0 (by decide) nw_0 rfl dX0_findTwins_21 ?_
    refine Z_icmp_ge hk (tgt := 54) dX0_findTwins_24 (by decide) (fun c5 => ?_) (fun c5 => ?_)
    · have h := if_yes h c5
      obtain ⟨x6, e7, h⟩ := nm_get h
      refine Z_iinc hk 2 (v := x6) (lv' := [(2, .int x6), (0, .ref (eA (kZ K) a0)), (1, .ref (eA (kZ K) a1)), (3, .int a3)]) dX0_findTwins_54 rfl (by rw [zc_iinc_1]; exact e7) (by decide) rfl ?_
      refine Z_goto hk (tgt := 2) dX0_findTwins_57 (by decide) ?_
      refine Z_sub [1, 2, 0] rfl ?_
      exact hk2 a0 a1 x6 ha0 ha1 σ h
    · have h := if_no h c5
      refine Z_aload_n hk 1 dX0_findTwins_27 rfl rfl ?_
      refine Z_iload_n hk 2 dX0_findTwins_28 rfl rfl ?_
      refine Z_iload_n hk 3 dX0_findTwins_29 rfl rfl ?_
      obtain ⟨x8, s9, h10, h⟩ := bd_ok h
      refine Z_callVN 2 hk (C := RX2) [.int a2, .int a3] (c_X2_areTwins hk.loc hk.inj F a1 a2 a3 ha1 σ h10) gX0_findTwins_X2_areTwins_n45 nw_1 rfl ⟨rfl, rfl⟩ ⟨wd_X0_findTwins_3, wd_X0_findTwins_4, wd_X0_findTwins_5⟩ (by decide +kernel) ⟨Nat.le_of_ble_eq_true rfl, Nat.le_of_ble_eq_true rfl⟩ ha1.cell.1 (ha1.cell.2 _) rfl rfl rfl (Nat.le_of_ble_eq_true rfl) ⟨Nat.zero_le _, Nat.zero_le _⟩ dX0_findTwins_30 ?_
      show Z K 0 0 33 [(0, .ref (eA (kZ K) a0)), (1, .ref (eA (kZ K) a1)), (2, .int a2), (3, .int a3)] [.int x8] s9
      refine Z_if_eq hk (tgt := 48) dX0_findTwins_33 (by decide) (fun c11 => ?_) (fun c11 => ?_)
      · have h := if_yes h c11
        refine Z_sub [0, 1, 2, 3] rfl ?_
        exact w_X0_findTwins_48 hk hq F k2 hk2 (m_X0_findTwins_19 F k2 n) ih a0 a1 a2 a3 ha0 ha1 s9 h
      · have h := if_no h c11
        refine Z_aload_n hk 0 dX0_findTwins_36 rfl rfl ?_
        refine Z_get hk in_X0_findTwins_Arranging rfl ha0.cell.1 (ha0.cell.2 _) 3 (by decide) wd_X0_findTwins_2 rfl dX0_findTwins_37 ?_
        refine Z_iload_n hk 2 dX0_findTwins_40 rfl rfl ?_
        refine Z_dup2 hk dX0_findTwins_41 rfl rfl ?_
        obtain ⟨i14, x12, e13, h⟩ := ldI_get h
        refine Z_iald hk (ha0.twins) i14 dX0_findTwins_42 ?_
        refine Z_eqI e13 ?_
        refine Z_iconst hk dX0_findTwins_43 zc_iconst_1 ?_
        refine Z_iload_n hk 3 dX0_findTwins_44 rfl rfl ?_
        refine Z_ishl hk dX0_findTwins_45 ?_
        refine Z_ior hk dX0_findTwins_46 ?_
        obtain ⟨i17, s15, e16, h⟩ := stI_get h
        refine Z_iast hk (ha0.twins) i17 dX0_findTwins_47 ?_
        refine Z_eqS e16 ?_
        refine Z_sub [0, 1, 2, 3] rfl ?_
        exact w_X0_findTwins_48 hk hq F k2 hk2 (m_X0_findTwins_19 F k2 n) ih a0 a1 a2 a3 ha0 ha1 s15 h
set_option maxRecDepth 100000 in
set_option maxHeartbeats 4000000 in
theorem w_X0_findTwins_2 {K : zK} (hk : zIs K RX0 cX0_findTwins 4 wsX0_findTwins none r_X0_findTwins) {τ0 : zST} (hq : zQ K none τ0) (F : Nat) : ∀ (n : Nat) (a0 : Nat) (a1 : Nat) (a2 : Int32) (ha0 : atArranging (kZ K) a0) (ha1 : atGraph (kZ K) a1) (σ : zST), m_X0_findTwins_2 F n a0 a1 a2 σ = some τ0 → Z K 0 0 2 [(0, .ref (eA (kZ K) a0)), (1, .ref (eA (kZ K) a1)), (2, .int a2)] [] σ := by
  intro n
  induction n with
  | zero => intro a0 a1 a2 ha0 ha1 σ h; cases h
  | succ n ih =>
    intro a0 a1 a2 ha0 ha1 σ h
    rw [m_X0_findTwins_2] at h
    refine Z_iload_n hk 2 dX0_findTwins_2 rfl rfl ?_
    refine Z_aload_n hk 1 dX0_findTwins_3 rfl rfl ?_
    refine Z_getN hk in_X0_findTwins_Graph rfl ha1.cell.1 (ha1.cell.2 _) 0 (by decide) nw_0 rfl dX0_findTwins_4 ?_
    refine Z_icmp_ge hk (tgt := 60) dX0_findTwins_7 (by decide) (fun c1 => ?_) (fun c1 => ?_)
    · have h := if_yes h c1
      cases h
      exact Z_vret hk hq dX0_findTwins_60
    · have h := if_no h c1
      refine Z_aload_n hk 0 dX0_findTwins_10 rfl rfl ?_
      refine Z_get hk in_X0_findTwins_Arranging rfl ha0.cell.1 (ha0.cell.2 _) 3 (by decide) wd_X0_findTwins_2 rfl dX0_findTwins_11 ?_
      refine Z_iload_n hk 2 dX0_findTwins_14 rfl rfl ?_
      refine Z_iconst hk dX0_findTwins_15 zc_iconst_0 ?_
      obtain ⟨i4, s2, e3, h⟩ := stI_get h
      refine Z_iast hk (ha0.twins) i4 dX0_findTwins_16 ?_
      refine Z_eqS e3 ?_
      refine Z_iconst hk dX0_findTwins_17 zc_iconst_0 ?_
      refine Z_istore_n hk (lv' := [(3, .int 0), (0, .ref (eA (kZ K) a0)), (1, .ref (eA (kZ K) a1)), (2, .int a2)]) dX0_findTwins_18 rfl (by decide) rfl ?_
      refine Z_sub [1, 2, 3, 0] rfl ?_
      exact w_X0_findTwins_19 hk hq F (m_X0_findTwins_2 F n) ih F a0 a1 a2 0 ha0 ha1 s2 h
set_option maxRecDepth 100000 in
set_option maxHeartbeats 4000000 in
theorem w_X0_findTwins {K : zK} (hk : zIs K RX0 cX0_findTwins 4 wsX0_findTwins none r_X0_findTwins) {τ0 : zST} (hq : zQ K none τ0) (F : Nat) (a0 : Nat) (a1 : Nat) (ha0 : atArranging (kZ K) a0) (ha1 : atGraph (kZ K) a1) (σ : zST) (h : m_X0_findTwins F a0 a1 σ = some τ0) : Z K 0 0 0 [(0, .ref (eA (kZ K) a0)), (1, .ref (eA (kZ K) a1))] [] σ := by
  unfold m_X0_findTwins at h
  refine Z_iconst hk dX0_findTwins_0 zc_iconst_0 ?_
  refine Z_istore_n hk (lv' := [(2, .int 0), (0, .ref (eA (kZ K) a0)), (1, .ref (eA (kZ K) a1))]) dX0_findTwins_1 rfl (by decide) rfl ?_
  refine Z_sub [1, 2, 0] rfl ?_
  exact w_X0_findTwins_2 hk hq F F a0 a1 0 ha0 ha1 σ h
theorem c_X0_findTwins {l : Launch} {E : zE} (hL : eL E) (hJ : eJ E) (F : Nat) (a0 : Nat) (a1 : Nat) (ha0 : atArranging E a0) (ha1 : atGraph E a1) (σ : zST) {τ0 : zST} (h : m_X0_findTwins F a0 a1 σ = some τ0) : Ct l yX0_findTwins wsX0_findTwins r_X0_findTwins E [.ref (eA E a0), .ref (eA E a1)] σ none τ0 := by
  refine Ct_of (by decide) rfl hL hJ (Nat.le_of_ble_eq_true rfl) (fun K hE hl hk hq => ?_)
  subst hE
  exact w_X0_findTwins hk hq F a0 a1 ha0 ha1 σ h
end

-- CanonCote$Arranging.shareOutByColours (LCanonCote$Graph;)V
section
theorem dX0_shareOutByColours_0 : decode cX0_shareOutByColours 0 = .ok (.iconst 0, 1) := by decide +kernel
theorem dX0_shareOutByColours_1 : decode cX0_shareOutByColours 1 = .ok (.istore_n 2, 1) := by decide +kernel
theorem dX0_shareOutByColours_2 : decode cX0_shareOutByColours 2 = .ok (.iconst 0, 1) := by decide +kernel
theorem dX0_shareOutByColours_3 : decode cX0_shareOutByColours 3 = .ok (.istore_n 3, 1) := by decide +kernel
theorem dX0_shareOutByColours_4 : decode cX0_shareOutByColours 4 = .ok (.iload_n 3, 1) := by decide +kernel
theorem dX0_shareOutByColours_5 : decode cX0_shareOutByColours 5 = .ok (.bipush 8, 2) := by decide +kernel
theorem dX0_shareOutByColours_7 : decode cX0_shareOutByColours 7 = .ok (.if_icmp .ge 85, 3) := by decide +kernel
theorem dX0_shareOutByColours_10 : decode cX0_shareOutByColours 10 = .ok (.iconst 0, 1) := by decide +kernel
theorem dX0_shareOutByColours_11 : decode cX0_shareOutByColours 11 = .ok (.istore 4, 2) := by decide +kernel
theorem dX0_shareOutByColours_13 : decode cX0_shareOutByColours 13 = .ok (.iconst 0, 1) := by decide +kernel
theorem dX0_shareOutByColours_14 : decode cX0_shareOutByColours 14 = .ok (.istore 5, 2) := by decide +kernel
theorem dX0_shareOutByColours_16 : decode cX0_shareOutByColours 16 = .ok (.iload 5, 2) := by decide +kernel
theorem dX0_shareOutByColours_18 : decode cX0_shareOutByColours 18 = .ok (.aload_n 1, 1) := by decide +kernel
theorem dX0_shareOutByColours_19 : decode cX0_shareOutByColours 19 = .ok (.getfield 40, 3) := by decide +kernel
theorem dX0_shareOutByColours_22 : decode cX0_shareOutByColours 22 = .ok (.if_icmp .ge 29, 3) := by decide +kernel
theorem dX0_shareOutByColours_25 : decode cX0_shareOutByColours 25 = .ok (.aload_n 1, 1) := by decide +kernel
theorem dX0_shareOutByColours_26 : decode cX0_shareOutByColours 26 = .ok (.getfield 49, 3) := by decide +kernel
theorem dX0_shareOutByColours_29 : decode cX0_shareOutByColours 29 = .ok (.iload 5, 2) := by decide +kernel
theorem dX0_shareOutByColours_31 : decode cX0_shareOutByColours 31 = .ok (.iaload, 1) := by decide +kernel
theorem dX0_shareOutByColours_32 : decode cX0_shareOutByColours 32 = .ok (.iload_n 3, 1) := by decide +kernel
theorem dX0_shareOutByColours_33 : decode cX0_shareOutByColours 33 = .ok (.if_icmp .ne 12, 3) := by decide +kernel
theorem dX0_shareOutByColours_36 : decode cX0_shareOutByColours 36 = .ok (.iload 4, 2) := by decide +kernel
theorem dX0_shareOutByColours_38 : decode cX0_shareOutByColours 38 = .ok (.iconst 1, 1) := by decide +kernel
theorem dX0_shareOutByColours_39 : decode cX0_shareOutByColours 39 = .ok (.iload 5, 2) := by decide +kernel
theorem dX0_shareOutByColours_41 : decode cX0_shareOutByColours 41 = .ok (.ishl, 1) := by decide +kernel
theorem dX0_shareOutByColours_42 : decode cX0_shareOutByColours 42 = .ok (.ior, 1) := by decide +kernel
theorem dX0_shareOutByColours_43 : decode cX0_shareOutByColours 43 = .ok (.istore 4, 2) := by decide +kernel
theorem dX0_shareOutByColours_45 : decode cX0_shareOutByColours 45 = .ok (.iinc 5 1, 3) := by decide +kernel
theorem dX0_shareOutByColours_48 : decode cX0_shareOutByColours 48 = .ok (.goto (-32), 3) := by decide +kernel
theorem dX0_shareOutByColours_51 : decode cX0_shareOutByColours 51 = .ok (.iload_n 2, 1) := by decide +kernel
theorem dX0_shareOutByColours_52 : decode cX0_shareOutByColours 52 = .ok (.iload 4, 2) := by decide +kernel
theorem dX0_shareOutByColours_54 : decode cX0_shareOutByColours 54 = .ok (.invokestatic 52, 3) := by decide +kernel
theorem dX0_shareOutByColours_57 : decode cX0_shareOutByColours 57 = .ok (.iadd, 1) := by decide +kernel
theorem dX0_shareOutByColours_58 : decode cX0_shareOutByColours 58 = .ok (.istore 5, 2) := by decide +kernel
theorem dX0_shareOutByColours_60 : decode cX0_shareOutByColours 60 = .ok (.iload_n 2, 1) := by decide +kernel
theorem dX0_shareOutByColours_61 : decode cX0_shareOutByColours 61 = .ok (.iload 5, 2) := by decide +kernel
theorem dX0_shareOutByColours_63 : decode cX0_shareOutByColours 63 = .ok (.if_icmp .ge 23, 3) := by decide +kernel
theorem dX0_shareOutByColours_66 : decode cX0_shareOutByColours 66 = .ok (.iload_n 2, 1) := by decide +kernel
theorem dX0_shareOutByColours_67 : decode cX0_shareOutByColours 67 = .ok (.bipush 8, 2) := by decide +kernel
theorem dX0_shareOutByColours_69 : decode cX0_shareOutByColours 69 = .ok (.if_icmp .ge 17, 3) := by decide +kernel
theorem dX0_shareOutByColours_72 : decode cX0_shareOutByColours 72 = .ok (.aload_n 0, 1) := by decide +kernel
theorem dX0_shareOutByColours_73 : decode cX0_shareOutByColours 73 = .ok (.getfield 15, 3) := by decide +kernel
theorem dX0_shareOutByColours_76 : decode cX0_shareOutByColours 76 = .ok (.iload_n 2, 1) := by decide +kernel
theorem dX0_shareOutByColours_77 : decode cX0_shareOutByColours 77 = .ok (.iload 4, 2) := by decide +kernel
theorem dX0_shareOutByColours_79 : decode cX0_shareOutByColours 79 = .ok (.iastore, 1) := by decide +kernel
theorem dX0_shareOutByColours_80 : decode cX0_shareOutByColours 80 = .ok (.iinc 2 1, 3) := by decide +kernel
theorem dX0_shareOutByColours_83 : decode cX0_shareOutByColours 83 = .ok (.goto (-23), 3) := by decide +kernel
theorem dX0_shareOutByColours_86 : decode cX0_shareOutByColours 86 = .ok (.iinc 3 1, 3) := by decide +kernel
theorem dX0_shareOutByColours_89 : decode cX0_shareOutByColours 89 = .ok (.goto (-85), 3) := by decide +kernel
theorem dX0_shareOutByColours_92 : decode cX0_shareOutByColours 92 = .ok (.return_, 1) := by decide +kernel
set_option maxRecDepth 20000 in
theorem ggX0_shareOutByColours_J6_bitCount_0f7a4 : GoodIn wsX0_shareOutByColours wsJ6_bitCount_0f7a4 := goodIn_r _ [5, 6, 7, 8] (by decide +kernel) (by decide +kernel)
set_option maxRecDepth 20000 in
theorem gX0_shareOutByColours_J6_bitCount_0f7a4 : GoodIn wsX0_shareOutByColours (va_wsS RX0 52 yJ6_bitCount_0f7a4 wsJ6_bitCount_0f7a4) := goodIn_app (goodIn_of _ (by decide +kernel)) ggX0_shareOutByColours_J6_bitCount_0f7a4
theorem in_X0_shareOutByColours_Graph : ∀ w ∈ u_ws RX2 TX2 3, w ∈ wsX0_shareOutByColours := by decide +kernel
theorem in_X0_shareOutByColours_Arranging : ∀ w ∈ u_ws RX0 TX0 7, w ∈ wsX0_shareOutByColours := by decide +kernel
theorem wd_X0_shareOutByColours_2 : Cond.fieldLink RX0 15 (TX0 4).1 (TX0 4).2.1 (TX0 4).2.2.1 ∈ wsX0_shareOutByColours := by decide +kernel
def r_X0_shareOutByColours : Room := { frames := 2, cells := 0, slots := 0, locals := 32 }
set_option maxRecDepth 100000 in
set_option maxHeartbeats 4000000 in
theorem w_X0_shareOutByColours_45 {K : zK} (hk : zIs K RX0 cX0_shareOutByColours 6 wsX0_shareOutByColours none r_X0_shareOutByColours) {τ0 : zST} (hq : zQ K none τ0) (F : Nat) (k4 : Nat → Nat → Int32 → Int32 → zST → Option zST) (hk4 : ∀ (a0 : Nat) (a1 : Nat) (a2 : Int32) (a3 : Int32) (ha0 : atArranging (kZ K) a0) (ha1 : atGraph (kZ K) a1) (σ : zST), k4 a0 a1 a2 a3 σ = some τ0 → Z K 0 0 4 [(0, .ref (eA (kZ K) a0)), (1, .ref (eA (kZ K) a1)), (2, .int a2), (3, .int a3)] [] σ) (k16 : Nat → Nat → Int32 → Int32 → Int32 → Int32 → zST → Option zST) (hk16 : ∀ (a0 : Nat) (a1 : Nat) (a2 : Int32) (a3 : Int32) (a4 : Int32) (a5 : Int32) (ha0 : atArranging (kZ K) a0) (ha1 : atGraph (kZ K) a1) (σ : zST), k16 a0 a1 a2 a3 a4 a5 σ = some τ0 → Z K 0 0 16 [(0, .ref (eA (kZ K) a0)), (1, .ref (eA (kZ K) a1)), (2, .int a2), (3, .int a3), (4, .int a4), (5, .int a5)] [] σ) (a0 : Nat) (a1 : Nat) (a2 : Int32) (a3 : Int32) (a4 : Int32) (a5 : Int32) (ha0 : atArranging (kZ K) a0) (ha1 : atGraph (kZ K) a1) (σ : zST) (h : m_X0_shareOutByColours_45 F k4 k16 a0 a1 a2 a3 a4 a5 σ = some τ0) : Z K 0 0 45 [(0, .ref (eA (kZ K) a0)), (1, .ref (eA (kZ K) a1)), (2, .int a2), (3, .int a3), (4, .int a4), (5, .int a5)] [] σ := by
  unfold m_X0_shareOutByColours_45 at h
  obtain ⟨x21, e22, h⟩ := nm_get h
  refine Z_iinc hk 5 (v := x21) (lv' := [(5, .int x21), (0, .ref (eA (kZ K) a0)), (1, .ref (eA (kZ K) a1)), (2, .int a2), (3, .int a3), (4, .int a4)]) dX0_shareOutByColours_45 rfl (by rw [zc_iinc_1]; exact e22) (by decide) rfl ?_
  refine Z_goto hk (tgt := 16) dX0_shareOutByColours_48 (by decide) ?_
  refine Z_sub [1, 2, 3, 4, 5, 0] rfl ?_
  exact hk16 a0 a1 a2 a3 a4 x21 ha0 ha1 σ h
set_option maxRecDepth 100000 in
set_option maxHeartbeats 4000000 in
theorem w_X0_shareOutByColours_86 {K : zK} (hk : zIs K RX0 cX0_shareOutByColours 6 wsX0_shareOutByColours none r_X0_shareOutByColours) {τ0 : zST} (hq : zQ K none τ0) (F : Nat) (k4 : Nat → Nat → Int32 → Int32 → zST → Option zST) (hk4 : ∀ (a0 : Nat) (a1 : Nat) (a2 : Int32) (a3 : Int32) (ha0 : atArranging (kZ K) a0) (ha1 : atGraph (kZ K) a1) (σ : zST), k4 a0 a1 a2 a3 σ = some τ0 → Z K 0 0 4 [(0, .ref (eA (kZ K) a0)), (1, .ref (eA (kZ K) a1)), (2, .int a2), (3, .int a3)] [] σ) (a0 : Nat) (a1 : Nat) (a2 : Int32) (a3 : Int32) (ha0 : atArranging (kZ K) a0) (ha1 : atGraph (kZ K) a1) (σ : zST) (h : m_X0_shareOutByColours_86 F k4 a0 a1 a2 a3 σ = some τ0) : Z K 0 0 86 [(0, .ref (eA (kZ K) a0)), (1, .ref (eA (kZ K) a1)), (2, .int a2), (3, .int a3)] [] σ := by
  unfold m_X0_shareOutByColours_86 at h
  obtain ⟨x23, e24, h⟩ := nm_get h
  refine Z_iinc hk 3 (v := x23) (lv' := [(3, .int x23), (0, .ref (eA (kZ K) a0)), (1, .ref (eA (kZ K) a1)), (2, .int a2)]) dX0_shareOutByColours_86 rfl (by rw [zc_iinc_1]; exact e24) (by decide) rfl ?_
  refine Z_goto hk (tgt := 4) dX0_shareOutByColours_89 (by decide) ?_
  refine Z_sub [1, 2, 3, 0] rfl ?_
  exact hk4 a0 a1 a2 x23 ha0 ha1 σ h
set_option maxRecDepth 100000 in
set_option maxHeartbeats 4000000 in
theorem w_X0_shareOutByColours_60 {K : zK} (hk : zIs K RX0 cX0_shareOutByColours 6 wsX0_shareOutByColours none r_X0_shareOutByColours) {τ0 : zST} (hq : zQ K none τ0) (F : Nat) (k4 : Nat → Nat → Int32 → Int32 → zST → Option zST) (hk4 : ∀ (a0 : Nat) (a1 : Nat) (a2 : Int32) (a3 : Int32) (ha0 : atArranging (kZ K) a0) (ha1 : atGraph (kZ K) a1) (σ : zST), k4 a0 a1 a2 a3 σ = some τ0 → Z K 0 0 4 [(0, .ref (eA (kZ K) a0)), (1, .ref (eA (kZ K) a1)), (2, .int a2), (3, .int a3)] [] σ) : ∀ (n : Nat) (a0 : Nat) (a1 : Nat) (a2 : Int32) (a3 : Int32) (a4 : Int32) (a5 : Int32) (ha0 : atArranging (kZ K) a0) (ha1 : atGraph (kZ K) a1) (σ : zST), m_X0_shareOutByColours_60 F k4 n a0 a1 a2 a3 a4 a5 σ = some τ0 → Z K 0 0 60 [(0, .ref (eA (kZ K) a0)), (1, .ref (eA (kZ K) a1)), (2, .int a2), (3, .int a3), (4, .int a4), (5, .int a5)] [] σ := by
  intro n
  induction n with
  | zero => intro a0 a1 a2 a3 a4 a5 ha0 ha1 σ h; cases h
  | succ n ih =>
    intro a0 a1 a2 a3 a4 a5 ha0 ha1 σ h
    rw [m_X0_shareOutByColours_60] at h
    refine Z_iload_n hk 2 dX0_shareOutByColours_60 rfl rfl ?_
    refine Z_iload hk 5 dX0_shareOutByColours_61 rfl ?_
    refine Z_icmp_ge hk (tgt := 86) dX0_shareOutByColours_63 (by decide) (fun c14 => ?_) (fun c14 => ?_)
    · have h := if_yes h c14
      refine Z_sub [0, 1, 2, 3] rfl ?_
      exact w_X0_shareOutByColours_86 hk hq F k4 hk4 a0 a1 a2 a3 ha0 ha1 σ h
    · have h := if_no h c14
      refine Z_iload_n hk 2 dX0_shareOutByColours_66 rfl rfl ?_
      refine Z_bipush hk dX0_shareOutByColours_67 zc_bipush_8 ?_
      refine Z_icmp_ge hk (tgt := 86) dX0_shareOutByColours_69 (by decide) (fun c15 => ?_) (fun c15 => ?_)
      · have h := if_yes h c15
        refine Z_sub [0, 1, 2, 3] rfl ?_
        exact w_X0_shareOutByColours_86 hk hq F k4 hk4 a0 a1 a2 a3 ha0 ha1 σ h
      · have h := if_no h c15
        refine Z_aload_n hk 0 dX0_shareOutByColours_72 rfl rfl ?_
        refine Z_get hk in_X0_shareOutByColours_Arranging rfl ha0.cell.1 (ha0.cell.2 _) 4 (by decide) wd_X0_shareOutByColours_2 rfl dX0_shareOutByColours_73 ?_
        refine Z_iload_n hk 2 dX0_shareOutByColours_76 rfl rfl ?_
        refine Z_iload hk 4 dX0_shareOutByColours_77 rfl ?_
        obtain ⟨i18, s16, e17, h⟩ := stI_get h
        refine Z_iast hk (ha0.cells) i18 dX0_shareOutByColours_79 ?_
        refine Z_eqS e17 ?_
        obtain ⟨x19, e20, h⟩ := nm_get h
        refine Z_iinc hk 2 (v := x19) (lv' := [(2, .int x19), (0, .ref (eA (kZ K) a0)), (1, .ref (eA (kZ K) a1)), (3, .int a3), (4, .int a4), (5, .int a5)]) dX0_shareOutByColours_80 rfl (by rw [zc_iinc_1]; exact e20) (by decide) rfl ?_
        refine Z_goto hk (tgt := 60) dX0_shareOutByColours_83 (by decide) ?_
        refine Z_sub [1, 2, 0, 3, 4, 5] rfl ?_
        exact ih a0 a1 x19 a3 a4 a5 ha0 ha1 s16 h
set_option maxRecDepth 100000 in
set_option maxHeartbeats 4000000 in
theorem w_X0_shareOutByColours_16 {K : zK} (hk : zIs K RX0 cX0_shareOutByColours 6 wsX0_shareOutByColours none r_X0_shareOutByColours) {τ0 : zST} (hq : zQ K none τ0) (F : Nat) (k4 : Nat → Nat → Int32 → Int32 → zST → Option zST) (hk4 : ∀ (a0 : Nat) (a1 : Nat) (a2 : Int32) (a3 : Int32) (ha0 : atArranging (kZ K) a0) (ha1 : atGraph (kZ K) a1) (σ : zST), k4 a0 a1 a2 a3 σ = some τ0 → Z K 0 0 4 [(0, .ref (eA (kZ K) a0)), (1, .ref (eA (kZ K) a1)), (2, .int a2), (3, .int a3)] [] σ) : ∀ (n : Nat) (a0 : Nat) (a1 : Nat) (a2 : Int32) (a3 : Int32) (a4 : Int32) (a5 : Int32) (ha0 : atArranging (kZ K) a0) (ha1 : atGraph (kZ K) a1) (σ : zST), m_X0_shareOutByColours_16 F k4 n a0 a1 a2 a3 a4 a5 σ = some τ0 → Z K 0 0 16 [(0, .ref (eA (kZ K) a0)), (1, .ref (eA (kZ K) a1)), (2, .int a2), (3, .int a3), (4, .int a4), (5, .int a5)] [] σ := by
  intro n
  induction n with
  | zero => intro a0 a1 a2 a3 a4 a5 ha0 ha1 σ h; cases h
  | succ n ih =>
    intro a0 a1 a2 a3 a4 a5 ha0 ha1 σ h
    rw [m_X0_shareOutByColours_16] at h
    refine Z_iload hk 5 dX0_shareOutByColours_16 rfl ?_
    refine Z_aload_n hk 1 dX0_shareOutByColours_18 rfl rfl ?_
    refine Z_getN hk in_X0_shareOutByColours_Graph rfl ha1.cell.1 (ha1.cell.2 _) 0 (by decide) nw_0 rfl dX0_shareOutByColours_19 ?_
    refine Z_icmp_ge hk (tgt := 51) dX0_shareOutByColours_22 (by decide) (fun c2 => ?_) (fun c2 => ?_)
    · have h := if_yes h c2
      refine Z_iload_n hk 2 dX0_shareOutByColours_51 rfl rfl ?_
      refine Z_iload hk 4 dX0_shareOutByColours_52 rfl ?_
      obtain ⟨x3, s4, h5, h⟩ := bd_ok h
      refine Z_callT 1 hk [.int a4] (c_J6_bitCount_0f7a4 hk.loc hk.inj F a4 σ h5) gX0_shareOutByColours_J6_bitCount_0f7a4 rfl ⟨rfl, rfl⟩ (by decide +kernel) ⟨Nat.le_of_ble_eq_true rfl, Nat.le_of_ble_eq_true rfl⟩ rfl rfl (Nat.le_of_ble_eq_true rfl) ⟨Nat.zero_le _, Nat.zero_le _⟩ dX0_shareOutByColours_54 ?_
      show Z K 0 0 57 [(0, .ref (eA (kZ K) a0)), (1, .ref (eA (kZ K) a1)), (2, .int a2), (3, .int a3), (4, .int a4), (5, .int a5)] [.int x3, .int a2] s4
      refine Z_iadd hk dX0_shareOutByColours_57 ?_
      obtain ⟨x6, e7, h⟩ := nm_get h
      refine Z_eqI e7 ?_
      refine Z_istore hk (lv' := [(5, .int x6), (0, .ref (eA (kZ K) a0)), (1, .ref (eA (kZ K) a1)), (2, .int a2), (3, .int a3), (4, .int a4)]) dX0_shareOutByColours_58 (by decide) rfl ?_
      refine Z_sub [1, 2, 3, 4, 5, 0] rfl ?_
      exact w_X0_shareOutByColours_60 hk hq F k4 hk4 F a0 a1 a2 a3 a4 x6 ha0 ha1 s4 h
    · have h := if_no h c2
      refine Z_aload_n hk 1 dX0_shareOutByColours_25 rfl rfl ?_
      refine Z_getN hk in_X0_shareOutByColours_Graph rfl ha1.cell.1 (ha1.cell.2 _) 2 (by decide) nw_2 rfl dX0_shareOutByColours_26 ?_
      refine Z_iload hk 5 dX0_shareOutByColours_29 rfl ?_
      obtain ⟨i10, x8, e9, h⟩ := ldI_get h
      refine Z_iald hk (ha1.colours) i10 dX0_shareOutByColours_31 ?_
      refine Z_eqI e9 ?_
      refine Z_iload_n hk 3 dX0_shareOutByColours_32 rfl rfl ?_
      refine Z_icmp_ne hk (tgt := 45) dX0_shareOutByColours_33 (by decide) (fun c11 => ?_) (fun c11 => ?_)
      · have h := if_yes h c11
        refine Z_iload hk 4 dX0_shareOutByColours_36 rfl ?_
        refine Z_iconst hk dX0_shareOutByColours_38 zc_iconst_1 ?_
        refine Z_iload hk 5 dX0_shareOutByColours_39 rfl ?_
        refine Z_ishl hk dX0_shareOutByColours_41 ?_
        refine Z_ior hk dX0_shareOutByColours_42 ?_
        obtain ⟨x12, e13, h⟩ := nm_get h
        refine Z_eqI e13 ?_
        refine Z_istore hk (lv' := [(4, .int x12), (0, .ref (eA (kZ K) a0)), (1, .ref (eA (kZ K) a1)), (2, .int a2), (3, .int a3), (5, .int a5)]) dX0_shareOutByColours_43 (by decide) rfl ?_
        refine Z_sub [1, 2, 3, 4, 0, 5] rfl ?_
        exact w_X0_shareOutByColours_45 hk hq F k4 hk4 (m_X0_shareOutByColours_16 F k4 n) ih a0 a1 a2 a3 x12 a5 ha0 ha1 σ h
      · have h := if_no h c11
        refine Z_sub [0, 1, 2, 3, 4, 5] rfl ?_
        exact w_X0_shareOutByColours_45 hk hq F k4 hk4 (m_X0_shareOutByColours_16 F k4 n) ih a0 a1 a2 a3 a4 a5 ha0 ha1 σ h
set_option maxRecDepth 100000 in
set_option maxHeartbeats 4000000 in
theorem w_X0_shareOutByColours_4 {K : zK} (hk : zIs K RX0 cX0_shareOutByColours 6 wsX0_shareOutByColours none r_X0_shareOutByColours) {τ0 : zST} (hq : zQ K none τ0) (F : Nat) : ∀ (n : Nat) (a0 : Nat) (a1 : Nat) (a2 : Int32) (a3 : Int32) (ha0 : atArranging (kZ K) a0) (ha1 : atGraph (kZ K) a1) (σ : zST), m_X0_shareOutByColours_4 F n a0 a1 a2 a3 σ = some τ0 → Z K 0 0 4 [(0, .ref (eA (kZ K) a0)), (1, .ref (eA (kZ K) a1)), (2, .int a2), (3, .int a3)] [] σ := by
  intro n
  induction n with
  | zero => intro a0 a1 a2 a3 ha0 ha1 σ h; cases h
  | succ n ih =>
    intro a0 a1 a2 a3 ha0 ha1 σ h
    rw [m_X0_shareOutByColours_4] at h
    refine Z_iload_n hk 3 dX0_shareOutByColours_4 rfl rfl ?_
    refine Z_bipush hk dX0_shareOutByColours_5 zc_bipush_8 ?_
    refine Z_icmp_ge hk (tgt := 92) dX0_shareOutByColours_7 (by decide) (fun c1 => ?_) (fun c1 => ?_)
    · have h := if_yes h c1
      cases h
      exact Z_vret hk hq dX0_shareOutByColours_92
    · have h := if_no h c1
      refine Z_iconst hk dX0_shareOutByColours_10 zc_iconst_0 ?_
      refine Z_istore hk (lv' := [(4, .int 0), (0, .ref (eA (kZ K) a0)), (1, .ref (eA (kZ K) a1)), (2, .int a2), (3, .int a3)]) dX0_shareOutByColours_11 (by decide) rfl ?_
      refine Z_iconst hk dX0_shareOutByColours_13 zc_iconst_0 ?_
      refine Z_istore hk (lv' := [(5, .int 0), (4, .int 0), (0, .ref (eA (kZ K) a0)), (1, .ref (eA (kZ K) a1)), (2, .int a2), (3, .int a3)]) dX0_shareOutByColours_14 (by decide) rfl ?_
      refine Z_sub [2, 3, 4, 5, 1, 0] rfl ?_
      exact w_X0_shareOutByColours_16 hk hq F (m_X0_shareOutByColours_4 F n) ih F a0 a1 a2 a3 0 0 ha0 ha1 σ h
set_option maxRecDepth 100000 in
set_option maxHeartbeats 4000000 in
theorem w_X0_shareOutByColours {K : zK} (hk : zIs K RX0 cX0_shareOutByColours 6 wsX0_shareOutByColours none r_X0_shareOutByColours) {τ0 : zST} (hq : zQ K none τ0) (F : Nat) (a0 : Nat) (a1 : Nat) (ha0 : atArranging (kZ K) a0) (ha1 : atGraph (kZ K) a1) (σ : zST) (h : m_X0_shareOutByColours F a0 a1 σ = some τ0) : Z K 0 0 0 [(0, .ref (eA (kZ K) a0)), (1, .ref (eA (kZ K) a1))] [] σ := by
  unfold m_X0_shareOutByColours at h
  refine Z_iconst hk dX0_shareOutByColours_0 zc_iconst_0 ?_
  refine Z_istore_n hk (lv' := [(2, .int 0), (0, .ref (eA (kZ K) a0)), (1, .ref (eA (kZ K) a1))]) dX0_shareOutByColours_1 rfl (by decide) rfl ?_
  refine Z_iconst hk dX0_shareOutByColours_2 zc_iconst_0 ?_
  refine Z_istore_n hk (lv' := [(3, .int 0), (2, .int 0), (0, .ref (eA (kZ K) a0)), (1, .ref (eA (kZ K) a1))]) dX0_shareOutByColours_3 rfl (by decide) rfl ?_
  refine Z_sub [2, 3, 1, 0] rfl ?_
  exact w_X0_shareOutByColours_4 hk hq F F a0 a1 0 0 ha0 ha1 σ h
theorem c_X0_shareOutByColours {l : Launch} {E : zE} (hL : eL E) (hJ : eJ E) (F : Nat) (a0 : Nat) (a1 : Nat) (ha0 : atArranging E a0) (ha1 : atGraph E a1) (σ : zST) {τ0 : zST} (h : m_X0_shareOutByColours F a0 a1 σ = some τ0) : Ct l yX0_shareOutByColours wsX0_shareOutByColours r_X0_shareOutByColours E [.ref (eA E a0), .ref (eA E a1)] σ none τ0 := by
  refine Ct_of (by decide) rfl hL hJ (Nat.le_of_ble_eq_true rfl) (fun K hE hl hk hq => ?_)
  subst hE
  exact w_X0_shareOutByColours hk hq F a0 a1 ha0 ha1 σ h
end

-- CanonCote$Arranging.shiftOf (I)I
section
theorem dX0_shiftOf_0 : decode cX0_shiftOf 0 = .ok (.iconst 3, 1) := by decide +kernel
theorem dX0_shiftOf_1 : decode cX0_shiftOf 1 = .ok (.bipush 7, 2) := by decide +kernel
theorem dX0_shiftOf_3 : decode cX0_shiftOf 3 = .ok (.iload_n 0, 1) := by decide +kernel
theorem dX0_shiftOf_4 : decode cX0_shiftOf 4 = .ok (.isub, 1) := by decide +kernel
theorem dX0_shiftOf_5 : decode cX0_shiftOf 5 = .ok (.imul, 1) := by decide +kernel
theorem dX0_shiftOf_6 : decode cX0_shiftOf 6 = .ok (.ireturn, 1) := by decide +kernel
def r_X0_shiftOf : Room := { frames := 1, cells := 0, slots := 0, locals := 12 }
set_option maxRecDepth 100000 in
set_option maxHeartbeats 4000000 in
theorem w_X0_shiftOf {K : zK} (hk : zIs K RX0 cX0_shiftOf 1 wsX0_shiftOf (some .int) r_X0_shiftOf) {r0 : Int32} {τ0 : zST} (hq : zQ K (some (.int r0)) τ0) (F : Nat) (a0 : Int32) (σ : zST) (h : m_X0_shiftOf F a0 σ = some (r0, τ0)) : Z K 0 0 0 [(0, .int a0)] [] σ := by
  unfold m_X0_shiftOf at h
  refine Z_iconst hk dX0_shiftOf_0 zc_iconst_3 ?_
  refine Z_bipush hk dX0_shiftOf_1 zc_bipush_7 ?_
  refine Z_iload_n hk 0 dX0_shiftOf_3 rfl rfl ?_
  refine Z_isub hk dX0_shiftOf_4 ?_
  refine Z_imul hk dX0_shiftOf_5 ?_
  cases h
  exact Z_iret hk hq dX0_shiftOf_6
theorem c_X0_shiftOf {l : Launch} {E : zE} (hL : eL E) (hJ : eJ E) (F : Nat) (a0 : Int32) (σ : zST) {r0 : Int32} {τ0 : zST} (h : m_X0_shiftOf F a0 σ = some (r0, τ0)) : Ct l yX0_shiftOf wsX0_shiftOf r_X0_shiftOf E [.int a0] σ (some (.int r0)) τ0 := by
  refine Ct_of (by decide) rfl hL hJ (Nat.le_of_ble_eq_true rfl) (fun K hE hl hk hq => ?_)
  subst hE
  exact w_X0_shiftOf hk hq F a0 σ h
end

-- CanonCote$Arranging.meet (II)V
section
theorem dX0_meet_0 : decode cX0_meet 0 = .ok (.iload_n 2, 1) := by decide +kernel
theorem dX0_meet_1 : decode cX0_meet 1 = .ok (.aload_n 0, 1) := by decide +kernel
theorem dX0_meet_2 : decode cX0_meet 2 = .ok (.getfield 32, 3) := by decide +kernel
theorem dX0_meet_5 : decode cX0_meet 5 = .ok (.if_icmp .ge 27, 3) := by decide +kernel
theorem dX0_meet_8 : decode cX0_meet 8 = .ok (.aload_n 0, 1) := by decide +kernel
theorem dX0_meet_9 : decode cX0_meet 9 = .ok (.iload_n 2, 1) := by decide +kernel
theorem dX0_meet_10 : decode cX0_meet 10 = .ok (.putfield 32, 3) := by decide +kernel
theorem dX0_meet_13 : decode cX0_meet 13 = .ok (.aload_n 0, 1) := by decide +kernel
theorem dX0_meet_14 : decode cX0_meet 14 = .ok (.ldc 75, 2) := by decide +kernel
theorem dX0_meet_16 : decode cX0_meet 16 = .ok (.putfield 76, 3) := by decide +kernel
theorem dX0_meet_19 : decode cX0_meet 19 = .ok (.aload_n 0, 1) := by decide +kernel
theorem dX0_meet_20 : decode cX0_meet 20 = .ok (.iconst 0, 1) := by decide +kernel
theorem dX0_meet_21 : decode cX0_meet 21 = .ok (.putfield 79, 3) := by decide +kernel
theorem dX0_meet_24 : decode cX0_meet 24 = .ok (.aload_n 0, 1) := by decide +kernel
theorem dX0_meet_25 : decode cX0_meet 25 = .ok (.getfield 21, 3) := by decide +kernel
theorem dX0_meet_28 : decode cX0_meet 28 = .ok (.iconst 0, 1) := by decide +kernel
theorem dX0_meet_29 : decode cX0_meet 29 = .ok (.invokestatic 82, 3) := by decide +kernel
theorem dX0_meet_32 : decode cX0_meet 32 = .ok (.aload_n 0, 1) := by decide +kernel
theorem dX0_meet_33 : decode cX0_meet 33 = .ok (.dup, 1) := by decide +kernel
theorem dX0_meet_34 : decode cX0_meet 34 = .ok (.getfield 79, 3) := by decide +kernel
theorem dX0_meet_37 : decode cX0_meet 37 = .ok (.iconst 1, 1) := by decide +kernel
theorem dX0_meet_38 : decode cX0_meet 38 = .ok (.iadd, 1) := by decide +kernel
theorem dX0_meet_39 : decode cX0_meet 39 = .ok (.putfield 79, 3) := by decide +kernel
theorem dX0_meet_42 : decode cX0_meet 42 = .ok (.iconst 0, 1) := by decide +kernel
theorem dX0_meet_43 : decode cX0_meet 43 = .ok (.istore_n 3, 1) := by decide +kernel
theorem dX0_meet_44 : decode cX0_meet 44 = .ok (.iconst 0, 1) := by decide +kernel
theorem dX0_meet_45 : decode cX0_meet 45 = .ok (.istore 4, 2) := by decide +kernel
theorem dX0_meet_47 : decode cX0_meet 47 = .ok (.iload 4, 2) := by decide +kernel
theorem dX0_meet_49 : decode cX0_meet 49 = .ok (.iload_n 1, 1) := by decide +kernel
theorem dX0_meet_50 : decode cX0_meet 50 = .ok (.if_icmp .ge 46, 3) := by decide +kernel
theorem dX0_meet_53 : decode cX0_meet 53 = .ok (.aload_n 0, 1) := by decide +kernel
theorem dX0_meet_54 : decode cX0_meet 54 = .ok (.getfield 18, 3) := by decide +kernel
theorem dX0_meet_57 : decode cX0_meet 57 = .ok (.iload 4, 2) := by decide +kernel
theorem dX0_meet_59 : decode cX0_meet 59 = .ok (.iaload, 1) := by decide +kernel
theorem dX0_meet_60 : decode cX0_meet 60 = .ok (.istore 5, 2) := by decide +kernel
theorem dX0_meet_62 : decode cX0_meet 62 = .ok (.aload_n 0, 1) := by decide +kernel
theorem dX0_meet_63 : decode cX0_meet 63 = .ok (.getfield 21, 3) := by decide +kernel
theorem dX0_meet_66 : decode cX0_meet 66 = .ok (.iload 4, 2) := by decide +kernel
theorem dX0_meet_68 : decode cX0_meet 68 = .ok (.dup2, 1) := by decide +kernel
theorem dX0_meet_69 : decode cX0_meet 69 = .ok (.iaload, 1) := by decide +kernel
theorem dX0_meet_70 : decode cX0_meet 70 = .ok (.aload_n 0, 1) := by decide +kernel
theorem dX0_meet_71 : decode cX0_meet 71 = .ok (.getfield 11, 3) := by decide +kernel
theorem dX0_meet_74 : decode cX0_meet 74 = .ok (.iload 5, 2) := by decide +kernel
theorem dX0_meet_76 : decode cX0_meet 76 = .ok (.iaload, 1) := by decide +kernel
theorem dX0_meet_77 : decode cX0_meet 77 = .ok (.ior, 1) := by decide +kernel
theorem dX0_meet_78 : decode cX0_meet 78 = .ok (.iastore, 1) := by decide +kernel
theorem dX0_meet_79 : decode cX0_meet 79 = .ok (.iload_n 3, 1) := by decide +kernel
theorem dX0_meet_80 : decode cX0_meet 80 = .ok (.iload 4, 2) := by decide +kernel
theorem dX0_meet_82 : decode cX0_meet 82 = .ok (.iload 5, 2) := by decide +kernel
theorem dX0_meet_84 : decode cX0_meet 84 = .ok (.invokestatic 88, 3) := by decide +kernel
theorem dX0_meet_87 : decode cX0_meet 87 = .ok (.ishl, 1) := by decide +kernel
theorem dX0_meet_88 : decode cX0_meet 88 = .ok (.ior, 1) := by decide +kernel
theorem dX0_meet_89 : decode cX0_meet 89 = .ok (.istore_n 3, 1) := by decide +kernel
theorem dX0_meet_90 : decode cX0_meet 90 = .ok (.iinc 4 1, 3) := by decide +kernel
theorem dX0_meet_93 : decode cX0_meet 93 = .ok (.goto (-46), 3) := by decide +kernel
theorem dX0_meet_96 : decode cX0_meet 96 = .ok (.aload_n 0, 1) := by decide +kernel
theorem dX0_meet_97 : decode cX0_meet 97 = .ok (.aload_n 0, 1) := by decide +kernel
theorem dX0_meet_98 : decode cX0_meet 98 = .ok (.getfield 76, 3) := by decide +kernel
theorem dX0_meet_101 : decode cX0_meet 101 = .ok (.iload_n 3, 1) := by decide +kernel
theorem dX0_meet_102 : decode cX0_meet 102 = .ok (.invokestatic 91, 3) := by decide +kernel
theorem dX0_meet_105 : decode cX0_meet 105 = .ok (.putfield 76, 3) := by decide +kernel
theorem dX0_meet_108 : decode cX0_meet 108 = .ok (.return_, 1) := by decide +kernel
set_option maxRecDepth 20000 in
theorem ggX0_meet_J7_fill_53178 : GoodIn wsX0_meet wsJ7_fill_53178 := goodIn_r _ [15] (by decide +kernel) (by decide +kernel)
set_option maxRecDepth 20000 in
theorem gX0_meet_J7_fill_53178 : GoodIn wsX0_meet (va_wsS RX0 82 yJ7_fill_53178 wsJ7_fill_53178) := goodIn_app (goodIn_of _ (by decide +kernel)) ggX0_meet_J7_fill_53178
set_option maxRecDepth 20000 in
theorem ggX0_meet_X0_shiftOf : GoodIn wsX0_meet wsX0_shiftOf := goodIn_r _ [19] (by decide +kernel) (by decide +kernel)
set_option maxRecDepth 20000 in
theorem gX0_meet_X0_shiftOf : GoodIn wsX0_meet (va_wsS RX0 88 yX0_shiftOf wsX0_shiftOf) := goodIn_app (goodIn_of _ (by decide +kernel)) ggX0_meet_X0_shiftOf
theorem in_X0_meet_Arranging : ∀ w ∈ u_ws RX0 TX0 7, w ∈ wsX0_meet := by decide +kernel
theorem wd_X0_meet_1 : Cond.fieldLink RX0 32 (TX0 0).1 (TX0 0).2.1 (TX0 0).2.2.1 ∈ wsX0_meet := by decide +kernel
theorem wd_X0_meet_2 : Cond.constant RX0 75 16777216 ∈ wsX0_meet := by decide +kernel
theorem wd_X0_meet_3 : Cond.fieldLink RX0 76 (TX0 1).1 (TX0 1).2.1 (TX0 1).2.2.1 ∈ wsX0_meet := by decide +kernel
theorem wd_X0_meet_4 : Cond.fieldLink RX0 79 (TX0 2).1 (TX0 2).2.1 (TX0 2).2.2.1 ∈ wsX0_meet := by decide +kernel
theorem wd_X0_meet_5 : Cond.fieldLink RX0 21 (TX0 6).1 (TX0 6).2.1 (TX0 6).2.2.1 ∈ wsX0_meet := by decide +kernel
theorem wd_X0_meet_6 : Cond.methodLink RX0 91 Lib.Math.min.name ∈ wsX0_meet := by decide +kernel
theorem wd_X0_meet_7 : Cond.static Lib.Math.min.name ∈ wsX0_meet := by decide +kernel
theorem wd_X0_meet_8 : Cond.initialized "java/lang/Math" ∈ wsX0_meet := by decide +kernel
theorem wd_X0_meet_9 : Cond.code Lib.Math.min.name Lib.Math.min.code 2 (some .int) ∈ wsX0_meet := by decide +kernel
theorem wd_X0_meet_10 : Cond.fieldLink RX0 18 (TX0 5).1 (TX0 5).2.1 (TX0 5).2.2.1 ∈ wsX0_meet := by decide +kernel
theorem wd_X0_meet_11 : Cond.fieldLink RX0 11 (TX0 3).1 (TX0 3).2.1 (TX0 3).2.2.1 ∈ wsX0_meet := by decide +kernel
def r_X0_meet : Room := { frames := 2, cells := 0, slots := 0, locals := 35 }
set_option maxRecDepth 100000 in
set_option maxHeartbeats 4000000 in
theorem w_X0_meet_47 {K : zK} (hk : zIs K RX0 cX0_meet 6 wsX0_meet none r_X0_meet) {τ0 : zST} (hq : zQ K none τ0) (F : Nat) : ∀ (n : Nat) (a0 : Nat) (a1 : Int32) (a3 : Int32) (a4 : Int32) (ha0 : atArranging (kZ K) a0) (σ : zST), m_X0_meet_47 F n a0 a1 a3 a4 σ = some τ0 → Z K 0 0 47 [(0, .ref (eA (kZ K) a0)), (1, .int a1), (3, .int a3), (4, .int a4)] [] σ := by
  intro n
  induction n with
  | zero => intro a0 a1 a3 a4 ha0 σ h; cases h
  | succ n ih =>
    intro a0 a1 a3 a4 ha0 σ h
    rw [m_X0_meet_47] at h
    refine Z_iload hk 3 dX0_meet_47 rfl ?_
    refine Z_iload_n hk 1 dX0_meet_49 rfl rfl ?_
    refine Z_icmp_ge hk (tgt := 96) dX0_meet_50 (by decide) (fun c13 => ?_) (fun c13 => ?_)
    · have h := if_yes h c13
      refine Z_aload_n hk 0 dX0_meet_96 rfl rfl ?_
      refine Z_aload_n hk 0 dX0_meet_97 rfl rfl ?_
      refine Z_get hk in_X0_meet_Arranging rfl ha0.cell.1 (ha0.cell.2 _) 1 (by decide) wd_X0_meet_3 rfl dX0_meet_98 ?_
      refine Z_iload_n hk 2 dX0_meet_101 rfl rfl ?_
      refine Z_mmin hk ⟨wd_X0_meet_6, wd_X0_meet_7, wd_X0_meet_8, wd_X0_meet_9⟩ (by decide) (Nat.le_of_ble_eq_true rfl) ⟨Nat.zero_le _, Nat.zero_le _⟩ dX0_meet_102 ?_
      show Z K 0 0 105 [(0, .ref (eA (kZ K) a0)), (1, .int a1), (3, .int a3), (4, .int a4)] [.int (if a3 < gI σ a0 1 then a3 else gI σ a0 1), .ref (eA (kZ K) a0)] σ
      obtain ⟨s14, e15, h⟩ := nm_get h
      refine Z_put hk in_X0_meet_Arranging tyX0 tok_TX0 tnm_TX0 rfl ha0.cell.1 (ha0.cell.2 _) 1 (by decide) wd_X0_meet_3 rfl (by decide) (Nat.le_of_ble_eq_true rfl) (ha0.put_leastPlaces _ _) dX0_meet_105 ?_
      refine Z_eqS e15 ?_
      cases h
      exact Z_vret hk hq dX0_meet_108
    · have h := if_no h c13
      refine Z_aload_n hk 0 dX0_meet_53 rfl rfl ?_
      refine Z_get hk in_X0_meet_Arranging rfl ha0.cell.1 (ha0.cell.2 _) 5 (by decide) wd_X0_meet_10 rfl dX0_meet_54 ?_
      refine Z_iload hk 3 dX0_meet_57 rfl ?_
      obtain ⟨i18, x16, e17, h⟩ := ldI_get h
      refine Z_iald hk (ha0.vertexAt) i18 dX0_meet_59 ?_
      refine Z_eqI e17 ?_
      refine Z_istore hk (lv' := [(5, .int x16), (0, .ref (eA (kZ K) a0)), (1, .int a1), (3, .int a3), (4, .int a4)]) dX0_meet_60 (by decide) rfl ?_
      refine Z_aload_n hk 1 dX0_meet_62 rfl rfl ?_
      refine Z_get hk in_X0_meet_Arranging rfl ha0.cell.1 (ha0.cell.2 _) 6 (by decide) wd_X0_meet_5 rfl dX0_meet_63 ?_
      refine Z_iload hk 4 dX0_meet_66 rfl ?_
      refine Z_dup2 hk dX0_meet_68 rfl rfl ?_
      obtain ⟨i21, x19, e20, h⟩ := ldI_get h
      refine Z_iald hk (ha0.seenAt) i21 dX0_meet_69 ?_
      refine Z_eqI e20 ?_
      refine Z_aload_n hk 1 dX0_meet_70 rfl rfl ?_
      refine Z_get hk in_X0_meet_Arranging rfl ha0.cell.1 (ha0.cell.2 _) 3 (by decide) wd_X0_meet_11 rfl dX0_meet_71 ?_
      refine Z_iload hk 0 dX0_meet_74 rfl ?_
      obtain ⟨i24, x22, e23, h⟩ := ldI_get h
      refine Z_iald hk (ha0.twins) i24 dX0_meet_76 ?_
      refine Z_eqI e23 ?_
      refine Z_ior hk dX0_meet_77 ?_
      obtain ⟨i27, s25, e26, h⟩ := stI_get h
      refine Z_iast hk (ha0.seenAt) i27 dX0_meet_78 ?_
      refine Z_eqS e26 ?_
      refine Z_iload_n hk 3 dX0_meet_79 rfl rfl ?_
      refine Z_iload hk 4 dX0_meet_80 rfl ?_
      refine Z_iload hk 0 dX0_meet_82 rfl ?_
      obtain ⟨x28, s29, h30, h⟩ := bd_ok h
      refine Z_callT 1 hk [.int x16] (c_X0_shiftOf hk.loc hk.inj F x16 s25 h30) gX0_meet_X0_shiftOf rfl ⟨rfl, rfl⟩ (by decide +kernel) ⟨Nat.le_of_ble_eq_true rfl, Nat.le_of_ble_eq_true rfl⟩ rfl rfl (Nat.le_of_ble_eq_true rfl) ⟨Nat.zero_le _, Nat.zero_le _⟩ dX0_meet_84 ?_
      show Z K 0 0 87 [(5, .int x16), (0, .ref (eA (kZ K) a0)), (1, .int a1), (3, .int a3), (4, .int a4)] [.int x28, .int a4, .int a3] s29
      refine Z_ishl hk dX0_meet_87 ?_
      refine Z_ior hk dX0_meet_88 ?_
      obtain ⟨x31, e32, h⟩ := nm_get h
      refine Z_eqI e32 ?_
      refine Z_istore_n hk (lv' := [(3, .int x31), (5, .int x16), (0, .ref (eA (kZ K) a0)), (1, .int a1), (4, .int a4)]) dX0_meet_89 rfl (by decide) rfl ?_
      obtain ⟨x33, e34, h⟩ := nm_get h
      refine Z_iinc hk 4 (v := x33) (lv' := [(4, .int x33), (3, .int x31), (5, .int x16), (0, .ref (eA (kZ K) a0)), (1, .int a1)]) dX0_meet_90 rfl (by rw [zc_iinc_1]; exact e34) (by decide) rfl ?_
      refine Z_goto hk (tgt := 47) dX0_meet_93 (by decide) ?_
      refine Z_sub [3, 4, 1, 0] rfl ?_
      exact ih a0 a1 x31 x33 ha0 s29 h
set_option maxRecDepth 100000 in
set_option maxHeartbeats 4000000 in
theorem w_X0_meet_32 {K : zK} (hk : zIs K RX0 cX0_meet 6 wsX0_meet none r_X0_meet) {τ0 : zST} (hq : zQ K none τ0) (F : Nat) (a0 : Nat) (a1 : Int32) (ha0 : atArranging (kZ K) a0) (σ : zST) (h : m_X0_meet_32 F a0 a1 σ = some τ0) : Z K 0 0 32 [(0, .ref (eA (kZ K) a0)), (1, .int a1)] [] σ := by
  unfold m_X0_meet_32 at h
  refine Z_aload_n hk 0 dX0_meet_32 rfl rfl ?_
  refine Z_dup hk dX0_meet_33 rfl ?_
  refine Z_get hk in_X0_meet_Arranging rfl ha0.cell.1 (ha0.cell.2 _) 2 (by decide) wd_X0_meet_4 rfl dX0_meet_34 ?_
  refine Z_iconst hk dX0_meet_37 zc_iconst_1 ?_
  refine Z_iadd hk dX0_meet_38 ?_
  obtain ⟨s11, e12, h⟩ := nm_get h
  refine Z_put hk in_X0_meet_Arranging tyX0 tok_TX0 tnm_TX0 rfl ha0.cell.1 (ha0.cell.2 _) 2 (by decide) wd_X0_meet_4 rfl (by decide) (Nat.le_of_ble_eq_true rfl) (ha0.put_met _ _) dX0_meet_39 ?_
  refine Z_eqS e12 ?_
  refine Z_iconst hk dX0_meet_42 zc_iconst_0 ?_
  refine Z_istore_n hk (lv' := [(3, .int 0), (0, .ref (eA (kZ K) a0)), (1, .int a1)]) dX0_meet_43 rfl (by decide) rfl ?_
  refine Z_iconst hk dX0_meet_44 zc_iconst_0 ?_
  refine Z_istore hk (lv' := [(4, .int 0), (3, .int 0), (0, .ref (eA (kZ K) a0)), (1, .int a1)]) dX0_meet_45 (by decide) rfl ?_
  refine Z_sub [2, 3, 1, 0] rfl ?_
  exact w_X0_meet_47 hk hq F F a0 a1 0 0 ha0 s11 h
set_option maxRecDepth 100000 in
set_option maxHeartbeats 4000000 in
theorem w_X0_meet {K : zK} (hk : zIs K RX0 cX0_meet 6 wsX0_meet none r_X0_meet) {τ0 : zST} (hq : zQ K none τ0) (F : Nat) (a0 : Nat) (a1 : Int32) (a2 : Int32) (ha0 : atArranging (kZ K) a0) (σ : zST) (h : m_X0_meet F a0 a1 a2 σ = some τ0) : Z K 0 0 0 [(0, .ref (eA (kZ K) a0)), (1, .int a1), (2, .int a2)] [] σ := by
  unfold m_X0_meet at h
  refine Z_iload_n hk 2 dX0_meet_0 rfl rfl ?_
  refine Z_aload_n hk 0 dX0_meet_1 rfl rfl ?_
  refine Z_get hk in_X0_meet_Arranging rfl ha0.cell.1 (ha0.cell.2 _) 0 (by decide) wd_X0_meet_1 rfl dX0_meet_2 ?_
  refine Z_icmp_ge hk (tgt := 32) dX0_meet_5 (by decide) (fun c1 => ?_) (fun c1 => ?_)
  · have h := if_yes h c1
    refine Z_sub [0, 1] rfl ?_
    exact w_X0_meet_32 hk hq F a0 a1 ha0 σ h
  · have h := if_no h c1
    refine Z_aload_n hk 0 dX0_meet_8 rfl rfl ?_
    refine Z_iload_n hk 2 dX0_meet_9 rfl rfl ?_
    obtain ⟨s2, e3, h⟩ := nm_get h
    refine Z_put hk in_X0_meet_Arranging tyX0 tok_TX0 tnm_TX0 rfl ha0.cell.1 (ha0.cell.2 _) 0 (by decide) wd_X0_meet_1 rfl (by decide) (Nat.le_of_ble_eq_true rfl) (ha0.put_leastEdges _ _) dX0_meet_10 ?_
    refine Z_eqS e3 ?_
    refine Z_aload_n hk 0 dX0_meet_13 rfl rfl ?_
    refine Z_ldc hk (v := 16777216) dX0_meet_14 wd_X0_meet_2 ?_
    obtain ⟨s4, e5, h⟩ := nm_get h
    refine Z_put hk in_X0_meet_Arranging tyX0 tok_TX0 tnm_TX0 rfl ha0.cell.1 (ha0.cell.2 _) 1 (by decide) wd_X0_meet_3 rfl (by decide) (Nat.le_of_ble_eq_true rfl) (ha0.put_leastPlaces _ _) dX0_meet_16 ?_
    refine Z_eqS e5 ?_
    refine Z_aload_n hk 0 dX0_meet_19 rfl rfl ?_
    refine Z_iconst hk dX0_meet_20 zc_iconst_0 ?_
    obtain ⟨s6, e7, h⟩ := nm_get h
    refine Z_put hk in_X0_meet_Arranging tyX0 tok_TX0 tnm_TX0 rfl ha0.cell.1 (ha0.cell.2 _) 2 (by decide) wd_X0_meet_4 rfl (by decide) (Nat.le_of_ble_eq_true rfl) (ha0.put_met _ _) dX0_meet_21 ?_
    refine Z_eqS e7 ?_
    refine Z_aload_n hk 0 dX0_meet_24 rfl rfl ?_
    refine Z_get hk in_X0_meet_Arranging rfl ha0.cell.1 (ha0.cell.2 _) 6 (by decide) wd_X0_meet_5 rfl dX0_meet_25 ?_
    refine Z_iconst hk dX0_meet_28 zc_iconst_0 ?_
    obtain ⟨s9, h10, h⟩ := bv_ok h
    refine Z_callT 2 hk [.ref (eA (kZ K) (a0 + 4)), .int 0] (c_J7_fill_53178 hk.loc hk.inj F 8 (a0 + 4) 0 (ha0.seenAt) s6 h10) gX0_meet_J7_fill_53178 rfl ⟨rfl, rfl⟩ (by decide +kernel) ⟨Nat.le_of_ble_eq_true rfl, Nat.le_of_ble_eq_true rfl⟩ rfl rfl (Nat.le_of_ble_eq_true rfl) ⟨Nat.zero_le _, Nat.zero_le _⟩ dX0_meet_29 ?_
    show Z K 0 0 32 [(0, .ref (eA (kZ K) a0)), (1, .int a1), (2, .int a2)] [] s9
    refine Z_sub [0, 1] rfl ?_
    exact w_X0_meet_32 hk hq F a0 a1 ha0 s9 h
theorem c_X0_meet {l : Launch} {E : zE} (hL : eL E) (hJ : eJ E) (F : Nat) (a0 : Nat) (a1 : Int32) (a2 : Int32) (ha0 : atArranging E a0) (σ : zST) {τ0 : zST} (h : m_X0_meet F a0 a1 a2 σ = some τ0) : Ct l yX0_meet wsX0_meet r_X0_meet E [.ref (eA E a0), .int a1, .int a2] σ none τ0 := by
  refine Ct_of (by decide) rfl hL hJ (Nat.le_of_ble_eq_true rfl) (fun K hE hl hk hq => ?_)
  subst hE
  exact w_X0_meet hk hq F a0 a1 a2 ha0 σ h
end

-- CanonCote$Arranging.splitCells (LCanonCote$Graph;II)I
section
theorem dX0_splitCells_0 : decode cX0_splitCells 0 = .ok (.iload_n 2, 1) := by decide +kernel
theorem dX0_splitCells_1 : decode cX0_splitCells 1 = .ok (.bipush 8, 2) := by decide +kernel
theorem dX0_splitCells_3 : decode cX0_splitCells 3 = .ok (.imul, 1) := by decide +kernel
theorem dX0_splitCells_4 : decode cX0_splitCells 4 = .ok (.istore 4, 2) := by decide +kernel
theorem dX0_splitCells_6 : decode cX0_splitCells 6 = .ok (.iload_n 2, 1) := by decide +kernel
theorem dX0_splitCells_7 : decode cX0_splitCells 7 = .ok (.iconst 1, 1) := by decide +kernel
theorem dX0_splitCells_8 : decode cX0_splitCells 8 = .ok (.iadd, 1) := by decide +kernel
theorem dX0_splitCells_9 : decode cX0_splitCells 9 = .ok (.istore 5, 2) := by decide +kernel
theorem dX0_splitCells_11 : decode cX0_splitCells 11 = .ok (.iconst 0, 1) := by decide +kernel
theorem dX0_splitCells_12 : decode cX0_splitCells 12 = .ok (.istore 6, 2) := by decide +kernel
theorem dX0_splitCells_14 : decode cX0_splitCells 14 = .ok (.iconst 0, 1) := by decide +kernel
theorem dX0_splitCells_15 : decode cX0_splitCells 15 = .ok (.istore 7, 2) := by decide +kernel
theorem dX0_splitCells_17 : decode cX0_splitCells 17 = .ok (.iload_n 2, 1) := by decide +kernel
theorem dX0_splitCells_18 : decode cX0_splitCells 18 = .ok (.iconst 1, 1) := by decide +kernel
theorem dX0_splitCells_19 : decode cX0_splitCells 19 = .ok (.iadd, 1) := by decide +kernel
theorem dX0_splitCells_20 : decode cX0_splitCells 20 = .ok (.istore 8, 2) := by decide +kernel
theorem dX0_splitCells_22 : decode cX0_splitCells 22 = .ok (.iload 8, 2) := by decide +kernel
theorem dX0_splitCells_24 : decode cX0_splitCells 24 = .ok (.aload_n 1, 1) := by decide +kernel
theorem dX0_splitCells_25 : decode cX0_splitCells 25 = .ok (.getfield 40, 3) := by decide +kernel
theorem dX0_splitCells_28 : decode cX0_splitCells 28 = .ok (.if_icmp .ge 120, 3) := by decide +kernel
theorem dX0_splitCells_31 : decode cX0_splitCells 31 = .ok (.aload_n 0, 1) := by decide +kernel
theorem dX0_splitCells_32 : decode cX0_splitCells 32 = .ok (.getfield 15, 3) := by decide +kernel
theorem dX0_splitCells_35 : decode cX0_splitCells 35 = .ok (.iload 4, 2) := by decide +kernel
theorem dX0_splitCells_37 : decode cX0_splitCells 37 = .ok (.iload 8, 2) := by decide +kernel
theorem dX0_splitCells_39 : decode cX0_splitCells 39 = .ok (.iadd, 1) := by decide +kernel
theorem dX0_splitCells_40 : decode cX0_splitCells 40 = .ok (.iaload, 1) := by decide +kernel
theorem dX0_splitCells_41 : decode cX0_splitCells 41 = .ok (.iconst 1, 1) := by decide +kernel
theorem dX0_splitCells_42 : decode cX0_splitCells 42 = .ok (.iload_n 3, 1) := by decide +kernel
theorem dX0_splitCells_43 : decode cX0_splitCells 43 = .ok (.ishl, 1) := by decide +kernel
theorem dX0_splitCells_44 : decode cX0_splitCells 44 = .ok (.iconst (-1), 1) := by decide +kernel
theorem dX0_splitCells_45 : decode cX0_splitCells 45 = .ok (.ixor, 1) := by decide +kernel
theorem dX0_splitCells_46 : decode cX0_splitCells 46 = .ok (.iand, 1) := by decide +kernel
theorem dX0_splitCells_47 : decode cX0_splitCells 47 = .ok (.istore 9, 2) := by decide +kernel
theorem dX0_splitCells_49 : decode cX0_splitCells 49 = .ok (.iload 9, 2) := by decide +kernel
theorem dX0_splitCells_51 : decode cX0_splitCells 51 = .ok (.iload 6, 2) := by decide +kernel
theorem dX0_splitCells_53 : decode cX0_splitCells 53 = .ok (.if_icmp .eq 11, 3) := by decide +kernel
theorem dX0_splitCells_56 : decode cX0_splitCells 56 = .ok (.iload 8, 2) := by decide +kernel
theorem dX0_splitCells_58 : decode cX0_splitCells 58 = .ok (.istore 5, 2) := by decide +kernel
theorem dX0_splitCells_60 : decode cX0_splitCells 60 = .ok (.iload 9, 2) := by decide +kernel
theorem dX0_splitCells_62 : decode cX0_splitCells 62 = .ok (.istore 6, 2) := by decide +kernel
theorem dX0_splitCells_64 : decode cX0_splitCells 64 = .ok (.iload 9, 2) := by decide +kernel
theorem dX0_splitCells_66 : decode cX0_splitCells 66 = .ok (.aload_n 1, 1) := by decide +kernel
theorem dX0_splitCells_67 : decode cX0_splitCells 67 = .ok (.getfield 72, 3) := by decide +kernel
theorem dX0_splitCells_70 : decode cX0_splitCells 70 = .ok (.iload_n 3, 1) := by decide +kernel
theorem dX0_splitCells_71 : decode cX0_splitCells 71 = .ok (.iaload, 1) := by decide +kernel
theorem dX0_splitCells_72 : decode cX0_splitCells 72 = .ok (.iconst (-1), 1) := by decide +kernel
theorem dX0_splitCells_73 : decode cX0_splitCells 73 = .ok (.ixor, 1) := by decide +kernel
theorem dX0_splitCells_74 : decode cX0_splitCells 74 = .ok (.iand, 1) := by decide +kernel
theorem dX0_splitCells_75 : decode cX0_splitCells 75 = .ok (.istore 10, 2) := by decide +kernel
theorem dX0_splitCells_77 : decode cX0_splitCells 77 = .ok (.iload 8, 2) := by decide +kernel
theorem dX0_splitCells_79 : decode cX0_splitCells 79 = .ok (.iload 5, 2) := by decide +kernel
theorem dX0_splitCells_81 : decode cX0_splitCells 81 = .ok (.isub, 1) := by decide +kernel
theorem dX0_splitCells_82 : decode cX0_splitCells 82 = .ok (.iload 10, 2) := by decide +kernel
theorem dX0_splitCells_84 : decode cX0_splitCells 84 = .ok (.invokestatic 52, 3) := by decide +kernel
theorem dX0_splitCells_87 : decode cX0_splitCells 87 = .ok (.if_icmp .ge 21, 3) := by decide +kernel
theorem dX0_splitCells_90 : decode cX0_splitCells 90 = .ok (.aload_n 0, 1) := by decide +kernel
theorem dX0_splitCells_91 : decode cX0_splitCells 91 = .ok (.getfield 15, 3) := by decide +kernel
theorem dX0_splitCells_94 : decode cX0_splitCells 94 = .ok (.iload 4, 2) := by decide +kernel
theorem dX0_splitCells_96 : decode cX0_splitCells 96 = .ok (.bipush 8, 2) := by decide +kernel
theorem dX0_splitCells_98 : decode cX0_splitCells 98 = .ok (.iadd, 1) := by decide +kernel
theorem dX0_splitCells_99 : decode cX0_splitCells 99 = .ok (.iload 8, 2) := by decide +kernel
theorem dX0_splitCells_101 : decode cX0_splitCells 101 = .ok (.iadd, 1) := by decide +kernel
theorem dX0_splitCells_102 : decode cX0_splitCells 102 = .ok (.iload 10, 2) := by decide +kernel
theorem dX0_splitCells_104 : decode cX0_splitCells 104 = .ok (.iastore, 1) := by decide +kernel
theorem dX0_splitCells_105 : decode cX0_splitCells 105 = .ok (.goto 37, 3) := by decide +kernel
theorem dX0_splitCells_108 : decode cX0_splitCells 108 = .ok (.aload_n 0, 1) := by decide +kernel
theorem dX0_splitCells_109 : decode cX0_splitCells 109 = .ok (.getfield 15, 3) := by decide +kernel
theorem dX0_splitCells_112 : decode cX0_splitCells 112 = .ok (.iload 4, 2) := by decide +kernel
theorem dX0_splitCells_114 : decode cX0_splitCells 114 = .ok (.bipush 8, 2) := by decide +kernel
theorem dX0_splitCells_116 : decode cX0_splitCells 116 = .ok (.iadd, 1) := by decide +kernel
theorem dX0_splitCells_117 : decode cX0_splitCells 117 = .ok (.iload 8, 2) := by decide +kernel
theorem dX0_splitCells_119 : decode cX0_splitCells 119 = .ok (.iadd, 1) := by decide +kernel
theorem dX0_splitCells_120 : decode cX0_splitCells 120 = .ok (.iload 9, 2) := by decide +kernel
theorem dX0_splitCells_122 : decode cX0_splitCells 122 = .ok (.aload_n 1, 1) := by decide +kernel
theorem dX0_splitCells_123 : decode cX0_splitCells 123 = .ok (.getfield 72, 3) := by decide +kernel
theorem dX0_splitCells_126 : decode cX0_splitCells 126 = .ok (.iload_n 3, 1) := by decide +kernel
theorem dX0_splitCells_127 : decode cX0_splitCells 127 = .ok (.iaload, 1) := by decide +kernel
theorem dX0_splitCells_128 : decode cX0_splitCells 128 = .ok (.iand, 1) := by decide +kernel
theorem dX0_splitCells_129 : decode cX0_splitCells 129 = .ok (.iastore, 1) := by decide +kernel
theorem dX0_splitCells_130 : decode cX0_splitCells 130 = .ok (.iload 7, 2) := by decide +kernel
theorem dX0_splitCells_132 : decode cX0_splitCells 132 = .ok (.iconst 1, 1) := by decide +kernel
theorem dX0_splitCells_133 : decode cX0_splitCells 133 = .ok (.bipush 7, 2) := by decide +kernel
theorem dX0_splitCells_135 : decode cX0_splitCells 135 = .ok (.iload 8, 2) := by decide +kernel
theorem dX0_splitCells_137 : decode cX0_splitCells 137 = .ok (.isub, 1) := by decide +kernel
theorem dX0_splitCells_138 : decode cX0_splitCells 138 = .ok (.ishl, 1) := by decide +kernel
theorem dX0_splitCells_139 : decode cX0_splitCells 139 = .ok (.ior, 1) := by decide +kernel
theorem dX0_splitCells_140 : decode cX0_splitCells 140 = .ok (.istore 7, 2) := by decide +kernel
theorem dX0_splitCells_142 : decode cX0_splitCells 142 = .ok (.iinc 8 1, 3) := by decide +kernel
theorem dX0_splitCells_145 : decode cX0_splitCells 145 = .ok (.goto (-123), 3) := by decide +kernel
theorem dX0_splitCells_148 : decode cX0_splitCells 148 = .ok (.iload 7, 2) := by decide +kernel
theorem dX0_splitCells_150 : decode cX0_splitCells 150 = .ok (.ireturn, 1) := by decide +kernel
set_option maxRecDepth 20000 in
theorem ggX0_splitCells_J6_bitCount_0f7a4 : GoodIn wsX0_splitCells wsJ6_bitCount_0f7a4 := goodIn_r _ [5, 6, 7, 8] (by decide +kernel) (by decide +kernel)
set_option maxRecDepth 20000 in
theorem gX0_splitCells_J6_bitCount_0f7a4 : GoodIn wsX0_splitCells (va_wsS RX0 52 yJ6_bitCount_0f7a4 wsJ6_bitCount_0f7a4) := goodIn_app (goodIn_of _ (by decide +kernel)) ggX0_splitCells_J6_bitCount_0f7a4
theorem in_X0_splitCells_Graph : ∀ w ∈ u_ws RX2 TX2 3, w ∈ wsX0_splitCells := by decide +kernel
theorem in_X0_splitCells_Arranging : ∀ w ∈ u_ws RX0 TX0 7, w ∈ wsX0_splitCells := by decide +kernel
theorem wd_X0_splitCells_2 : Cond.fieldLink RX0 15 (TX0 4).1 (TX0 4).2.1 (TX0 4).2.2.1 ∈ wsX0_splitCells := by decide +kernel
def r_X0_splitCells : Room := { frames := 2, cells := 0, slots := 0, locals := 32 }
set_option maxRecDepth 100000 in
set_option maxHeartbeats 4000000 in
theorem w_X0_splitCells_142 {K : zK} (hk : zIs K RX0 cX0_splitCells 11 wsX0_splitCells (some .int) r_X0_splitCells) {r0 : Int32} {τ0 : zST} (hq : zQ K (some (.int r0)) τ0) (F : Nat) (k22 : Nat → Nat → Int32 → Int32 → Int32 → Int32 → Int32 → Int32 → zST → Option (Int32 × zST)) (hk22 : ∀ (a0 : Nat) (a1 : Nat) (a3 : Int32) (a4 : Int32) (a5 : Int32) (a6 : Int32) (a7 : Int32) (a8 : Int32) (ha0 : atArranging (kZ K) a0) (ha1 : atGraph (kZ K) a1) (σ : zST), k22 a0 a1 a3 a4 a5 a6 a7 a8 σ = some (r0, τ0) → Z K 0 0 22 [(0, .ref (eA (kZ K) a0)), (1, .ref (eA (kZ K) a1)), (3, .int a3), (4, .int a4), (5, .int a5), (6, .int a6), (7, .int a7), (8, .int a8)] [] σ) (a0 : Nat) (a1 : Nat) (a3 : Int32) (a4 : Int32) (a5 : Int32) (a6 : Int32) (a7 : Int32) (a8 : Int32) (ha0 : atArranging (kZ K) a0) (ha1 : atGraph (kZ K) a1) (σ : zST) (h : m_X0_splitCells_142 F k22 a0 a1 a3 a4 a5 a6 a7 a8 σ = some (r0, τ0)) : Z K 0 0 142 [(0, .ref (eA (kZ K) a0)), (1, .ref (eA (kZ K) a1)), (3, .int a3), (4, .int a4), (5, .int a5), (6, .int a6), (7, .int a7), (8, .int a8)] [] σ := by
  unfold m_X0_splitCells_142 at h
  obtain ⟨x34, e35, h⟩ := nm_get h
  refine Z_iinc hk 7 (v := x34) (lv' := [(8, .int x34), (0, .ref (eA (kZ K) a0)), (1, .ref (eA (kZ K) a1)), (3, .int a3), (4, .int a4), (5, .int a5), (6, .int a6), (7, .int a7)]) dX0_splitCells_142 rfl (by rw [zc_iinc_1]; exact e35) (by decide) rfl ?_
  refine Z_goto hk (tgt := 22) dX0_splitCells_145 (by decide) ?_
  refine Z_sub [1, 2, 3, 4, 5, 6, 7, 0] rfl ?_
  exact hk22 a0 a1 a3 a4 a5 a6 a7 x34 ha0 ha1 σ h
set_option maxRecDepth 100000 in
set_option maxHeartbeats 4000000 in
theorem w_X0_splitCells_64 {K : zK} (hk : zIs K RX0 cX0_splitCells 11 wsX0_splitCells (some .int) r_X0_splitCells) {r0 : Int32} {τ0 : zST} (hq : zQ K (some (.int r0)) τ0) (F : Nat) (k22 : Nat → Nat → Int32 → Int32 → Int32 → Int32 → Int32 → Int32 → zST → Option (Int32 × zST)) (hk22 : ∀ (a0 : Nat) (a1 : Nat) (a3 : Int32) (a4 : Int32) (a5 : Int32) (a6 : Int32) (a7 : Int32) (a8 : Int32) (ha0 : atArranging (kZ K) a0) (ha1 : atGraph (kZ K) a1) (σ : zST), k22 a0 a1 a3 a4 a5 a6 a7 a8 σ = some (r0, τ0) → Z K 0 0 22 [(0, .ref (eA (kZ K) a0)), (1, .ref (eA (kZ K) a1)), (3, .int a3), (4, .int a4), (5, .int a5), (6, .int a6), (7, .int a7), (8, .int a8)] [] σ) (a0 : Nat) (a1 : Nat) (a3 : Int32) (a4 : Int32) (a5 : Int32) (a6 : Int32) (a7 : Int32) (a8 : Int32) (a9 : Int32) (ha0 : atArranging (kZ K) a0) (ha1 : atGraph (kZ K) a1) (σ : zST) (h : m_X0_splitCells_64 F k22 a0 a1 a3 a4 a5 a6 a7 a8 a9 σ = some (r0, τ0)) : Z K 0 0 64 [(0, .ref (eA (kZ K) a0)), (1, .ref (eA (kZ K) a1)), (3, .int a3), (4, .int a4), (5, .int a5), (6, .int a6), (7, .int a7), (8, .int a8), (9, .int a9)] [] σ := by
  unfold m_X0_splitCells_64 at h
  refine Z_iload hk 8 dX0_splitCells_64 rfl ?_
  refine Z_aload_n hk 1 dX0_splitCells_66 rfl rfl ?_
  refine Z_getN hk in_X0_splitCells_Graph rfl ha1.cell.1 (ha1.cell.2 _) 1 (by decide) nw_3 rfl dX0_splitCells_67 ?_
  refine Z_iload_n hk 2 dX0_splitCells_70 rfl rfl ?_
  obtain ⟨i16, x14, e15, h⟩ := ldI_get h
  refine Z_iald hk (ha1.near) i16 dX0_splitCells_71 ?_
  refine Z_eqI e15 ?_
  refine Z_iconst hk dX0_splitCells_72 zc_iconst_m1 ?_
  refine Z_ixor hk dX0_splitCells_73 ?_
  refine Z_iand hk dX0_splitCells_74 ?_
  obtain ⟨x17, e18, h⟩ := nm_get h
  refine Z_eqI e18 ?_
  refine Z_istore hk (lv' := [(10, .int x17), (0, .ref (eA (kZ K) a0)), (1, .ref (eA (kZ K) a1)), (3, .int a3), (4, .int a4), (5, .int a5), (6, .int a6), (7, .int a7), (8, .int a8), (9, .int a9)]) dX0_splitCells_75 (by decide) rfl ?_
  refine Z_iload hk 8 dX0_splitCells_77 rfl ?_
  refine Z_iload hk 5 dX0_splitCells_79 rfl ?_
  refine Z_isub hk dX0_splitCells_81 ?_
  refine Z_iload hk 0 dX0_splitCells_82 rfl ?_
  obtain ⟨x19, s20, h21, h⟩ := bd_ok h
  refine Z_callT 1 hk [.int x17] (c_J6_bitCount_0f7a4 hk.loc hk.inj F x17 σ h21) gX0_splitCells_J6_bitCount_0f7a4 rfl ⟨rfl, rfl⟩ (by decide +kernel) ⟨Nat.le_of_ble_eq_true rfl, Nat.le_of_ble_eq_true rfl⟩ rfl rfl (Nat.le_of_ble_eq_true rfl) ⟨Nat.zero_le _, Nat.zero_le _⟩ dX0_splitCells_84 ?_
  show Z K 0 0 87 [(10, .int x17), (0, .ref (eA (kZ K) a0)), (1, .ref (eA (kZ K) a1)), (3, .int a3), (4, .int a4), (5, .int a5), (6, .int a6), (7, .int a7), (8, .int a8), (9, .int a9)] [.int x19, .int (a8 - a5)] s20
  refine Z_icmp_ge hk (tgt := 108) dX0_splitCells_87 (by decide) (fun c22 => ?_) (fun c22 => ?_)
  · have h := if_yes h c22
    refine Z_aload_n hk 1 dX0_splitCells_108 rfl rfl ?_
    refine Z_get hk in_X0_splitCells_Arranging rfl ha0.cell.1 (ha0.cell.2 _) 4 (by decide) wd_X0_splitCells_2 rfl dX0_splitCells_109 ?_
    refine Z_iload hk 4 dX0_splitCells_112 rfl ?_
    refine Z_bipush hk dX0_splitCells_114 zc_bipush_8 ?_
    refine Z_iadd hk dX0_splitCells_116 ?_
    refine Z_iload hk 8 dX0_splitCells_117 rfl ?_
    refine Z_iadd hk dX0_splitCells_119 ?_
    refine Z_iload hk 9 dX0_splitCells_120 rfl ?_
    refine Z_aload_n hk 2 dX0_splitCells_122 rfl rfl ?_
    refine Z_getN hk in_X0_splitCells_Graph rfl ha1.cell.1 (ha1.cell.2 _) 1 (by decide) nw_3 rfl dX0_splitCells_123 ?_
    refine Z_iload_n hk 3 dX0_splitCells_126 rfl rfl ?_
    obtain ⟨i25, x23, e24, h⟩ := ldI_get h
    refine Z_iald hk (ha1.near) i25 dX0_splitCells_127 ?_
    refine Z_eqI e24 ?_
    refine Z_iand hk dX0_splitCells_128 ?_
    obtain ⟨i28, s26, e27, h⟩ := stI_get h
    refine Z_iast hk (ha0.cells) i28 dX0_splitCells_129 ?_
    refine Z_eqS e27 ?_
    refine Z_iload hk 7 dX0_splitCells_130 rfl ?_
    refine Z_iconst hk dX0_splitCells_132 zc_iconst_1 ?_
    refine Z_bipush hk dX0_splitCells_133 zc_bipush_7 ?_
    refine Z_iload hk 8 dX0_splitCells_135 rfl ?_
    refine Z_isub hk dX0_splitCells_137 ?_
    refine Z_ishl hk dX0_splitCells_138 ?_
    refine Z_ior hk dX0_splitCells_139 ?_
    obtain ⟨x29, e30, h⟩ := nm_get h
    refine Z_eqI e30 ?_
    refine Z_istore hk (lv' := [(7, .int x29), (10, .int x17), (0, .ref (eA (kZ K) a0)), (1, .ref (eA (kZ K) a1)), (3, .int a3), (4, .int a4), (5, .int a5), (6, .int a6), (8, .int a8), (9, .int a9)]) dX0_splitCells_140 (by decide) rfl ?_
    refine Z_sub [2, 3, 4, 5, 6, 7, 0, 8] rfl ?_
    exact w_X0_splitCells_142 hk hq F k22 hk22 a0 a1 a3 a4 a5 a6 x29 a8 ha0 ha1 s26 h
  · have h := if_no h c22
    refine Z_aload_n hk 1 dX0_splitCells_90 rfl rfl ?_
    refine Z_get hk in_X0_splitCells_Arranging rfl ha0.cell.1 (ha0.cell.2 _) 4 (by decide) wd_X0_splitCells_2 rfl dX0_splitCells_91 ?_
    refine Z_iload hk 4 dX0_splitCells_94 rfl ?_
    refine Z_bipush hk dX0_splitCells_96 zc_bipush_8 ?_
    refine Z_iadd hk dX0_splitCells_98 ?_
    refine Z_iload hk 8 dX0_splitCells_99 rfl ?_
    refine Z_iadd hk dX0_splitCells_101 ?_
    refine Z_iload hk 0 dX0_splitCells_102 rfl ?_
    obtain ⟨i33, s31, e32, h⟩ := stI_get h
    refine Z_iast hk (ha0.cells) i33 dX0_splitCells_104 ?_
    refine Z_eqS e32 ?_
    refine Z_goto hk (tgt := 142) dX0_splitCells_105 (by decide) ?_
    refine Z_sub [1, 2, 3, 4, 5, 6, 7, 8] rfl ?_
    exact w_X0_splitCells_142 hk hq F k22 hk22 a0 a1 a3 a4 a5 a6 a7 a8 ha0 ha1 s31 h
set_option maxRecDepth 100000 in
set_option maxHeartbeats 4000000 in
theorem w_X0_splitCells_22 {K : zK} (hk : zIs K RX0 cX0_splitCells 11 wsX0_splitCells (some .int) r_X0_splitCells) {r0 : Int32} {τ0 : zST} (hq : zQ K (some (.int r0)) τ0) (F : Nat) : ∀ (n : Nat) (a0 : Nat) (a1 : Nat) (a3 : Int32) (a4 : Int32) (a5 : Int32) (a6 : Int32) (a7 : Int32) (a8 : Int32) (ha0 : atArranging (kZ K) a0) (ha1 : atGraph (kZ K) a1) (σ : zST), m_X0_splitCells_22 F n a0 a1 a3 a4 a5 a6 a7 a8 σ = some (r0, τ0) → Z K 0 0 22 [(0, .ref (eA (kZ K) a0)), (1, .ref (eA (kZ K) a1)), (3, .int a3), (4, .int a4), (5, .int a5), (6, .int a6), (7, .int a7), (8, .int a8)] [] σ := by
  intro n
  induction n with
  | zero => intro a0 a1 a3 a4 a5 a6 a7 a8 ha0 ha1 σ h; cases h
  | succ n ih =>
    intro a0 a1 a3 a4 a5 a6 a7 a8 ha0 ha1 σ h
    rw [m_X0_splitCells_22] at h
    refine Z_iload hk 7 dX0_splitCells_22 rfl ?_
    refine Z_aload_n hk 1 dX0_splitCells_24 rfl rfl ?_
    refine Z_getN hk in_X0_splitCells_Graph rfl ha1.cell.1 (ha1.cell.2 _) 0 (by decide) nw_0 rfl dX0_splitCells_25 ?_
    refine Z_icmp_ge hk (tgt := 148) dX0_splitCells_28 (by decide) (fun c7 => ?_) (fun c7 => ?_)
    · have h := if_yes h c7
      refine Z_iload hk 6 dX0_splitCells_148 rfl ?_
      cases h
      exact Z_iret hk hq dX0_splitCells_150
    · have h := if_no h c7
      refine Z_aload_n hk 0 dX0_splitCells_31 rfl rfl ?_
      refine Z_get hk in_X0_splitCells_Arranging rfl ha0.cell.1 (ha0.cell.2 _) 4 (by decide) wd_X0_splitCells_2 rfl dX0_splitCells_32 ?_
      refine Z_iload hk 3 dX0_splitCells_35 rfl ?_
      refine Z_iload hk 7 dX0_splitCells_37 rfl ?_
      refine Z_iadd hk dX0_splitCells_39 ?_
      obtain ⟨i10, x8, e9, h⟩ := ldI_get h
      refine Z_iald hk (ha0.cells) i10 dX0_splitCells_40 ?_
      refine Z_eqI e9 ?_
      refine Z_iconst hk dX0_splitCells_41 zc_iconst_1 ?_
      refine Z_iload_n hk 2 dX0_splitCells_42 rfl rfl ?_
      refine Z_ishl hk dX0_splitCells_43 ?_
      refine Z_iconst hk dX0_splitCells_44 zc_iconst_m1 ?_
      refine Z_ixor hk dX0_splitCells_45 ?_
      refine Z_iand hk dX0_splitCells_46 ?_
      obtain ⟨x11, e12, h⟩ := nm_get h
      refine Z_eqI e12 ?_
      refine Z_istore hk (lv' := [(9, .int x11), (0, .ref (eA (kZ K) a0)), (1, .ref (eA (kZ K) a1)), (3, .int a3), (4, .int a4), (5, .int a5), (6, .int a6), (7, .int a7), (8, .int a8)]) dX0_splitCells_47 (by decide) rfl ?_
      refine Z_iload hk 0 dX0_splitCells_49 rfl ?_
      refine Z_iload hk 6 dX0_splitCells_51 rfl ?_
      refine Z_icmp_eq hk (tgt := 64) dX0_splitCells_53 (by decide) (fun c13 => ?_) (fun c13 => ?_)
      · have h := if_yes h c13
        refine Z_sub [1, 2, 3, 4, 5, 6, 7, 8, 0] rfl ?_
        exact w_X0_splitCells_64 hk hq F (m_X0_splitCells_22 F n) ih a0 a1 a3 a4 a5 a6 a7 a8 x11 ha0 ha1 σ h
      · have h := if_no h c13
        refine Z_iload hk 8 dX0_splitCells_56 rfl ?_
        refine Z_istore hk (lv' := [(5, .int a8), (9, .int x11), (0, .ref (eA (kZ K) a0)), (1, .ref (eA (kZ K) a1)), (3, .int a3), (4, .int a4), (6, .int a6), (7, .int a7), (8, .int a8)]) dX0_splitCells_58 (by decide) rfl ?_
        refine Z_iload hk 1 dX0_splitCells_60 rfl ?_
        refine Z_istore hk (lv' := [(6, .int x11), (5, .int a8), (9, .int x11), (0, .ref (eA (kZ K) a0)), (1, .ref (eA (kZ K) a1)), (3, .int a3), (4, .int a4), (7, .int a7), (8, .int a8)]) dX0_splitCells_62 (by decide) rfl ?_
        refine Z_sub [3, 4, 5, 6, 1, 0, 7, 8, 2] rfl ?_
        exact w_X0_splitCells_64 hk hq F (m_X0_splitCells_22 F n) ih a0 a1 a3 a4 a8 x11 a7 a8 x11 ha0 ha1 σ h
set_option maxRecDepth 100000 in
set_option maxHeartbeats 4000000 in
theorem w_X0_splitCells {K : zK} (hk : zIs K RX0 cX0_splitCells 11 wsX0_splitCells (some .int) r_X0_splitCells) {r0 : Int32} {τ0 : zST} (hq : zQ K (some (.int r0)) τ0) (F : Nat) (a0 : Nat) (a1 : Nat) (a2 : Int32) (a3 : Int32) (ha0 : atArranging (kZ K) a0) (ha1 : atGraph (kZ K) a1) (σ : zST) (h : m_X0_splitCells F a0 a1 a2 a3 σ = some (r0, τ0)) : Z K 0 0 0 [(0, .ref (eA (kZ K) a0)), (1, .ref (eA (kZ K) a1)), (2, .int a2), (3, .int a3)] [] σ := by
  unfold m_X0_splitCells at h
  refine Z_iload_n hk 2 dX0_splitCells_0 rfl rfl ?_
  refine Z_bipush hk dX0_splitCells_1 zc_bipush_8 ?_
  refine Z_imul hk dX0_splitCells_3 ?_
  obtain ⟨x1, e2, h⟩ := nm_get h
  refine Z_eqI e2 ?_
  refine Z_istore hk (lv' := [(4, .int x1), (0, .ref (eA (kZ K) a0)), (1, .ref (eA (kZ K) a1)), (2, .int a2), (3, .int a3)]) dX0_splitCells_4 (by decide) rfl ?_
  refine Z_iload_n hk 3 dX0_splitCells_6 rfl rfl ?_
  refine Z_iconst hk dX0_splitCells_7 zc_iconst_1 ?_
  refine Z_iadd hk dX0_splitCells_8 ?_
  obtain ⟨x3, e4, h⟩ := nm_get h
  refine Z_eqI e4 ?_
  refine Z_istore hk (lv' := [(5, .int x3), (4, .int x1), (0, .ref (eA (kZ K) a0)), (1, .ref (eA (kZ K) a1)), (2, .int a2), (3, .int a3)]) dX0_splitCells_9 (by decide) rfl ?_
  refine Z_iconst hk dX0_splitCells_11 zc_iconst_0 ?_
  refine Z_istore hk (lv' := [(6, .int 0), (5, .int x3), (4, .int x1), (0, .ref (eA (kZ K) a0)), (1, .ref (eA (kZ K) a1)), (2, .int a2), (3, .int a3)]) dX0_splitCells_12 (by decide) rfl ?_
  refine Z_iconst hk dX0_splitCells_14 zc_iconst_0 ?_
  refine Z_istore hk (lv' := [(7, .int 0), (6, .int 0), (5, .int x3), (4, .int x1), (0, .ref (eA (kZ K) a0)), (1, .ref (eA (kZ K) a1)), (2, .int a2), (3, .int a3)]) dX0_splitCells_15 (by decide) rfl ?_
  refine Z_iload_n hk 6 dX0_splitCells_17 rfl rfl ?_
  refine Z_iconst hk dX0_splitCells_18 zc_iconst_1 ?_
  refine Z_iadd hk dX0_splitCells_19 ?_
  obtain ⟨x5, e6, h⟩ := nm_get h
  refine Z_eqI e6 ?_
  refine Z_istore hk (lv' := [(8, .int x5), (7, .int 0), (6, .int 0), (5, .int x3), (4, .int x1), (0, .ref (eA (kZ K) a0)), (1, .ref (eA (kZ K) a1)), (2, .int a2), (3, .int a3)]) dX0_splitCells_20 (by decide) rfl ?_
  refine Z_sub [5, 6, 8, 4, 3, 2, 1, 0] rfl ?_
  exact w_X0_splitCells_22 hk hq F F a0 a1 a3 x1 x3 0 0 x5 ha0 ha1 σ h
theorem c_X0_splitCells {l : Launch} {E : zE} (hL : eL E) (hJ : eJ E) (F : Nat) (a0 : Nat) (a1 : Nat) (a2 : Int32) (a3 : Int32) (ha0 : atArranging E a0) (ha1 : atGraph E a1) (σ : zST) {r0 : Int32} {τ0 : zST} (h : m_X0_splitCells F a0 a1 a2 a3 σ = some (r0, τ0)) : Ct l yX0_splitCells wsX0_splitCells r_X0_splitCells E [.ref (eA E a0), .ref (eA E a1), .int a2, .int a3] σ (some (.int r0)) τ0 := by
  refine Ct_of (by decide) rfl hL hJ (Nat.le_of_ble_eq_true rfl) (fun K hE hl hk hq => ?_)
  subst hE
  exact w_X0_splitCells hk hq F a0 a1 a2 a3 ha0 ha1 σ h
end

-- CanonCote$Arranging.arrange (LCanonCote$Arranging;LCanonCote$Graph;II)V
section
theorem dX0_arrange_0 : decode cX0_arrange 0 = .ok (.iload_n 2, 1) := by decide +kernel
theorem dX0_arrange_1 : decode cX0_arrange 1 = .ok (.aload_n 1, 1) := by decide +kernel
theorem dX0_arrange_2 : decode cX0_arrange 2 = .ok (.getfield 40, 3) := by decide +kernel
theorem dX0_arrange_5 : decode cX0_arrange 5 = .ok (.if_icmp .ge 9, 3) := by decide +kernel
theorem dX0_arrange_8 : decode cX0_arrange 8 = .ok (.iload_n 2, 1) := by decide +kernel
theorem dX0_arrange_9 : decode cX0_arrange 9 = .ok (.bipush 7, 2) := by decide +kernel
theorem dX0_arrange_11 : decode cX0_arrange 11 = .ok (.if_icmp .le 13, 3) := by decide +kernel
theorem dX0_arrange_14 : decode cX0_arrange 14 = .ok (.aload_n 0, 1) := by decide +kernel
theorem dX0_arrange_15 : decode cX0_arrange 15 = .ok (.aload_n 1, 1) := by decide +kernel
theorem dX0_arrange_16 : decode cX0_arrange 16 = .ok (.getfield 40, 3) := by decide +kernel
theorem dX0_arrange_19 : decode cX0_arrange 19 = .ok (.iload_n 3, 1) := by decide +kernel
theorem dX0_arrange_20 : decode cX0_arrange 20 = .ok (.invokevirtual 58, 3) := by decide +kernel
theorem dX0_arrange_23 : decode cX0_arrange 23 = .ok (.return_, 1) := by decide +kernel
theorem dX0_arrange_24 : decode cX0_arrange 24 = .ok (.aload_n 0, 1) := by decide +kernel
theorem dX0_arrange_25 : decode cX0_arrange 25 = .ok (.getfield 15, 3) := by decide +kernel
theorem dX0_arrange_28 : decode cX0_arrange 28 = .ok (.iload_n 2, 1) := by decide +kernel
theorem dX0_arrange_29 : decode cX0_arrange 29 = .ok (.bipush 8, 2) := by decide +kernel
theorem dX0_arrange_31 : decode cX0_arrange 31 = .ok (.imul, 1) := by decide +kernel
theorem dX0_arrange_32 : decode cX0_arrange 32 = .ok (.iload_n 2, 1) := by decide +kernel
theorem dX0_arrange_33 : decode cX0_arrange 33 = .ok (.iadd, 1) := by decide +kernel
theorem dX0_arrange_34 : decode cX0_arrange 34 = .ok (.iaload, 1) := by decide +kernel
theorem dX0_arrange_35 : decode cX0_arrange 35 = .ok (.istore 4, 2) := by decide +kernel
theorem dX0_arrange_37 : decode cX0_arrange 37 = .ok (.getstatic 62, 3) := by decide +kernel
theorem dX0_arrange_40 : decode cX0_arrange 40 = .ok (.iload_n 2, 1) := by decide +kernel
theorem dX0_arrange_41 : decode cX0_arrange 41 = .ok (.iaload, 1) := by decide +kernel
theorem dX0_arrange_42 : decode cX0_arrange 42 = .ok (.istore 5, 2) := by decide +kernel
theorem dX0_arrange_44 : decode cX0_arrange 44 = .ok (.iconst 0, 1) := by decide +kernel
theorem dX0_arrange_45 : decode cX0_arrange 45 = .ok (.istore 6, 2) := by decide +kernel
theorem dX0_arrange_47 : decode cX0_arrange 47 = .ok (.iload 6, 2) := by decide +kernel
theorem dX0_arrange_49 : decode cX0_arrange 49 = .ok (.aload_n 1, 1) := by decide +kernel
theorem dX0_arrange_50 : decode cX0_arrange 50 = .ok (.getfield 40, 3) := by decide +kernel
theorem dX0_arrange_53 : decode cX0_arrange 53 = .ok (.if_icmp .ge 82, 3) := by decide +kernel
theorem dX0_arrange_56 : decode cX0_arrange 56 = .ok (.iload 4, 2) := by decide +kernel
theorem dX0_arrange_58 : decode cX0_arrange 58 = .ok (.aload_n 0, 1) := by decide +kernel
theorem dX0_arrange_59 : decode cX0_arrange 59 = .ok (.getfield 11, 3) := by decide +kernel
theorem dX0_arrange_62 : decode cX0_arrange 62 = .ok (.iload 6, 2) := by decide +kernel
theorem dX0_arrange_64 : decode cX0_arrange 64 = .ok (.iaload, 1) := by decide +kernel
theorem dX0_arrange_65 : decode cX0_arrange 65 = .ok (.iand, 1) := by decide +kernel
theorem dX0_arrange_66 : decode cX0_arrange 66 = .ok (.iload 6, 2) := by decide +kernel
theorem dX0_arrange_68 : decode cX0_arrange 68 = .ok (.iconst 1, 1) := by decide +kernel
theorem dX0_arrange_69 : decode cX0_arrange 69 = .ok (.iadd, 1) := by decide +kernel
theorem dX0_arrange_70 : decode cX0_arrange 70 = .ok (.invokestatic 65, 3) := by decide +kernel
theorem dX0_arrange_73 : decode cX0_arrange 73 = .ok (.iand, 1) := by decide +kernel
theorem dX0_arrange_74 : decode cX0_arrange 74 = .ok (.iconst 1, 1) := by decide +kernel
theorem dX0_arrange_75 : decode cX0_arrange 75 = .ok (.iload 6, 2) := by decide +kernel
theorem dX0_arrange_77 : decode cX0_arrange 77 = .ok (.ishl, 1) := by decide +kernel
theorem dX0_arrange_78 : decode cX0_arrange 78 = .ok (.if_icmp .ne 51, 3) := by decide +kernel
theorem dX0_arrange_81 : decode cX0_arrange 81 = .ok (.aload_n 0, 1) := by decide +kernel
theorem dX0_arrange_82 : decode cX0_arrange 82 = .ok (.getfield 18, 3) := by decide +kernel
theorem dX0_arrange_85 : decode cX0_arrange 85 = .ok (.iload_n 2, 1) := by decide +kernel
theorem dX0_arrange_86 : decode cX0_arrange 86 = .ok (.iload 6, 2) := by decide +kernel
theorem dX0_arrange_88 : decode cX0_arrange 88 = .ok (.iastore, 1) := by decide +kernel
theorem dX0_arrange_89 : decode cX0_arrange 89 = .ok (.iload_n 3, 1) := by decide +kernel
theorem dX0_arrange_90 : decode cX0_arrange 90 = .ok (.aload_n 0, 1) := by decide +kernel
theorem dX0_arrange_91 : decode cX0_arrange 91 = .ok (.aload_n 1, 1) := by decide +kernel
theorem dX0_arrange_92 : decode cX0_arrange 92 = .ok (.iload_n 2, 1) := by decide +kernel
theorem dX0_arrange_93 : decode cX0_arrange 93 = .ok (.iload 6, 2) := by decide +kernel
theorem dX0_arrange_95 : decode cX0_arrange 95 = .ok (.invokevirtual 68, 3) := by decide +kernel
theorem dX0_arrange_98 : decode cX0_arrange 98 = .ok (.iload 5, 2) := by decide +kernel
theorem dX0_arrange_100 : decode cX0_arrange 100 = .ok (.ishl, 1) := by decide +kernel
theorem dX0_arrange_101 : decode cX0_arrange 101 = .ok (.ior, 1) := by decide +kernel
theorem dX0_arrange_102 : decode cX0_arrange 102 = .ok (.istore 7, 2) := by decide +kernel
theorem dX0_arrange_104 : decode cX0_arrange 104 = .ok (.iload 7, 2) := by decide +kernel
theorem dX0_arrange_106 : decode cX0_arrange 106 = .ok (.iload 5, 2) := by decide +kernel
theorem dX0_arrange_108 : decode cX0_arrange 108 = .ok (.ishr, 1) := by decide +kernel
theorem dX0_arrange_109 : decode cX0_arrange 109 = .ok (.aload_n 0, 1) := by decide +kernel
theorem dX0_arrange_110 : decode cX0_arrange 110 = .ok (.getfield 32, 3) := by decide +kernel
theorem dX0_arrange_113 : decode cX0_arrange 113 = .ok (.iload 5, 2) := by decide +kernel
theorem dX0_arrange_115 : decode cX0_arrange 115 = .ok (.ishr, 1) := by decide +kernel
theorem dX0_arrange_116 : decode cX0_arrange 116 = .ok (.if_icmp .gt 13, 3) := by decide +kernel
theorem dX0_arrange_119 : decode cX0_arrange 119 = .ok (.aload_n 0, 1) := by decide +kernel
theorem dX0_arrange_120 : decode cX0_arrange 120 = .ok (.aload_n 1, 1) := by decide +kernel
theorem dX0_arrange_121 : decode cX0_arrange 121 = .ok (.iload_n 2, 1) := by decide +kernel
theorem dX0_arrange_122 : decode cX0_arrange 122 = .ok (.iconst 1, 1) := by decide +kernel
theorem dX0_arrange_123 : decode cX0_arrange 123 = .ok (.iadd, 1) := by decide +kernel
theorem dX0_arrange_124 : decode cX0_arrange 124 = .ok (.iload 7, 2) := by decide +kernel
theorem dX0_arrange_126 : decode cX0_arrange 126 = .ok (.invokestatic 36, 3) := by decide +kernel
theorem dX0_arrange_129 : decode cX0_arrange 129 = .ok (.iinc 6 1, 3) := by decide +kernel
theorem dX0_arrange_132 : decode cX0_arrange 132 = .ok (.goto (-85), 3) := by decide +kernel
theorem dX0_arrange_135 : decode cX0_arrange 135 = .ok (.return_, 1) := by decide +kernel
set_option maxRecDepth 20000 in
theorem ggX0_arrange_X0_meet : GoodIn wsX0_arrange wsX0_meet := goodIn_r _ [10, 5, 11, 12, 13, 14, 4, 3, 15, 16, 17, 18, 19, 20, 21, 22, 23, 24, 9, 25, 45, 46, 47, 48, 49, 50, 51] (by decide +kernel) (by decide +kernel)
set_option maxRecDepth 20000 in
theorem gX0_arrange_X0_meet : GoodIn wsX0_arrange (wsV RX0 58 RX0 yX0_meet wsX0_meet) := goodIn_app (goodIn_of _ (by decide +kernel)) ggX0_arrange_X0_meet
set_option maxRecDepth 20000 in
theorem ggX0_arrange_X7_below : GoodIn wsX0_arrange wsX7_below := goodIn_r _ [28] (by decide +kernel) (by decide +kernel)
set_option maxRecDepth 20000 in
theorem gX0_arrange_X7_below_n65 : GoodIn wsX0_arrange (wsX7_below) := ggX0_arrange_X7_below
set_option maxRecDepth 20000 in
theorem ggX0_arrange_X0_splitCells : GoodIn wsX0_arrange wsX0_splitCells := goodIn_r _ [32, 1, 33, 34, 35, 36, 37, 38, 39, 42, 43, 44, 45, 46, 47, 48, 49, 50, 51] (by decide +kernel) (by decide +kernel)
set_option maxRecDepth 20000 in
theorem gX0_arrange_X0_splitCells : GoodIn wsX0_arrange (wsV RX0 68 RX0 yX0_splitCells wsX0_splitCells) := goodIn_app (goodIn_of _ (by decide +kernel)) ggX0_arrange_X0_splitCells
set_option maxRecDepth 20000 in
theorem ggX0_arrange_X0_arrange : GoodIn wsX0_arrange wsX0_arrange := goodIn_r _ [0, 1, 2, 3, 4, 5, 6, 7, 8, 9, 10, 11, 12, 13, 14, 15, 16, 17, 18, 19, 20, 21, 22, 23, 24, 25, 26, 27, 28, 29, 30, 31, 32, 33, 34, 35, 36, 37, 38, 39, 40, 41, 42, 43, 44, 45, 46, 47, 48, 49, 50, 51] (by decide +kernel) (by decide +kernel)
set_option maxRecDepth 20000 in
theorem gX0_arrange_X0_arrange : GoodIn wsX0_arrange (va_wsS RX0 36 yX0_arrange wsX0_arrange) := goodIn_app (goodIn_of _ (by decide +kernel)) ggX0_arrange_X0_arrange
theorem in_X0_arrange_Graph : ∀ w ∈ u_ws RX2 TX2 3, w ∈ wsX0_arrange := by decide +kernel
theorem in_X0_arrange_Arranging : ∀ w ∈ u_ws RX0 TX0 7, w ∈ wsX0_arrange := by decide +kernel
theorem wd_X0_arrange_2 : Cond.fieldLink RX0 15 (TX0 4).1 (TX0 4).2.1 (TX0 4).2.2.1 ∈ wsX0_arrange := by decide +kernel
theorem wd_X0_arrange_3 : Cond.fieldLink RX0 62 "CanonCote$Arranging" "LOWEST_EDGE_BIT" "[I" ∈ wsX0_arrange := by decide +kernel
theorem wd_X0_arrange_4 : Cond.fieldLink RX0 11 (TX0 3).1 (TX0 3).2.1 (TX0 3).2.2.1 ∈ wsX0_arrange := by decide +kernel
theorem wd_X0_arrange_5 : Cond.initialized yX7_below.cls ∈ wsX0_arrange := by decide +kernel
theorem wd_X0_arrange_6 : Cond.static yX7_below ∈ wsX0_arrange := by decide +kernel
theorem wd_X0_arrange_7 : Cond.fieldLink RX0 18 (TX0 5).1 (TX0 5).2.1 (TX0 5).2.2.1 ∈ wsX0_arrange := by decide +kernel
theorem wd_X0_arrange_8 : Cond.fieldLink RX0 32 (TX0 0).1 (TX0 0).2.1 (TX0 0).2.2.1 ∈ wsX0_arrange := by decide +kernel
def r_X0_arrange (d : Nat) : Room := { frames := 3 + d, cells := 0, slots := 0, locals := 62 + d * 27 }
set_option maxRecDepth 100000 in
set_option maxHeartbeats 4000000 in
theorem w_X0_arrange_14 {K : zK} (d : Nat) (hk : zIs K RX0 cX0_arrange 8 wsX0_arrange none (r_X0_arrange (d + 1))) {τ0 : zST} (hq : zQ K none τ0) (F : Nat) (rc : Nat → Nat → Int32 → Int32 → zST → Option zST) (hrc : ∀ (a0 : Nat) (a1 : Nat) (a2 : Int32) (a3 : Int32) (ha0 : atArranging (kZ K) a0) (ha1 : atGraph (kZ K) a1) (σ : zST) (τ0 : zST), rc a0 a1 a2 a3 σ = some τ0 → Ct (kL K) yX0_arrange wsX0_arrange (r_X0_arrange d) (kZ K) [.ref (eA (kZ K) a0), .ref (eA (kZ K) a1), .int a2, .int a3] σ none τ0) (a0 : Nat) (a1 : Nat) (a3 : Int32) (ha0 : atArranging (kZ K) a0) (ha1 : atGraph (kZ K) a1) (σ : zST) (h : m_X0_arrange_14 F rc a0 a1 a3 σ = some τ0) : Z K 0 0 14 [(0, .ref (eA (kZ K) a0)), (1, .ref (eA (kZ K) a1)), (3, .int a3)] [] σ := by
  unfold m_X0_arrange_14 at h
  refine Z_aload_n hk 0 dX0_arrange_14 rfl rfl ?_
  refine Z_aload_n hk 1 dX0_arrange_15 rfl rfl ?_
  refine Z_getN hk in_X0_arrange_Graph rfl ha1.cell.1 (ha1.cell.2 _) 0 (by decide) nw_0 rfl dX0_arrange_16 ?_
  refine Z_iload_n hk 2 dX0_arrange_19 rfl rfl ?_
  obtain ⟨s12, h13, h⟩ := bv_ok h
  refine Z_callV 2 hk [.int (gI σ a1 0), .int a3] (c_X0_meet hk.loc hk.inj F a0 (gI σ a1 0) a3 ha0 σ h13) gX0_arrange_X0_meet rfl ⟨rfl, rfl⟩ (by decide +kernel) (by refine ⟨?_, ?_⟩ <;> simp only [r_X0_arrange, r_X0_meet] <;> omega) ha0.cell.1 (ha0.cell.2 _) rfl rfl rfl (Nat.le_of_ble_eq_true rfl) ⟨Nat.zero_le _, Nat.zero_le _⟩ dX0_arrange_20 ?_
  show Z K 0 0 23 [(0, .ref (eA (kZ K) a0)), (1, .ref (eA (kZ K) a1)), (3, .int a3)] [] s12
  cases h
  exact Z_vret hk hq dX0_arrange_23
set_option maxRecDepth 100000 in
set_option maxHeartbeats 4000000 in
theorem w_X0_arrange_129 {K : zK} (d : Nat) (hk : zIs K RX0 cX0_arrange 8 wsX0_arrange none (r_X0_arrange (d + 1))) {τ0 : zST} (hq : zQ K none τ0) (F : Nat) (rc : Nat → Nat → Int32 → Int32 → zST → Option zST) (hrc : ∀ (a0 : Nat) (a1 : Nat) (a2 : Int32) (a3 : Int32) (ha0 : atArranging (kZ K) a0) (ha1 : atGraph (kZ K) a1) (σ : zST) (τ0 : zST), rc a0 a1 a2 a3 σ = some τ0 → Ct (kL K) yX0_arrange wsX0_arrange (r_X0_arrange d) (kZ K) [.ref (eA (kZ K) a0), .ref (eA (kZ K) a1), .int a2, .int a3] σ none τ0) (k47 : Nat → Nat → Int32 → Int32 → Int32 → Int32 → Int32 → zST → Option zST) (hk47 : ∀ (a0 : Nat) (a1 : Nat) (a2 : Int32) (a3 : Int32) (a4 : Int32) (a5 : Int32) (a6 : Int32) (ha0 : atArranging (kZ K) a0) (ha1 : atGraph (kZ K) a1) (σ : zST), k47 a0 a1 a2 a3 a4 a5 a6 σ = some τ0 → Z K 0 0 47 [(0, .ref (eA (kZ K) a0)), (1, .ref (eA (kZ K) a1)), (2, .int a2), (3, .int a3), (4, .int a4), (5, .int a5), (6, .int a6)] [] σ) (a0 : Nat) (a1 : Nat) (a2 : Int32) (a3 : Int32) (a4 : Int32) (a5 : Int32) (a6 : Int32) (ha0 : atArranging (kZ K) a0) (ha1 : atGraph (kZ K) a1) (σ : zST) (h : m_X0_arrange_129 F rc k47 a0 a1 a2 a3 a4 a5 a6 σ = some τ0) : Z K 0 0 129 [(0, .ref (eA (kZ K) a0)), (1, .ref (eA (kZ K) a1)), (2, .int a2), (3, .int a3), (4, .int a4), (5, .int a5), (6, .int a6)] [] σ := by
  unfold m_X0_arrange_129 at h
  obtain ⟨x34, e35, h⟩ := nm_get h
  refine Z_iinc hk 6 (v := x34) (lv' := [(6, .int x34), (0, .ref (eA (kZ K) a0)), (1, .ref (eA (kZ K) a1)), (2, .int a2), (3, .int a3), (4, .int a4), (5, .int a5)]) dX0_arrange_129 rfl (by rw [zc_iinc_1]; exact e35) (by decide) rfl ?_
  refine Z_goto hk (tgt := 47) dX0_arrange_132 (by decide) ?_
  refine Z_sub [1, 2, 3, 4, 5, 6, 0] rfl ?_
  exact hk47 a0 a1 a2 a3 a4 a5 x34 ha0 ha1 σ h
set_option maxRecDepth 100000 in
set_option maxHeartbeats 4000000 in
theorem w_X0_arrange_47 {K : zK} (d : Nat) (hk : zIs K RX0 cX0_arrange 8 wsX0_arrange none (r_X0_arrange (d + 1))) {τ0 : zST} (hq : zQ K none τ0) (F : Nat) (rc : Nat → Nat → Int32 → Int32 → zST → Option zST) (hrc : ∀ (a0 : Nat) (a1 : Nat) (a2 : Int32) (a3 : Int32) (ha0 : atArranging (kZ K) a0) (ha1 : atGraph (kZ K) a1) (σ : zST) (τ0 : zST), rc a0 a1 a2 a3 σ = some τ0 → Ct (kL K) yX0_arrange wsX0_arrange (r_X0_arrange d) (kZ K) [.ref (eA (kZ K) a0), .ref (eA (kZ K) a1), .int a2, .int a3] σ none τ0) : ∀ (n : Nat) (a0 : Nat) (a1 : Nat) (a2 : Int32) (a3 : Int32) (a4 : Int32) (a5 : Int32) (a6 : Int32) (ha0 : atArranging (kZ K) a0) (ha1 : atGraph (kZ K) a1) (σ : zST), m_X0_arrange_47 F rc n a0 a1 a2 a3 a4 a5 a6 σ = some τ0 → Z K 0 0 47 [(0, .ref (eA (kZ K) a0)), (1, .ref (eA (kZ K) a1)), (2, .int a2), (3, .int a3), (4, .int a4), (5, .int a5), (6, .int a6)] [] σ := by
  intro n
  induction n with
  | zero => intro a0 a1 a2 a3 a4 a5 a6 ha0 ha1 σ h; cases h
  | succ n ih =>
    intro a0 a1 a2 a3 a4 a5 a6 ha0 ha1 σ h
    rw [m_X0_arrange_47] at h
    refine Z_iload hk 6 dX0_arrange_47 rfl ?_
    refine Z_aload_n hk 1 dX0_arrange_49 rfl rfl ?_
    refine Z_getN hk in_X0_arrange_Graph rfl ha1.cell.1 (ha1.cell.2 _) 0 (by decide) nw_0 rfl dX0_arrange_50 ?_
    refine Z_icmp_ge hk (tgt := 135) dX0_arrange_53 (by decide) (fun c14 => ?_) (fun c14 => ?_)
    · have h := if_yes h c14
      cases h
      exact Z_vret hk hq dX0_arrange_135
    · have h := if_no h c14
      refine Z_iload hk 4 dX0_arrange_56 rfl ?_
      refine Z_aload_n hk 0 dX0_arrange_58 rfl rfl ?_
      refine Z_get hk in_X0_arrange_Arranging rfl ha0.cell.1 (ha0.cell.2 _) 3 (by decide) wd_X0_arrange_4 rfl dX0_arrange_59 ?_
      refine Z_iload hk 6 dX0_arrange_62 rfl ?_
      obtain ⟨i17, x15, e16, h⟩ := ldI_get h
      refine Z_iald hk (ha0.twins) i17 dX0_arrange_64 ?_
      refine Z_eqI e16 ?_
      refine Z_iand hk dX0_arrange_65 ?_
      refine Z_iload hk 6 dX0_arrange_66 rfl ?_
      refine Z_iconst hk dX0_arrange_68 zc_iconst_1 ?_
      refine Z_iadd hk dX0_arrange_69 ?_
      obtain ⟨x18, s19, h20, h⟩ := bd_ok h
      refine Z_callSN 1 hk [.int (a6 + 1)] (c_X7_below hk.loc hk.inj F (a6 + 1) σ h20) gX0_arrange_X7_below_n65 nw_4 rfl ⟨rfl, rfl⟩ ⟨wd_X0_arrange_5, wd_X0_arrange_6⟩ (by decide +kernel) (by refine ⟨?_, ?_⟩ <;> simp only [r_X0_arrange, r_X7_below] <;> omega) rfl rfl (Nat.le_of_ble_eq_true rfl) ⟨Nat.zero_le _, Nat.zero_le _⟩ dX0_arrange_70 ?_
      show Z K 0 0 73 [(0, .ref (eA (kZ K) a0)), (1, .ref (eA (kZ K) a1)), (2, .int a2), (3, .int a3), (4, .int a4), (5, .int a5), (6, .int a6)] [.int x18, .int (a4 &&& x15)] s19
      refine Z_iand hk dX0_arrange_73 ?_
      refine Z_iconst hk dX0_arrange_74 zc_iconst_1 ?_
      refine Z_iload hk 6 dX0_arrange_75 rfl ?_
      refine Z_ishl hk dX0_arrange_77 ?_
      refine Z_icmp_ne hk (tgt := 129) dX0_arrange_78 (by decide) (fun c21 => ?_) (fun c21 => ?_)
      · have h := if_yes h c21
        refine Z_aload_n hk 0 dX0_arrange_81 rfl rfl ?_
        refine Z_get hk in_X0_arrange_Arranging rfl ha0.cell.1 (ha0.cell.2 _) 5 (by decide) wd_X0_arrange_7 rfl dX0_arrange_82 ?_
        refine Z_iload_n hk 2 dX0_arrange_85 rfl rfl ?_
        refine Z_iload hk 6 dX0_arrange_86 rfl ?_
        obtain ⟨i24, s22, e23, h⟩ := stI_get h
        refine Z_iast hk (ha0.vertexAt) i24 dX0_arrange_88 ?_
        refine Z_eqS e23 ?_
        refine Z_iload_n hk 3 dX0_arrange_89 rfl rfl ?_
        refine Z_aload_n hk 0 dX0_arrange_90 rfl rfl ?_
        refine Z_aload_n hk 1 dX0_arrange_91 rfl rfl ?_
        refine Z_iload_n hk 2 dX0_arrange_92 rfl rfl ?_
        refine Z_iload hk 6 dX0_arrange_93 rfl ?_
        obtain ⟨x25, s26, h27, h⟩ := bd_ok h
        refine Z_callV 3 hk [.ref (eA (kZ K) a1), .int a2, .int a6] (c_X0_splitCells hk.loc hk.inj F a0 a1 a2 a6 ha0 ha1 s22 h27) gX0_arrange_X0_splitCells rfl ⟨rfl, rfl⟩ (by decide +kernel) (by refine ⟨?_, ?_⟩ <;> simp only [r_X0_arrange, r_X0_splitCells] <;> omega) ha0.cell.1 (ha0.cell.2 _) rfl rfl rfl (Nat.le_of_ble_eq_true rfl) ⟨Nat.zero_le _, Nat.zero_le _⟩ dX0_arrange_95 ?_
        show Z K 0 0 98 [(0, .ref (eA (kZ K) a0)), (1, .ref (eA (kZ K) a1)), (2, .int a2), (3, .int a3), (4, .int a4), (5, .int a5), (6, .int a6)] [.int x25, .int a3] s26
        refine Z_iload hk 5 dX0_arrange_98 rfl ?_
        refine Z_ishl hk dX0_arrange_100 ?_
        refine Z_ior hk dX0_arrange_101 ?_
        obtain ⟨x28, e29, h⟩ := nm_get h
        refine Z_eqI e29 ?_
        refine Z_istore hk (lv' := [(7, .int x28), (0, .ref (eA (kZ K) a0)), (1, .ref (eA (kZ K) a1)), (2, .int a2), (3, .int a3), (4, .int a4), (5, .int a5), (6, .int a6)]) dX0_arrange_102 (by decide) rfl ?_
        refine Z_iload hk 0 dX0_arrange_104 rfl ?_
        refine Z_iload hk 6 dX0_arrange_106 rfl ?_
        refine Z_ishr hk dX0_arrange_108 ?_
        refine Z_aload_n hk 1 dX0_arrange_109 rfl rfl ?_
        refine Z_get hk in_X0_arrange_Arranging rfl ha0.cell.1 (ha0.cell.2 _) 0 (by decide) wd_X0_arrange_8 rfl dX0_arrange_110 ?_
        refine Z_iload hk 6 dX0_arrange_113 rfl ?_
        refine Z_ishr hk dX0_arrange_115 ?_
        refine Z_icmp_gt hk (tgt := 129) dX0_arrange_116 (by decide) (fun c30 => ?_) (fun c30 => ?_)
        · have h := if_yes h c30
          refine Z_sub [1, 2, 3, 4, 5, 6, 7] rfl ?_
          exact w_X0_arrange_129 d hk hq F rc hrc (m_X0_arrange_47 F rc n) ih a0 a1 a2 a3 a4 a5 a6 ha0 ha1 s26 h
        · have h := if_no h c30
          refine Z_aload_n hk 1 dX0_arrange_119 rfl rfl ?_
          refine Z_aload_n hk 2 dX0_arrange_120 rfl rfl ?_
          refine Z_iload_n hk 3 dX0_arrange_121 rfl rfl ?_
          refine Z_iconst hk dX0_arrange_122 zc_iconst_1 ?_
          refine Z_iadd hk dX0_arrange_123 ?_
          refine Z_iload hk 0 dX0_arrange_124 rfl ?_
          obtain ⟨s32, h33, h⟩ := bv_ok h
          refine Z_callT 4 hk [.ref (eA (kZ K) a0), .ref (eA (kZ K) a1), .int (a2 + 1), .int x28] (hrc a0 a1 (a2 + 1) x28 ha0 ha1 s26 _ h33) gX0_arrange_X0_arrange rfl ⟨rfl, rfl⟩ (by decide +kernel) (by refine ⟨?_, ?_⟩ <;> simp only [r_X0_arrange] <;> omega) rfl rfl (Nat.le_of_ble_eq_true rfl) ⟨Nat.zero_le _, Nat.zero_le _⟩ dX0_arrange_126 ?_
          show Z K 0 0 129 [(7, .int x28), (0, .ref (eA (kZ K) a0)), (1, .ref (eA (kZ K) a1)), (2, .int a2), (3, .int a3), (4, .int a4), (5, .int a5), (6, .int a6)] [] s32
          refine Z_sub [1, 2, 3, 4, 5, 6, 7] rfl ?_
          exact w_X0_arrange_129 d hk hq F rc hrc (m_X0_arrange_47 F rc n) ih a0 a1 a2 a3 a4 a5 a6 ha0 ha1 s32 h
      · have h := if_no h c21
        refine Z_sub [0, 1, 2, 3, 4, 5, 6] rfl ?_
        exact w_X0_arrange_129 d hk hq F rc hrc (m_X0_arrange_47 F rc n) ih a0 a1 a2 a3 a4 a5 a6 ha0 ha1 s19 h
set_option maxRecDepth 100000 in
set_option maxHeartbeats 4000000 in
theorem w_X0_arrange {K : zK} (d : Nat) (hk : zIs K RX0 cX0_arrange 8 wsX0_arrange none (r_X0_arrange (d + 1))) {τ0 : zST} (hq : zQ K none τ0) (F : Nat) (rc : Nat → Nat → Int32 → Int32 → zST → Option zST) (hrc : ∀ (a0 : Nat) (a1 : Nat) (a2 : Int32) (a3 : Int32) (ha0 : atArranging (kZ K) a0) (ha1 : atGraph (kZ K) a1) (σ : zST) (τ0 : zST), rc a0 a1 a2 a3 σ = some τ0 → Ct (kL K) yX0_arrange wsX0_arrange (r_X0_arrange d) (kZ K) [.ref (eA (kZ K) a0), .ref (eA (kZ K) a1), .int a2, .int a3] σ none τ0) (a0 : Nat) (a1 : Nat) (a2 : Int32) (a3 : Int32) (ha0 : atArranging (kZ K) a0) (ha1 : atGraph (kZ K) a1) (σ : zST) (h : m_X0_arrange_0 F rc a0 a1 a2 a3 σ = some τ0) : Z K 0 0 0 [(0, .ref (eA (kZ K) a0)), (1, .ref (eA (kZ K) a1)), (2, .int a2), (3, .int a3)] [] σ := by
  unfold m_X0_arrange_0 at h
  refine Z_iload_n hk 2 dX0_arrange_0 rfl rfl ?_
  refine Z_aload_n hk 1 dX0_arrange_1 rfl rfl ?_
  refine Z_getN hk in_X0_arrange_Graph rfl ha1.cell.1 (ha1.cell.2 _) 0 (by decide) nw_0 rfl dX0_arrange_2 ?_
  refine Z_icmp_ge hk (tgt := 14) dX0_arrange_5 (by decide) (fun c1 => ?_) (fun c1 => ?_)
  · have h := if_yes h c1
    refine Z_sub [0, 1, 3] rfl ?_
    exact w_X0_arrange_14 d hk hq F rc hrc a0 a1 a3 ha0 ha1 σ h
  · have h := if_no h c1
    refine Z_iload_n hk 2 dX0_arrange_8 rfl rfl ?_
    refine Z_bipush hk dX0_arrange_9 zc_bipush_7 ?_
    refine Z_icmp_le hk (tgt := 24) dX0_arrange_11 (by decide) (fun c2 => ?_) (fun c2 => ?_)
    · have h := if_yes h c2
      refine Z_aload_n hk 0 dX0_arrange_24 rfl rfl ?_
      refine Z_get hk in_X0_arrange_Arranging rfl ha0.cell.1 (ha0.cell.2 _) 4 (by decide) wd_X0_arrange_2 rfl dX0_arrange_25 ?_
      refine Z_iload_n hk 2 dX0_arrange_28 rfl rfl ?_
      refine Z_bipush hk dX0_arrange_29 zc_bipush_8 ?_
      refine Z_imul hk dX0_arrange_31 ?_
      refine Z_iload_n hk 2 dX0_arrange_32 rfl rfl ?_
      refine Z_iadd hk dX0_arrange_33 ?_
      obtain ⟨i5, x3, e4, h⟩ := ldI_get h
      refine Z_iald hk (ha0.cells) i5 dX0_arrange_34 ?_
      refine Z_eqI e4 ?_
      refine Z_istore hk (lv' := [(4, .int x3), (0, .ref (eA (kZ K) a0)), (1, .ref (eA (kZ K) a1)), (2, .int a2), (3, .int a3)]) dX0_arrange_35 (by decide) rfl ?_
      refine Z_gtab hk wd_X0_arrange_3 dX0_arrange_37 (fun q6 hq7 => ?_)
      refine Z_iload_n hk 3 dX0_arrange_40 rfl rfl ?_
      obtain ⟨i10, x8, e9, h⟩ := ldT_get h
      refine Z_tld hk hq7 i10 dX0_arrange_41 ?_
      refine Z_eqI e9 ?_
      refine Z_istore hk (lv' := [(5, .int x8), (4, .int x3), (0, .ref (eA (kZ K) a0)), (1, .ref (eA (kZ K) a1)), (2, .int a2), (3, .int a3)]) dX0_arrange_42 (by decide) rfl ?_
      refine Z_iconst hk dX0_arrange_44 zc_iconst_0 ?_
      refine Z_istore hk (lv' := [(6, .int 0), (5, .int x8), (4, .int x3), (0, .ref (eA (kZ K) a0)), (1, .ref (eA (kZ K) a1)), (2, .int a2), (3, .int a3)]) dX0_arrange_45 (by decide) rfl ?_
      refine Z_sub [3, 4, 5, 6, 2, 1, 0] rfl ?_
      exact w_X0_arrange_47 d hk hq F rc hrc F a0 a1 a2 a3 x3 x8 0 ha0 ha1 σ h
    · have h := if_no h c2
      refine Z_sub [0, 1, 3] rfl ?_
      exact w_X0_arrange_14 d hk hq F rc hrc a0 a1 a3 ha0 ha1 σ h
theorem cc_X0_arrange {l : Launch} {E : zE} (hL : eL E) (hJ : eJ E) (F : Nat) : ∀ (d : Nat) (a0 : Nat) (a1 : Nat) (a2 : Int32) (a3 : Int32) (ha0 : atArranging E a0) (ha1 : atGraph E a1) (σ : zST) (τ0 : zST), m_X0_arrange F d a0 a1 a2 a3 σ = some τ0 → Ct l yX0_arrange wsX0_arrange (r_X0_arrange d) E [.ref (eA E a0), .ref (eA E a1), .int a2, .int a3] σ none τ0 := by
  intro d
  induction d with
  | zero => intro a0 a1 a2 a3 ha0 ha1 σ τ0 h; cases h
  | succ d ih =>
    intro a0 a1 a2 a3 ha0 ha1 σ τ0 h
    refine Ct_of (by decide) rfl hL hJ (Nat.le_of_ble_eq_true rfl) (fun K hE hl hk hq => ?_)
    subst hE
    subst hl
    exact w_X0_arrange d hk hq F (m_X0_arrange F d) ih a0 a1 a2 a3 ha0 ha1 σ h
theorem c_X0_arrange {l : Launch} {E : zE} (hL : eL E) (hJ : eJ E) (F d : Nat) (a0 : Nat) (a1 : Nat) (a2 : Int32) (a3 : Int32) (ha0 : atArranging E a0) (ha1 : atGraph E a1) (σ : zST) {τ0 : zST} (h : m_X0_arrange F d a0 a1 a2 a3 σ = some τ0) : Ct l yX0_arrange wsX0_arrange (r_X0_arrange d) E [.ref (eA E a0), .ref (eA E a1), .int a2, .int a3] σ none τ0 := cc_X0_arrange hL hJ F d a0 a1 a2 a3 ha0 ha1 σ _ h
end

-- CanonCote$Arranging.search (LCanonCote$Graph;)V
section
theorem dX0_search_0 : decode cX0_search 0 = .ok (.aload_n 0, 1) := by decide +kernel
theorem dX0_search_1 : decode cX0_search 1 = .ok (.aload_n 1, 1) := by decide +kernel
theorem dX0_search_2 : decode cX0_search 2 = .ok (.invokevirtual 24, 3) := by decide +kernel
theorem dX0_search_5 : decode cX0_search 5 = .ok (.aload_n 0, 1) := by decide +kernel
theorem dX0_search_6 : decode cX0_search 6 = .ok (.aload_n 1, 1) := by decide +kernel
theorem dX0_search_7 : decode cX0_search 7 = .ok (.invokevirtual 28, 3) := by decide +kernel
theorem dX0_search_10 : decode cX0_search 10 = .ok (.aload_n 0, 1) := by decide +kernel
theorem dX0_search_11 : decode cX0_search 11 = .ok (.ldc 31, 2) := by decide +kernel
theorem dX0_search_13 : decode cX0_search 13 = .ok (.putfield 32, 3) := by decide +kernel
theorem dX0_search_16 : decode cX0_search 16 = .ok (.aload_n 0, 1) := by decide +kernel
theorem dX0_search_17 : decode cX0_search 17 = .ok (.aload_n 1, 1) := by decide +kernel
theorem dX0_search_18 : decode cX0_search 18 = .ok (.iconst 0, 1) := by decide +kernel
theorem dX0_search_19 : decode cX0_search 19 = .ok (.iconst 0, 1) := by decide +kernel
theorem dX0_search_20 : decode cX0_search 20 = .ok (.invokestatic 36, 3) := by decide +kernel
theorem dX0_search_23 : decode cX0_search 23 = .ok (.return_, 1) := by decide +kernel
set_option maxRecDepth 20000 in
theorem ggX0_search_X0_findTwins : GoodIn wsX0_search wsX0_findTwins := goodIn_r _ [7, 8, 9, 10, 11, 12, 13, 14, 65, 66, 67, 58, 59, 60, 61, 62, 63, 64] (by decide +kernel) (by decide +kernel)
set_option maxRecDepth 20000 in
theorem gX0_search_X0_findTwins : GoodIn wsX0_search (wsV RX0 24 RX0 yX0_findTwins wsX0_findTwins) := goodIn_app (goodIn_of _ (by decide +kernel)) ggX0_search_X0_findTwins
set_option maxRecDepth 20000 in
theorem ggX0_search_X0_shareOutByColours : GoodIn wsX0_search wsX0_shareOutByColours := goodIn_r _ [18, 19, 20, 21, 22, 23, 24, 25, 26, 65, 66, 67, 58, 59, 60, 61, 62, 63, 64] (by decide +kernel) (by decide +kernel)
set_option maxRecDepth 20000 in
theorem gX0_search_X0_shareOutByColours : GoodIn wsX0_search (wsV RX0 28 RX0 yX0_shareOutByColours wsX0_shareOutByColours) := goodIn_app (goodIn_of _ (by decide +kernel)) ggX0_search_X0_shareOutByColours
set_option maxRecDepth 20000 in
theorem ggX0_search_X0_arrange : GoodIn wsX0_search wsX0_arrange := goodIn_r _ [29, 19, 30, 8, 31, 2, 32, 33, 34, 6, 35, 36, 37, 38, 39, 40, 41, 42, 43, 44, 45, 46, 47, 48, 49, 50, 51, 52, 53, 54, 55, 56, 57, 20, 21, 22, 23, 24, 25, 26, 27, 28, 65, 66, 67, 58, 59, 60, 61, 62, 63, 64] (by decide +kernel) (by decide +kernel)
set_option maxRecDepth 20000 in
theorem gX0_search_X0_arrange : GoodIn wsX0_search (va_wsS RX0 36 yX0_arrange wsX0_arrange) := goodIn_app (goodIn_of _ (by decide +kernel)) ggX0_search_X0_arrange
theorem wd_X0_search_0 : Cond.constant RX0 31 268435456 ∈ wsX0_search := by decide +kernel
theorem in_X0_search_Arranging : ∀ w ∈ u_ws RX0 TX0 7, w ∈ wsX0_search := by decide +kernel
theorem wd_X0_search_2 : Cond.fieldLink RX0 32 (TX0 0).1 (TX0 0).2.1 (TX0 0).2.2.1 ∈ wsX0_search := by decide +kernel
def r_X0_search : Room := { frames := 13, cells := 0, slots := 0, locals := 332 }
set_option maxRecDepth 100000 in
set_option maxHeartbeats 4000000 in
theorem w_X0_search {K : zK} (hk : zIs K RX0 cX0_search 2 wsX0_search none r_X0_search) {τ0 : zST} (hq : zQ K none τ0) (F : Nat) (a0 : Nat) (a1 : Nat) (ha0 : atArranging (kZ K) a0) (ha1 : atGraph (kZ K) a1) (σ : zST) (h : m_X0_search F a0 a1 σ = some τ0) : Z K 0 0 0 [(0, .ref (eA (kZ K) a0)), (1, .ref (eA (kZ K) a1))] [] σ := by
  unfold m_X0_search at h
  refine Z_aload_n hk 0 dX0_search_0 rfl rfl ?_
  refine Z_aload_n hk 1 dX0_search_1 rfl rfl ?_
  obtain ⟨s2, h3, h⟩ := bv_ok h
  refine Z_callV 1 hk [.ref (eA (kZ K) a1)] (c_X0_findTwins hk.loc hk.inj F a0 a1 ha0 ha1 σ h3) gX0_search_X0_findTwins rfl ⟨rfl, rfl⟩ (by decide +kernel) ⟨Nat.le_of_ble_eq_true rfl, Nat.le_of_ble_eq_true rfl⟩ ha0.cell.1 (ha0.cell.2 _) rfl rfl rfl (Nat.le_of_ble_eq_true rfl) ⟨Nat.zero_le _, Nat.zero_le _⟩ dX0_search_2 ?_
  show Z K 0 0 5 [(0, .ref (eA (kZ K) a0)), (1, .ref (eA (kZ K) a1))] [] s2
  refine Z_aload_n hk 0 dX0_search_5 rfl rfl ?_
  refine Z_aload_n hk 1 dX0_search_6 rfl rfl ?_
  obtain ⟨s5, h6, h⟩ := bv_ok h
  refine Z_callV 1 hk [.ref (eA (kZ K) a1)] (c_X0_shareOutByColours hk.loc hk.inj F a0 a1 ha0 ha1 s2 h6) gX0_search_X0_shareOutByColours rfl ⟨rfl, rfl⟩ (by decide +kernel) ⟨Nat.le_of_ble_eq_true rfl, Nat.le_of_ble_eq_true rfl⟩ ha0.cell.1 (ha0.cell.2 _) rfl rfl rfl (Nat.le_of_ble_eq_true rfl) ⟨Nat.zero_le _, Nat.zero_le _⟩ dX0_search_7 ?_
  show Z K 0 0 10 [(0, .ref (eA (kZ K) a0)), (1, .ref (eA (kZ K) a1))] [] s5
  refine Z_aload_n hk 0 dX0_search_10 rfl rfl ?_
  refine Z_ldc hk (v := 268435456) dX0_search_11 wd_X0_search_0 ?_
  obtain ⟨s7, e8, h⟩ := nm_get h
  refine Z_put hk in_X0_search_Arranging tyX0 tok_TX0 tnm_TX0 rfl ha0.cell.1 (ha0.cell.2 _) 0 (by decide) wd_X0_search_2 rfl (by decide) (Nat.le_of_ble_eq_true rfl) (ha0.put_leastEdges _ _) dX0_search_13 ?_
  refine Z_eqS e8 ?_
  refine Z_aload_n hk 0 dX0_search_16 rfl rfl ?_
  refine Z_aload_n hk 1 dX0_search_17 rfl rfl ?_
  refine Z_iconst hk dX0_search_18 zc_iconst_0 ?_
  refine Z_iconst hk dX0_search_19 zc_iconst_0 ?_
  obtain ⟨s10, h11, h⟩ := bv_ok h
  refine Z_callT 4 hk [.ref (eA (kZ K) a0), .ref (eA (kZ K) a1), .int 0, .int 0] (c_X0_arrange hk.loc hk.inj F 9 a0 a1 0 0 ha0 ha1 s7 h11) gX0_search_X0_arrange rfl ⟨rfl, rfl⟩ (by decide +kernel) ⟨Nat.le_of_ble_eq_true rfl, Nat.le_of_ble_eq_true rfl⟩ rfl rfl (Nat.le_of_ble_eq_true rfl) ⟨Nat.zero_le _, Nat.zero_le _⟩ dX0_search_20 ?_
  show Z K 0 0 23 [(0, .ref (eA (kZ K) a0)), (1, .ref (eA (kZ K) a1))] [] s10
  cases h
  exact Z_vret hk hq dX0_search_23
theorem c_X0_search {l : Launch} {E : zE} (hL : eL E) (hJ : eJ E) (F : Nat) (a0 : Nat) (a1 : Nat) (ha0 : atArranging E a0) (ha1 : atGraph E a1) (σ : zST) {τ0 : zST} (h : m_X0_search F a0 a1 σ = some τ0) : Ct l yX0_search wsX0_search r_X0_search E [.ref (eA E a0), .ref (eA E a1)] σ none τ0 := by
  refine Ct_of (by decide) rfl hL hJ (Nat.le_of_ble_eq_true rfl) (fun K hE hl hk hq => ?_)
  subst hE
  exact w_X0_search hk hq F a0 a1 ha0 ha1 σ h
end

-- CanonCote$Arranging.bestPlace (I)I
section
theorem dX0_bestPlace_0 : decode cX0_bestPlace 0 = .ok (.aload_n 0, 1) := by decide +kernel
theorem dX0_bestPlace_1 : decode cX0_bestPlace 1 = .ok (.getfield 76, 3) := by decide +kernel
theorem dX0_bestPlace_4 : decode cX0_bestPlace 4 = .ok (.iload_n 1, 1) := by decide +kernel
theorem dX0_bestPlace_5 : decode cX0_bestPlace 5 = .ok (.invokestatic 88, 3) := by decide +kernel
theorem dX0_bestPlace_8 : decode cX0_bestPlace 8 = .ok (.ishr, 1) := by decide +kernel
theorem dX0_bestPlace_9 : decode cX0_bestPlace 9 = .ok (.bipush 7, 2) := by decide +kernel
theorem dX0_bestPlace_11 : decode cX0_bestPlace 11 = .ok (.iand, 1) := by decide +kernel
theorem dX0_bestPlace_12 : decode cX0_bestPlace 12 = .ok (.ireturn, 1) := by decide +kernel
set_option maxRecDepth 20000 in
theorem ggX0_bestPlace_X0_shiftOf : GoodIn wsX0_bestPlace wsX0_shiftOf := goodIn_r _ [5] (by decide +kernel) (by decide +kernel)
set_option maxRecDepth 20000 in
theorem gX0_bestPlace_X0_shiftOf : GoodIn wsX0_bestPlace (va_wsS RX0 88 yX0_shiftOf wsX0_shiftOf) := goodIn_app (goodIn_of _ (by decide +kernel)) ggX0_bestPlace_X0_shiftOf
theorem in_X0_bestPlace_Arranging : ∀ w ∈ u_ws RX0 TX0 7, w ∈ wsX0_bestPlace := by decide +kernel
theorem wd_X0_bestPlace_1 : Cond.fieldLink RX0 76 (TX0 1).1 (TX0 1).2.1 (TX0 1).2.2.1 ∈ wsX0_bestPlace := by decide +kernel
def r_X0_bestPlace : Room := { frames := 2, cells := 0, slots := 0, locals := 32 }
set_option maxRecDepth 100000 in
set_option maxHeartbeats 4000000 in
theorem w_X0_bestPlace {K : zK} (hk : zIs K RX0 cX0_bestPlace 2 wsX0_bestPlace (some .int) r_X0_bestPlace) {r0 : Int32} {τ0 : zST} (hq : zQ K (some (.int r0)) τ0) (F : Nat) (a0 : Nat) (a1 : Int32) (ha0 : atArranging (kZ K) a0) (σ : zST) (h : m_X0_bestPlace F a0 a1 σ = some (r0, τ0)) : Z K 0 0 0 [(0, .ref (eA (kZ K) a0)), (1, .int a1)] [] σ := by
  unfold m_X0_bestPlace at h
  refine Z_aload_n hk 0 dX0_bestPlace_0 rfl rfl ?_
  refine Z_get hk in_X0_bestPlace_Arranging rfl ha0.cell.1 (ha0.cell.2 _) 1 (by decide) wd_X0_bestPlace_1 rfl dX0_bestPlace_1 ?_
  refine Z_iload_n hk 1 dX0_bestPlace_4 rfl rfl ?_
  obtain ⟨x1, s2, h3, h⟩ := bd_ok h
  refine Z_callT 1 hk [.int a1] (c_X0_shiftOf hk.loc hk.inj F a1 σ h3) gX0_bestPlace_X0_shiftOf rfl ⟨rfl, rfl⟩ (by decide +kernel) ⟨Nat.le_of_ble_eq_true rfl, Nat.le_of_ble_eq_true rfl⟩ rfl rfl (Nat.le_of_ble_eq_true rfl) ⟨Nat.zero_le _, Nat.zero_le _⟩ dX0_bestPlace_5 ?_
  show Z K 0 0 8 [(0, .ref (eA (kZ K) a0)), (1, .int a1)] [.int x1, .int (gI σ a0 1)] s2
  refine Z_ishr hk dX0_bestPlace_8 ?_
  refine Z_bipush hk dX0_bestPlace_9 zc_bipush_7 ?_
  refine Z_iand hk dX0_bestPlace_11 ?_
  cases h
  exact Z_iret hk hq dX0_bestPlace_12
theorem c_X0_bestPlace {l : Launch} {E : zE} (hL : eL E) (hJ : eJ E) (F : Nat) (a0 : Nat) (a1 : Int32) (ha0 : atArranging E a0) (σ : zST) {r0 : Int32} {τ0 : zST} (h : m_X0_bestPlace F a0 a1 σ = some (r0, τ0)) : Ct l yX0_bestPlace wsX0_bestPlace r_X0_bestPlace E [.ref (eA E a0), .int a1] σ (some (.int r0)) τ0 := by
  refine Ct_of (by decide) rfl hL hJ (Nat.le_of_ble_eq_true rfl) (fun K hE hl hk hq => ?_)
  subst hE
  exact w_X0_bestPlace hk hq F a0 a1 ha0 σ h
end

-- CanonCote$Arranging.leastCode (LCanonCote$Graph;)J
section
theorem dX0_leastCode_0 : decode cX0_leastCode 0 = .ok (.aload_n 1, 1) := by decide +kernel
theorem dX0_leastCode_1 : decode cX0_leastCode 1 = .ok (.getfield 40, 3) := by decide +kernel
theorem dX0_leastCode_4 : decode cX0_leastCode 4 = .ok (.i2l, 1) := by decide +kernel
theorem dX0_leastCode_5 : decode cX0_leastCode 5 = .ok (.bipush 52, 2) := by decide +kernel
theorem dX0_leastCode_7 : decode cX0_leastCode 7 = .ok (.lshl, 1) := by decide +kernel
theorem dX0_leastCode_8 : decode cX0_leastCode 8 = .ok (.aload_n 0, 1) := by decide +kernel
theorem dX0_leastCode_9 : decode cX0_leastCode 9 = .ok (.getfield 32, 3) := by decide +kernel
theorem dX0_leastCode_12 : decode cX0_leastCode 12 = .ok (.i2l, 1) := by decide +kernel
theorem dX0_leastCode_13 : decode cX0_leastCode 13 = .ok (.lor, 1) := by decide +kernel
theorem dX0_leastCode_14 : decode cX0_leastCode 14 = .ok (.lstore_n 2, 1) := by decide +kernel
theorem dX0_leastCode_15 : decode cX0_leastCode 15 = .ok (.iconst 0, 1) := by decide +kernel
theorem dX0_leastCode_16 : decode cX0_leastCode 16 = .ok (.istore 4, 2) := by decide +kernel
theorem dX0_leastCode_18 : decode cX0_leastCode 18 = .ok (.iload 4, 2) := by decide +kernel
theorem dX0_leastCode_20 : decode cX0_leastCode 20 = .ok (.aload_n 1, 1) := by decide +kernel
theorem dX0_leastCode_21 : decode cX0_leastCode 21 = .ok (.getfield 40, 3) := by decide +kernel
theorem dX0_leastCode_24 : decode cX0_leastCode 24 = .ok (.if_icmp .ge 37, 3) := by decide +kernel
theorem dX0_leastCode_27 : decode cX0_leastCode 27 = .ok (.bipush 28, 2) := by decide +kernel
theorem dX0_leastCode_29 : decode cX0_leastCode 29 = .ok (.aload_n 0, 1) := by decide +kernel
theorem dX0_leastCode_30 : decode cX0_leastCode 30 = .ok (.iload 4, 2) := by decide +kernel
theorem dX0_leastCode_32 : decode cX0_leastCode 32 = .ok (.invokevirtual 97, 3) := by decide +kernel
theorem dX0_leastCode_35 : decode cX0_leastCode 35 = .ok (.invokestatic 88, 3) := by decide +kernel
theorem dX0_leastCode_38 : decode cX0_leastCode 38 = .ok (.iadd, 1) := by decide +kernel
theorem dX0_leastCode_39 : decode cX0_leastCode 39 = .ok (.istore 5, 2) := by decide +kernel
theorem dX0_leastCode_41 : decode cX0_leastCode 41 = .ok (.lload_n 2, 1) := by decide +kernel
theorem dX0_leastCode_42 : decode cX0_leastCode 42 = .ok (.aload_n 1, 1) := by decide +kernel
theorem dX0_leastCode_43 : decode cX0_leastCode 43 = .ok (.getfield 49, 3) := by decide +kernel
theorem dX0_leastCode_46 : decode cX0_leastCode 46 = .ok (.iload 4, 2) := by decide +kernel
theorem dX0_leastCode_48 : decode cX0_leastCode 48 = .ok (.iaload, 1) := by decide +kernel
theorem dX0_leastCode_49 : decode cX0_leastCode 49 = .ok (.i2l, 1) := by decide +kernel
theorem dX0_leastCode_50 : decode cX0_leastCode 50 = .ok (.iload 5, 2) := by decide +kernel
theorem dX0_leastCode_52 : decode cX0_leastCode 52 = .ok (.lshl, 1) := by decide +kernel
theorem dX0_leastCode_53 : decode cX0_leastCode 53 = .ok (.lor, 1) := by decide +kernel
theorem dX0_leastCode_54 : decode cX0_leastCode 54 = .ok (.lstore_n 2, 1) := by decide +kernel
theorem dX0_leastCode_55 : decode cX0_leastCode 55 = .ok (.iinc 4 1, 3) := by decide +kernel
theorem dX0_leastCode_58 : decode cX0_leastCode 58 = .ok (.goto (-40), 3) := by decide +kernel
theorem dX0_leastCode_61 : decode cX0_leastCode 61 = .ok (.lload_n 2, 1) := by decide +kernel
theorem dX0_leastCode_62 : decode cX0_leastCode 62 = .ok (.lreturn, 1) := by decide +kernel
set_option maxRecDepth 20000 in
theorem ggX0_leastCode_X0_bestPlace : GoodIn wsX0_leastCode wsX0_bestPlace := goodIn_r _ [6, 7, 8, 9, 5, 10, 14, 15, 16, 17, 18, 19, 20] (by decide +kernel) (by decide +kernel)
set_option maxRecDepth 20000 in
theorem gX0_leastCode_X0_bestPlace : GoodIn wsX0_leastCode (wsV RX0 97 RX0 yX0_bestPlace wsX0_bestPlace) := goodIn_app (goodIn_of _ (by decide +kernel)) ggX0_leastCode_X0_bestPlace
set_option maxRecDepth 20000 in
theorem ggX0_leastCode_X0_shiftOf : GoodIn wsX0_leastCode wsX0_shiftOf := goodIn_r _ [10] (by decide +kernel) (by decide +kernel)
set_option maxRecDepth 20000 in
theorem gX0_leastCode_X0_shiftOf : GoodIn wsX0_leastCode (va_wsS RX0 88 yX0_shiftOf wsX0_shiftOf) := goodIn_app (goodIn_of _ (by decide +kernel)) ggX0_leastCode_X0_shiftOf
theorem in_X0_leastCode_Graph : ∀ w ∈ u_ws RX2 TX2 3, w ∈ wsX0_leastCode := by decide +kernel
theorem in_X0_leastCode_Arranging : ∀ w ∈ u_ws RX0 TX0 7, w ∈ wsX0_leastCode := by decide +kernel
theorem wd_X0_leastCode_2 : Cond.fieldLink RX0 32 (TX0 0).1 (TX0 0).2.1 (TX0 0).2.2.1 ∈ wsX0_leastCode := by decide +kernel
def r_X0_leastCode : Room := { frames := 3, cells := 0, slots := 0, locals := 53 }
set_option maxRecDepth 100000 in
set_option maxHeartbeats 4000000 in
theorem w_X0_leastCode_18 {K : zK} (hk : zIs K RX0 cX0_leastCode 6 wsX0_leastCode (some .long) r_X0_leastCode) {r0 : Int64} {τ0 : zST} (hq : zQ K (some (.long r0)) τ0) (F : Nat) : ∀ (n : Nat) (a0 : Nat) (a1 : Nat) (a2 : Int64) (a4 : Int32) (ha0 : atArranging (kZ K) a0) (ha1 : atGraph (kZ K) a1) (σ : zST), m_X0_leastCode_18 F n a0 a1 a2 a4 σ = some (r0, τ0) → Z K 0 0 18 [(0, .ref (eA (kZ K) a0)), (1, .ref (eA (kZ K) a1)), (2, .long a2), (4, .int a4)] [] σ := by
  intro n
  induction n with
  | zero => intro a0 a1 a2 a4 ha0 ha1 σ h; cases h
  | succ n ih =>
    intro a0 a1 a2 a4 ha0 ha1 σ h
    rw [m_X0_leastCode_18] at h
    refine Z_iload hk 3 dX0_leastCode_18 rfl ?_
    refine Z_aload_n hk 1 dX0_leastCode_20 rfl rfl ?_
    refine Z_getN hk in_X0_leastCode_Graph rfl ha1.cell.1 (ha1.cell.2 _) 0 (by decide) nw_0 rfl dX0_leastCode_21 ?_
    refine Z_icmp_ge hk (tgt := 61) dX0_leastCode_24 (by decide) (fun c3 => ?_) (fun c3 => ?_)
    · have h := if_yes h c3
      refine Z_lload_n hk 2 dX0_leastCode_61 rfl rfl ?_
      cases h
      exact Z_lret hk hq dX0_leastCode_62
    · have h := if_no h c3
      refine Z_bipush hk dX0_leastCode_27 zc_bipush_28 ?_
      refine Z_aload_n hk 0 dX0_leastCode_29 rfl rfl ?_
      refine Z_iload hk 3 dX0_leastCode_30 rfl ?_
      obtain ⟨x4, s5, h6, h⟩ := bd_ok h
      refine Z_callV 1 hk [.int a4] (c_X0_bestPlace hk.loc hk.inj F a0 a4 ha0 σ h6) gX0_leastCode_X0_bestPlace rfl ⟨rfl, rfl⟩ (by decide +kernel) ⟨Nat.le_of_ble_eq_true rfl, Nat.le_of_ble_eq_true rfl⟩ ha0.cell.1 (ha0.cell.2 _) rfl rfl rfl (Nat.le_of_ble_eq_true rfl) ⟨Nat.zero_le _, Nat.zero_le _⟩ dX0_leastCode_32 ?_
      show Z K 0 0 35 [(0, .ref (eA (kZ K) a0)), (1, .ref (eA (kZ K) a1)), (2, .long a2), (4, .int a4)] [.int x4, .int 28] s5
      obtain ⟨x7, s8, h9, h⟩ := bd_ok h
      refine Z_callT 1 hk [.int x4] (c_X0_shiftOf hk.loc hk.inj F x4 s5 h9) gX0_leastCode_X0_shiftOf rfl ⟨rfl, rfl⟩ (by decide +kernel) ⟨Nat.le_of_ble_eq_true rfl, Nat.le_of_ble_eq_true rfl⟩ rfl rfl (Nat.le_of_ble_eq_true rfl) ⟨Nat.zero_le _, Nat.zero_le _⟩ dX0_leastCode_35 ?_
      show Z K 0 0 38 [(0, .ref (eA (kZ K) a0)), (1, .ref (eA (kZ K) a1)), (2, .long a2), (4, .int a4)] [.int x7, .int 28] s8
      refine Z_iadd hk dX0_leastCode_38 ?_
      obtain ⟨x10, e11, h⟩ := nm_get h
      refine Z_eqI e11 ?_
      refine Z_istore hk (lv' := [(5, .int x10), (0, .ref (eA (kZ K) a0)), (1, .ref (eA (kZ K) a1)), (2, .long a2), (4, .int a4)]) dX0_leastCode_39 (by decide) rfl ?_
      refine Z_lload_n hk 3 dX0_leastCode_41 rfl rfl ?_
      refine Z_aload_n hk 2 dX0_leastCode_42 rfl rfl ?_
      refine Z_getN hk in_X0_leastCode_Graph rfl ha1.cell.1 (ha1.cell.2 _) 2 (by decide) nw_2 rfl dX0_leastCode_43 ?_
      refine Z_iload hk 4 dX0_leastCode_46 rfl ?_
      obtain ⟨i14, x12, e13, h⟩ := ldI_get h
      refine Z_iald hk (ha1.colours) i14 dX0_leastCode_48 ?_
      refine Z_eqI e13 ?_
      refine Z_i2l hk dX0_leastCode_49 ?_
      refine Z_iload hk 0 dX0_leastCode_50 rfl ?_
      refine Z_lshl hk dX0_leastCode_52 ?_
      refine Z_lor hk dX0_leastCode_53 ?_
      obtain ⟨x15, e16, h⟩ := nm_get h
      refine Z_eqL e16 ?_
      refine Z_lstore_n hk (lv' := [(2, .long x15), (5, .int x10), (0, .ref (eA (kZ K) a0)), (1, .ref (eA (kZ K) a1)), (4, .int a4)]) dX0_leastCode_54 rfl (by decide) rfl ?_
      obtain ⟨x17, e18, h⟩ := nm_get h
      refine Z_iinc hk 4 (v := x17) (lv' := [(4, .int x17), (2, .long x15), (5, .int x10), (0, .ref (eA (kZ K) a0)), (1, .ref (eA (kZ K) a1))]) dX0_leastCode_55 rfl (by rw [zc_iinc_1]; exact e18) (by decide) rfl ?_
      refine Z_goto hk (tgt := 18) dX0_leastCode_58 (by decide) ?_
      refine Z_sub [3, 4, 1, 0] rfl ?_
      exact ih a0 a1 x15 x17 ha0 ha1 s8 h
set_option maxRecDepth 100000 in
set_option maxHeartbeats 4000000 in
theorem w_X0_leastCode {K : zK} (hk : zIs K RX0 cX0_leastCode 6 wsX0_leastCode (some .long) r_X0_leastCode) {r0 : Int64} {τ0 : zST} (hq : zQ K (some (.long r0)) τ0) (F : Nat) (a0 : Nat) (a1 : Nat) (ha0 : atArranging (kZ K) a0) (ha1 : atGraph (kZ K) a1) (σ : zST) (h : m_X0_leastCode F a0 a1 σ = some (r0, τ0)) : Z K 0 0 0 [(0, .ref (eA (kZ K) a0)), (1, .ref (eA (kZ K) a1))] [] σ := by
  unfold m_X0_leastCode at h
  refine Z_aload_n hk 1 dX0_leastCode_0 rfl rfl ?_
  refine Z_getN hk in_X0_leastCode_Graph rfl ha1.cell.1 (ha1.cell.2 _) 0 (by decide) nw_0 rfl dX0_leastCode_1 ?_
  refine Z_i2l hk dX0_leastCode_4 ?_
  refine Z_bipush hk dX0_leastCode_5 zc_bipush_52 ?_
  refine Z_lshl hk dX0_leastCode_7 ?_
  refine Z_aload_n hk 0 dX0_leastCode_8 rfl rfl ?_
  refine Z_get hk in_X0_leastCode_Arranging rfl ha0.cell.1 (ha0.cell.2 _) 0 (by decide) wd_X0_leastCode_2 rfl dX0_leastCode_9 ?_
  refine Z_i2l hk dX0_leastCode_12 ?_
  refine Z_lor hk dX0_leastCode_13 ?_
  obtain ⟨x1, e2, h⟩ := nm_get h
  refine Z_eqL e2 ?_
  refine Z_lstore_n hk (lv' := [(2, .long x1), (0, .ref (eA (kZ K) a0)), (1, .ref (eA (kZ K) a1))]) dX0_leastCode_14 rfl (by decide) rfl ?_
  refine Z_iconst hk dX0_leastCode_15 zc_iconst_0 ?_
  refine Z_istore hk (lv' := [(4, .int 0), (2, .long x1), (0, .ref (eA (kZ K) a0)), (1, .ref (eA (kZ K) a1))]) dX0_leastCode_16 (by decide) rfl ?_
  refine Z_sub [2, 3, 1, 0] rfl ?_
  exact w_X0_leastCode_18 hk hq F F a0 a1 x1 0 ha0 ha1 σ h
theorem c_X0_leastCode {l : Launch} {E : zE} (hL : eL E) (hJ : eJ E) (F : Nat) (a0 : Nat) (a1 : Nat) (ha0 : atArranging E a0) (ha1 : atGraph E a1) (σ : zST) {r0 : Int64} {τ0 : zST} (h : m_X0_leastCode F a0 a1 σ = some (r0, τ0)) : Ct l yX0_leastCode wsX0_leastCode r_X0_leastCode E [.ref (eA E a0), .ref (eA E a1)] σ (some (.long r0)) τ0 := by
  refine Ct_of (by decide) rfl hL hJ (Nat.le_of_ble_eq_true rfl) (fun K hE hl hk hq => ?_)
  subst hE
  exact w_X0_leastCode hk hq F a0 a1 ha0 ha1 σ h
end

-- CanonCote$Arranging.countBest (I)I
section
theorem dX0_countBest_0 : decode cX0_countBest 0 = .ok (.aload_n 0, 1) := by decide +kernel
theorem dX0_countBest_1 : decode cX0_countBest 1 = .ok (.getfield 79, 3) := by decide +kernel
theorem dX0_countBest_4 : decode cX0_countBest 4 = .ok (.istore_n 2, 1) := by decide +kernel
theorem dX0_countBest_5 : decode cX0_countBest 5 = .ok (.iconst 0, 1) := by decide +kernel
theorem dX0_countBest_6 : decode cX0_countBest 6 = .ok (.istore_n 3, 1) := by decide +kernel
theorem dX0_countBest_7 : decode cX0_countBest 7 = .ok (.iload_n 3, 1) := by decide +kernel
theorem dX0_countBest_8 : decode cX0_countBest 8 = .ok (.iload_n 1, 1) := by decide +kernel
theorem dX0_countBest_9 : decode cX0_countBest 9 = .ok (.if_icmp .ge 28, 3) := by decide +kernel
theorem dX0_countBest_12 : decode cX0_countBest 12 = .ok (.iload_n 2, 1) := by decide +kernel
theorem dX0_countBest_13 : decode cX0_countBest 13 = .ok (.aload_n 0, 1) := by decide +kernel
theorem dX0_countBest_14 : decode cX0_countBest 14 = .ok (.getfield 11, 3) := by decide +kernel
theorem dX0_countBest_17 : decode cX0_countBest 17 = .ok (.iload_n 3, 1) := by decide +kernel
theorem dX0_countBest_18 : decode cX0_countBest 18 = .ok (.iaload, 1) := by decide +kernel
theorem dX0_countBest_19 : decode cX0_countBest 19 = .ok (.iload_n 3, 1) := by decide +kernel
theorem dX0_countBest_20 : decode cX0_countBest 20 = .ok (.iconst 1, 1) := by decide +kernel
theorem dX0_countBest_21 : decode cX0_countBest 21 = .ok (.iadd, 1) := by decide +kernel
theorem dX0_countBest_22 : decode cX0_countBest 22 = .ok (.invokestatic 65, 3) := by decide +kernel
theorem dX0_countBest_25 : decode cX0_countBest 25 = .ok (.iand, 1) := by decide +kernel
theorem dX0_countBest_26 : decode cX0_countBest 26 = .ok (.invokestatic 52, 3) := by decide +kernel
theorem dX0_countBest_29 : decode cX0_countBest 29 = .ok (.imul, 1) := by decide +kernel
theorem dX0_countBest_30 : decode cX0_countBest 30 = .ok (.istore_n 2, 1) := by decide +kernel
theorem dX0_countBest_31 : decode cX0_countBest 31 = .ok (.iinc 3 1, 3) := by decide +kernel
theorem dX0_countBest_34 : decode cX0_countBest 34 = .ok (.goto (-27), 3) := by decide +kernel
theorem dX0_countBest_37 : decode cX0_countBest 37 = .ok (.iload_n 2, 1) := by decide +kernel
theorem dX0_countBest_38 : decode cX0_countBest 38 = .ok (.ireturn, 1) := by decide +kernel
set_option maxRecDepth 20000 in
theorem ggX0_countBest_X7_below : GoodIn wsX0_countBest wsX7_below := goodIn_r _ [5] (by decide +kernel) (by decide +kernel)
set_option maxRecDepth 20000 in
theorem gX0_countBest_X7_below_n65 : GoodIn wsX0_countBest (wsX7_below) := ggX0_countBest_X7_below
set_option maxRecDepth 20000 in
theorem ggX0_countBest_J6_bitCount_0f7a4 : GoodIn wsX0_countBest wsJ6_bitCount_0f7a4 := goodIn_r _ [9, 10, 11, 12] (by decide +kernel) (by decide +kernel)
set_option maxRecDepth 20000 in
theorem gX0_countBest_J6_bitCount_0f7a4 : GoodIn wsX0_countBest (va_wsS RX0 52 yJ6_bitCount_0f7a4 wsJ6_bitCount_0f7a4) := goodIn_app (goodIn_of _ (by decide +kernel)) ggX0_countBest_J6_bitCount_0f7a4
theorem in_X0_countBest_Arranging : ∀ w ∈ u_ws RX0 TX0 7, w ∈ wsX0_countBest := by decide +kernel
theorem wd_X0_countBest_1 : Cond.fieldLink RX0 79 (TX0 2).1 (TX0 2).2.1 (TX0 2).2.2.1 ∈ wsX0_countBest := by decide +kernel
theorem wd_X0_countBest_2 : Cond.fieldLink RX0 11 (TX0 3).1 (TX0 3).2.1 (TX0 3).2.2.1 ∈ wsX0_countBest := by decide +kernel
theorem wd_X0_countBest_3 : Cond.initialized yX7_below.cls ∈ wsX0_countBest := by decide +kernel
theorem wd_X0_countBest_4 : Cond.static yX7_below ∈ wsX0_countBest := by decide +kernel
def r_X0_countBest : Room := { frames := 2, cells := 0, slots := 0, locals := 32 }
set_option maxRecDepth 100000 in
set_option maxHeartbeats 4000000 in
theorem w_X0_countBest_7 {K : zK} (hk : zIs K RX0 cX0_countBest 4 wsX0_countBest (some .int) r_X0_countBest) {r0 : Int32} {τ0 : zST} (hq : zQ K (some (.int r0)) τ0) (F : Nat) : ∀ (n : Nat) (a0 : Nat) (a1 : Int32) (a2 : Int32) (a3 : Int32) (ha0 : atArranging (kZ K) a0) (σ : zST), m_X0_countBest_7 F n a0 a1 a2 a3 σ = some (r0, τ0) → Z K 0 0 7 [(0, .ref (eA (kZ K) a0)), (1, .int a1), (2, .int a2), (3, .int a3)] [] σ := by
  intro n
  induction n with
  | zero => intro a0 a1 a2 a3 ha0 σ h; cases h
  | succ n ih =>
    intro a0 a1 a2 a3 ha0 σ h
    rw [m_X0_countBest_7] at h
    refine Z_iload_n hk 3 dX0_countBest_7 rfl rfl ?_
    refine Z_iload_n hk 1 dX0_countBest_8 rfl rfl ?_
    refine Z_icmp_ge hk (tgt := 37) dX0_countBest_9 (by decide) (fun c3 => ?_) (fun c3 => ?_)
    · have h := if_yes h c3
      refine Z_iload_n hk 2 dX0_countBest_37 rfl rfl ?_
      cases h
      exact Z_iret hk hq dX0_countBest_38
    · have h := if_no h c3
      refine Z_iload_n hk 2 dX0_countBest_12 rfl rfl ?_
      refine Z_aload_n hk 0 dX0_countBest_13 rfl rfl ?_
      refine Z_get hk in_X0_countBest_Arranging rfl ha0.cell.1 (ha0.cell.2 _) 3 (by decide) wd_X0_countBest_2 rfl dX0_countBest_14 ?_
      refine Z_iload_n hk 3 dX0_countBest_17 rfl rfl ?_
      obtain ⟨i6, x4, e5, h⟩ := ldI_get h
      refine Z_iald hk (ha0.twins) i6 dX0_countBest_18 ?_
      refine Z_eqI e5 ?_
      refine Z_iload_n hk 3 dX0_countBest_19 rfl rfl ?_
      refine Z_iconst hk dX0_countBest_20 zc_iconst_1 ?_
      refine Z_iadd hk dX0_countBest_21 ?_
      obtain ⟨x7, s8, h9, h⟩ := bd_ok h
      refine Z_callSN 1 hk [.int (a3 + 1)] (c_X7_below hk.loc hk.inj F (a3 + 1) σ h9) gX0_countBest_X7_below_n65 nw_4 rfl ⟨rfl, rfl⟩ ⟨wd_X0_countBest_3, wd_X0_countBest_4⟩ (by decide +kernel) ⟨Nat.le_of_ble_eq_true rfl, Nat.le_of_ble_eq_true rfl⟩ rfl rfl (Nat.le_of_ble_eq_true rfl) ⟨Nat.zero_le _, Nat.zero_le _⟩ dX0_countBest_22 ?_
      show Z K 0 0 25 [(0, .ref (eA (kZ K) a0)), (1, .int a1), (2, .int a2), (3, .int a3)] [.int x7, .int x4, .int a2] s8
      refine Z_iand hk dX0_countBest_25 ?_
      obtain ⟨x10, s11, h12, h⟩ := bd_ok h
      refine Z_callT 1 hk [.int (x4 &&& x7)] (c_J6_bitCount_0f7a4 hk.loc hk.inj F (x4 &&& x7) s8 h12) gX0_countBest_J6_bitCount_0f7a4 rfl ⟨rfl, rfl⟩ (by decide +kernel) ⟨Nat.le_of_ble_eq_true rfl, Nat.le_of_ble_eq_true rfl⟩ rfl rfl (Nat.le_of_ble_eq_true rfl) ⟨Nat.zero_le _, Nat.zero_le _⟩ dX0_countBest_26 ?_
      show Z K 0 0 29 [(0, .ref (eA (kZ K) a0)), (1, .int a1), (2, .int a2), (3, .int a3)] [.int x10, .int a2] s11
      refine Z_imul hk dX0_countBest_29 ?_
      obtain ⟨x13, e14, h⟩ := nm_get h
      refine Z_eqI e14 ?_
      refine Z_istore_n hk (lv' := [(2, .int x13), (0, .ref (eA (kZ K) a0)), (1, .int a1), (3, .int a3)]) dX0_countBest_30 rfl (by decide) rfl ?_
      obtain ⟨x15, e16, h⟩ := nm_get h
      refine Z_iinc hk 3 (v := x15) (lv' := [(3, .int x15), (2, .int x13), (0, .ref (eA (kZ K) a0)), (1, .int a1)]) dX0_countBest_31 rfl (by rw [zc_iinc_1]; exact e16) (by decide) rfl ?_
      refine Z_goto hk (tgt := 7) dX0_countBest_34 (by decide) ?_
      refine Z_sub [2, 3, 1, 0] rfl ?_
      exact ih a0 a1 x13 x15 ha0 s11 h
set_option maxRecDepth 100000 in
set_option maxHeartbeats 4000000 in
theorem w_X0_countBest {K : zK} (hk : zIs K RX0 cX0_countBest 4 wsX0_countBest (some .int) r_X0_countBest) {r0 : Int32} {τ0 : zST} (hq : zQ K (some (.int r0)) τ0) (F : Nat) (a0 : Nat) (a1 : Int32) (ha0 : atArranging (kZ K) a0) (σ : zST) (h : m_X0_countBest F a0 a1 σ = some (r0, τ0)) : Z K 0 0 0 [(0, .ref (eA (kZ K) a0)), (1, .int a1)] [] σ := by
  unfold m_X0_countBest at h
  refine Z_aload_n hk 0 dX0_countBest_0 rfl rfl ?_
  refine Z_get hk in_X0_countBest_Arranging rfl ha0.cell.1 (ha0.cell.2 _) 2 (by decide) wd_X0_countBest_1 rfl dX0_countBest_1 ?_
  obtain ⟨x1, e2, h⟩ := nm_get h
  refine Z_eqI e2 ?_
  refine Z_istore_n hk (lv' := [(2, .int x1), (0, .ref (eA (kZ K) a0)), (1, .int a1)]) dX0_countBest_4 rfl (by decide) rfl ?_
  refine Z_iconst hk dX0_countBest_5 zc_iconst_0 ?_
  refine Z_istore_n hk (lv' := [(3, .int 0), (2, .int x1), (0, .ref (eA (kZ K) a0)), (1, .int a1)]) dX0_countBest_6 rfl (by decide) rfl ?_
  refine Z_sub [2, 3, 1, 0] rfl ?_
  exact w_X0_countBest_7 hk hq F F a0 a1 x1 0 ha0 σ h
theorem c_X0_countBest {l : Launch} {E : zE} (hL : eL E) (hJ : eJ E) (F : Nat) (a0 : Nat) (a1 : Int32) (ha0 : atArranging E a0) (σ : zST) {r0 : Int32} {τ0 : zST} (h : m_X0_countBest F a0 a1 σ = some (r0, τ0)) : Ct l yX0_countBest wsX0_countBest r_X0_countBest E [.ref (eA E a0), .int a1] σ (some (.int r0)) τ0 := by
  refine Ct_of (by decide) rfl hL hJ (Nat.le_of_ble_eq_true rfl) (fun K hE hl hk hq => ?_)
  subst hE
  exact w_X0_countBest hk hq F a0 a1 ha0 σ h
end

-- CanonCote$Arranging.exchangeable (I)I
section
theorem dX0_exchangeable_0 : decode cX0_exchangeable 0 = .ok (.aload_n 0, 1) := by decide +kernel
theorem dX0_exchangeable_1 : decode cX0_exchangeable 1 = .ok (.getfield 21, 3) := by decide +kernel
theorem dX0_exchangeable_4 : decode cX0_exchangeable 4 = .ok (.aload_n 0, 1) := by decide +kernel
theorem dX0_exchangeable_5 : decode cX0_exchangeable 5 = .ok (.iload_n 1, 1) := by decide +kernel
theorem dX0_exchangeable_6 : decode cX0_exchangeable 6 = .ok (.invokevirtual 97, 3) := by decide +kernel
theorem dX0_exchangeable_9 : decode cX0_exchangeable 9 = .ok (.iaload, 1) := by decide +kernel
theorem dX0_exchangeable_10 : decode cX0_exchangeable 10 = .ok (.ireturn, 1) := by decide +kernel
set_option maxRecDepth 20000 in
theorem ggX0_exchangeable_X0_bestPlace : GoodIn wsX0_exchangeable wsX0_bestPlace := goodIn_r _ [6, 7, 8, 9, 5, 10, 11, 12, 13, 14, 15, 16, 17] (by decide +kernel) (by decide +kernel)
set_option maxRecDepth 20000 in
theorem gX0_exchangeable_X0_bestPlace : GoodIn wsX0_exchangeable (wsV RX0 97 RX0 yX0_bestPlace wsX0_bestPlace) := goodIn_app (goodIn_of _ (by decide +kernel)) ggX0_exchangeable_X0_bestPlace
theorem in_X0_exchangeable_Arranging : ∀ w ∈ u_ws RX0 TX0 7, w ∈ wsX0_exchangeable := by decide +kernel
theorem wd_X0_exchangeable_1 : Cond.fieldLink RX0 21 (TX0 6).1 (TX0 6).2.1 (TX0 6).2.2.1 ∈ wsX0_exchangeable := by decide +kernel
def r_X0_exchangeable : Room := { frames := 3, cells := 0, slots := 0, locals := 53 }
set_option maxRecDepth 100000 in
set_option maxHeartbeats 4000000 in
theorem w_X0_exchangeable {K : zK} (hk : zIs K RX0 cX0_exchangeable 2 wsX0_exchangeable (some .int) r_X0_exchangeable) {r0 : Int32} {τ0 : zST} (hq : zQ K (some (.int r0)) τ0) (F : Nat) (a0 : Nat) (a1 : Int32) (ha0 : atArranging (kZ K) a0) (σ : zST) (h : m_X0_exchangeable F a0 a1 σ = some (r0, τ0)) : Z K 0 0 0 [(0, .ref (eA (kZ K) a0)), (1, .int a1)] [] σ := by
  unfold m_X0_exchangeable at h
  refine Z_aload_n hk 0 dX0_exchangeable_0 rfl rfl ?_
  refine Z_get hk in_X0_exchangeable_Arranging rfl ha0.cell.1 (ha0.cell.2 _) 6 (by decide) wd_X0_exchangeable_1 rfl dX0_exchangeable_1 ?_
  refine Z_aload_n hk 0 dX0_exchangeable_4 rfl rfl ?_
  refine Z_iload_n hk 1 dX0_exchangeable_5 rfl rfl ?_
  obtain ⟨x1, s2, h3, h⟩ := bd_ok h
  refine Z_callV 1 hk [.int a1] (c_X0_bestPlace hk.loc hk.inj F a0 a1 ha0 σ h3) gX0_exchangeable_X0_bestPlace rfl ⟨rfl, rfl⟩ (by decide +kernel) ⟨Nat.le_of_ble_eq_true rfl, Nat.le_of_ble_eq_true rfl⟩ ha0.cell.1 (ha0.cell.2 _) rfl rfl rfl (Nat.le_of_ble_eq_true rfl) ⟨Nat.zero_le _, Nat.zero_le _⟩ dX0_exchangeable_6 ?_
  show Z K 0 0 9 [(0, .ref (eA (kZ K) a0)), (1, .int a1)] [.int x1, .ref (eA (kZ K) (a0 + 4))] s2
  obtain ⟨i6, x4, e5, h⟩ := ldI_get h
  refine Z_iald hk (ha0.seenAt) i6 dX0_exchangeable_9 ?_
  refine Z_eqI e5 ?_
  cases h
  exact Z_iret hk hq dX0_exchangeable_10
theorem c_X0_exchangeable {l : Launch} {E : zE} (hL : eL E) (hJ : eJ E) (F : Nat) (a0 : Nat) (a1 : Int32) (ha0 : atArranging E a0) (σ : zST) {r0 : Int32} {τ0 : zST} (h : m_X0_exchangeable F a0 a1 σ = some (r0, τ0)) : Ct l yX0_exchangeable wsX0_exchangeable r_X0_exchangeable E [.ref (eA E a0), .int a1] σ (some (.int r0)) τ0 := by
  refine Ct_of (by decide) rfl hL hJ (Nat.le_of_ble_eq_true rfl) (fun K hE hl hk hq => ?_)
  subst hE
  exact w_X0_exchangeable hk hq F a0 a1 ha0 σ h
end
