-- CanonCote.leastCode (LCanonCote$Graph;)J
section
theorem dX7_leastCode_0 : decode cX7_leastCode 0 = .ok (.aload_n 0, 1) := by decide +kernel
theorem dX7_leastCode_1 : decode cX7_leastCode 1 = .ok (.getfield 30, 3) := by decide +kernel
theorem dX7_leastCode_4 : decode cX7_leastCode 4 = .ok (.aload_n 1, 1) := by decide +kernel
theorem dX7_leastCode_5 : decode cX7_leastCode 5 = .ok (.invokevirtual 120, 3) := by decide +kernel
theorem dX7_leastCode_8 : decode cX7_leastCode 8 = .ok (.aload_n 0, 1) := by decide +kernel
theorem dX7_leastCode_9 : decode cX7_leastCode 9 = .ok (.getfield 30, 3) := by decide +kernel
theorem dX7_leastCode_12 : decode cX7_leastCode 12 = .ok (.aload_n 1, 1) := by decide +kernel
theorem dX7_leastCode_13 : decode cX7_leastCode 13 = .ok (.invokevirtual 206, 3) := by decide +kernel
theorem dX7_leastCode_16 : decode cX7_leastCode 16 = .ok (.lreturn, 1) := by decide +kernel
set_option maxRecDepth 20000 in
theorem ggX7_leastCode_X0_search : GoodIn wsX7_leastCode wsX0_search := goodIn_r _ [5, 6, 7, 8, 9, 10, 3, 11, 12, 13, 14, 15, 16, 17, 18, 19, 20, 21, 22, 23, 24, 25, 26, 27, 28, 29, 30, 31, 32, 33, 34, 35, 36, 37, 38, 39, 40, 41, 42, 43, 44, 45, 46, 47, 48, 49, 50, 51, 52, 53, 54, 55, 56, 57, 58, 59, 60, 61, 75, 76, 77, 78, 79, 80, 81, 82, 83, 84] (by decide +kernel) (by decide +kernel)
set_option maxRecDepth 20000 in
theorem gX7_leastCode_X0_search_n120 : GoodIn wsX7_leastCode (wsX0_search) := ggX7_leastCode_X0_search
set_option maxRecDepth 20000 in
theorem ggX7_leastCode_X0_leastCode : GoodIn wsX7_leastCode wsX0_leastCode := goodIn_r _ [64, 7, 65, 66, 67, 3, 68, 41, 52, 53, 54, 82, 83, 84, 75, 76, 77, 78, 79, 80, 81] (by decide +kernel) (by decide +kernel)
set_option maxRecDepth 20000 in
theorem gX7_leastCode_X0_leastCode_n206 : GoodIn wsX7_leastCode (wsX0_leastCode) := ggX7_leastCode_X0_leastCode
theorem in_X7_leastCode_CanonCote : ∀ w ∈ u_ws RX7 TX7 6, w ∈ wsX7_leastCode := by decide +kernel
theorem wd_X7_leastCode_1 : Cond.fieldLink RX7 30 (TX7 3).1 (TX7 3).2.1 (TX7 3).2.2.1 ∈ wsX7_leastCode := by decide +kernel
theorem wd_X7_leastCode_2 : Cond.initialized yX0_search.cls ∈ wsX7_leastCode := by decide +kernel
theorem wd_X7_leastCode_3 : Cond.instanceMethod yX0_search ∈ wsX7_leastCode := by decide +kernel
theorem wd_X7_leastCode_4 : Cond.selects RX0 yX0_search yX0_search ∈ wsX7_leastCode := by decide +kernel
theorem wd_X7_leastCode_5 : Cond.initialized yX0_leastCode.cls ∈ wsX7_leastCode := by decide +kernel
theorem wd_X7_leastCode_6 : Cond.instanceMethod yX0_leastCode ∈ wsX7_leastCode := by decide +kernel
theorem wd_X7_leastCode_7 : Cond.selects RX0 yX0_leastCode yX0_leastCode ∈ wsX7_leastCode := by decide +kernel
def r_X7_leastCode : Room := { frames := 14, cells := 0, slots := 0, locals := 353 }
set_option maxRecDepth 100000 in
set_option maxHeartbeats 4000000 in
theorem w_X7_leastCode {K : zK} (hk : zIs K RX7 cX7_leastCode 2 wsX7_leastCode (some .long) r_X7_leastCode) {r0 : Int64} {τ0 : zST} (hq : zQ K (some (.long r0)) τ0) (F : Nat) (a0 : Nat) (a1 : Nat) (ha0 : atCanonCote (kZ K) a0) (ha1 : atGraph (kZ K) a1) (σ : zST) (h : m_X7_leastCode F a0 a1 σ = some (r0, τ0)) : Z K 0 0 0 [(0, .ref (eA (kZ K) a0)), (1, .ref (eA (kZ K) a1))] [] σ := by
  unfold m_X7_leastCode at h
  refine Z_aload_n hk 0 dX7_leastCode_0 rfl rfl ?_
  refine Z_get hk in_X7_leastCode_CanonCote rfl ha0.cell.1 (ha0.cell.2 _) 3 (by decide) wd_X7_leastCode_1 rfl dX7_leastCode_1 ?_
  refine Z_aload_n hk 1 dX7_leastCode_4 rfl rfl ?_
  obtain ⟨s2, h3, h⟩ := bv_ok h
  refine Z_callVN 1 hk (C := RX0) [.ref (eA (kZ K) a1)] (c_X0_search hk.loc hk.inj F (a0 + 21) a1 (ha0.arranging) ha1 σ h3) gX7_leastCode_X0_search_n120 nw_26 rfl ⟨rfl, rfl⟩ ⟨wd_X7_leastCode_2, wd_X7_leastCode_3, wd_X7_leastCode_4⟩ (by decide +kernel) ⟨Nat.le_of_ble_eq_true rfl, Nat.le_of_ble_eq_true rfl⟩ (ha0.arranging).cell.1 ((ha0.arranging).cell.2 _) rfl rfl rfl (Nat.le_of_ble_eq_true rfl) ⟨Nat.zero_le _, Nat.zero_le _⟩ dX7_leastCode_5 ?_
  show Z K 0 0 8 [(0, .ref (eA (kZ K) a0)), (1, .ref (eA (kZ K) a1))] [] s2
  refine Z_aload_n hk 0 dX7_leastCode_8 rfl rfl ?_
  refine Z_get hk in_X7_leastCode_CanonCote rfl ha0.cell.1 (ha0.cell.2 _) 3 (by decide) wd_X7_leastCode_1 rfl dX7_leastCode_9 ?_
  refine Z_aload_n hk 1 dX7_leastCode_12 rfl rfl ?_
  obtain ⟨x4, s5, h6, h⟩ := bd_ok h
  refine Z_callVN 1 hk (C := RX0) [.ref (eA (kZ K) a1)] (c_X0_leastCode hk.loc hk.inj F (a0 + 21) a1 (ha0.arranging) ha1 s2 h6) gX7_leastCode_X0_leastCode_n206 nw_27 rfl ⟨rfl, rfl⟩ ⟨wd_X7_leastCode_5, wd_X7_leastCode_6, wd_X7_leastCode_7⟩ (by decide +kernel) ⟨Nat.le_of_ble_eq_true rfl, Nat.le_of_ble_eq_true rfl⟩ (ha0.arranging).cell.1 ((ha0.arranging).cell.2 _) rfl rfl rfl (Nat.le_of_ble_eq_true rfl) ⟨Nat.zero_le _, Nat.zero_le _⟩ dX7_leastCode_13 ?_
  show Z K 0 0 16 [(0, .ref (eA (kZ K) a0)), (1, .ref (eA (kZ K) a1))] [.long x4] s5
  cases h
  exact Z_lret hk hq dX7_leastCode_16
theorem c_X7_leastCode {l : Launch} {E : zE} (hL : eL E) (hJ : eJ E) (F : Nat) (a0 : Nat) (a1 : Nat) (ha0 : atCanonCote E a0) (ha1 : atGraph E a1) (σ : zST) {r0 : Int64} {τ0 : zST} (h : m_X7_leastCode F a0 a1 σ = some (r0, τ0)) : Ct l yX7_leastCode wsX7_leastCode r_X7_leastCode E [.ref (eA E a0), .ref (eA E a1)] σ (some (.long r0)) τ0 := by
  refine Ct_of (by decide) rfl hL hJ (Nat.le_of_ble_eq_true rfl) (fun K hE hl hk hq => ?_)
  subst hE
  exact w_X7_leastCode hk hq F a0 a1 ha0 ha1 σ h
end

-- CanonCote.haveOneForm (LCanonCote$Graph;LCanonCote$Graph;)Z
section
theorem dX7_haveOneForm_0 : decode cX7_haveOneForm 0 = .ok (.aload_n 0, 1) := by decide +kernel
theorem dX7_haveOneForm_1 : decode cX7_haveOneForm 1 = .ok (.aload_n 1, 1) := by decide +kernel
theorem dX7_haveOneForm_2 : decode cX7_haveOneForm 2 = .ok (.invokevirtual 116, 3) := by decide +kernel
theorem dX7_haveOneForm_5 : decode cX7_haveOneForm 5 = .ok (.aload_n 0, 1) := by decide +kernel
theorem dX7_haveOneForm_6 : decode cX7_haveOneForm 6 = .ok (.aload_n 2, 1) := by decide +kernel
theorem dX7_haveOneForm_7 : decode cX7_haveOneForm 7 = .ok (.invokevirtual 116, 3) := by decide +kernel
theorem dX7_haveOneForm_10 : decode cX7_haveOneForm 10 = .ok (.lcmp, 1) := by decide +kernel
theorem dX7_haveOneForm_11 : decode cX7_haveOneForm 11 = .ok (.ifCond .ne 7, 3) := by decide +kernel
theorem dX7_haveOneForm_14 : decode cX7_haveOneForm 14 = .ok (.iconst 1, 1) := by decide +kernel
theorem dX7_haveOneForm_15 : decode cX7_haveOneForm 15 = .ok (.goto 4, 3) := by decide +kernel
theorem dX7_haveOneForm_18 : decode cX7_haveOneForm 18 = .ok (.iconst 0, 1) := by decide +kernel
theorem dX7_haveOneForm_19 : decode cX7_haveOneForm 19 = .ok (.ireturn, 1) := by decide +kernel
set_option maxRecDepth 20000 in
theorem ggX7_haveOneForm_X7_leastCode : GoodIn wsX7_haveOneForm wsX7_leastCode := goodIn_r _ [5, 6, 7, 8, 9, 10, 11, 12, 13, 14, 15, 16, 17, 18, 19, 20, 21, 22, 23, 24, 25, 26, 27, 28, 29, 30, 31, 32, 33, 34, 35, 36, 37, 38, 39, 40, 41, 42, 43, 44, 45, 46, 47, 48, 49, 50, 51, 52, 53, 54, 55, 56, 57, 58, 59, 60, 4, 61, 62, 63, 64, 65, 66, 67, 68, 69, 70, 71, 72, 73, 74, 75, 76, 77, 78, 79, 80, 81, 82, 83, 84, 85, 86, 87, 88] (by decide +kernel) (by decide +kernel)
set_option maxRecDepth 20000 in
theorem gX7_haveOneForm_X7_leastCode : GoodIn wsX7_haveOneForm (wsV RX7 116 RX7 yX7_leastCode wsX7_leastCode) := goodIn_app (goodIn_of _ (by decide +kernel)) ggX7_haveOneForm_X7_leastCode
def r_X7_haveOneForm : Room := { frames := 15, cells := 0, slots := 0, locals := 374 }
set_option maxRecDepth 100000 in
set_option maxHeartbeats 4000000 in
theorem w_X7_haveOneForm {K : zK} (hk : zIs K RX7 cX7_haveOneForm 3 wsX7_haveOneForm (some .boolean) r_X7_haveOneForm) {r0 : Int32} {τ0 : zST} (hq : zQ K (some (.int r0)) τ0) (F : Nat) (a0 : Nat) (a1 : Nat) (a2 : Nat) (ha0 : atCanonCote (kZ K) a0) (ha1 : atGraph (kZ K) a1) (ha2 : atGraph (kZ K) a2) (σ : zST) (h : m_X7_haveOneForm F a0 a1 a2 σ = some (r0, τ0)) : Z K 0 0 0 [(0, .ref (eA (kZ K) a0)), (1, .ref (eA (kZ K) a1)), (2, .ref (eA (kZ K) a2))] [] σ := by
  unfold m_X7_haveOneForm at h
  refine Z_aload_n hk 0 dX7_haveOneForm_0 rfl rfl ?_
  refine Z_aload_n hk 1 dX7_haveOneForm_1 rfl rfl ?_
  obtain ⟨x1, s2, h3, h⟩ := bd_ok h
  refine Z_callV 1 hk [.ref (eA (kZ K) a1)] (c_X7_leastCode hk.loc hk.inj F a0 a1 ha0 ha1 σ h3) gX7_haveOneForm_X7_leastCode rfl ⟨rfl, rfl⟩ (by decide +kernel) ⟨Nat.le_of_ble_eq_true rfl, Nat.le_of_ble_eq_true rfl⟩ ha0.cell.1 (ha0.cell.2 _) rfl rfl rfl (Nat.le_of_ble_eq_true rfl) ⟨Nat.zero_le _, Nat.zero_le _⟩ dX7_haveOneForm_2 ?_
  show Z K 0 0 5 [(0, .ref (eA (kZ K) a0)), (1, .ref (eA (kZ K) a1)), (2, .ref (eA (kZ K) a2))] [.long x1] s2
  refine Z_aload_n hk 0 dX7_haveOneForm_5 rfl rfl ?_
  refine Z_aload_n hk 2 dX7_haveOneForm_6 rfl rfl ?_
  obtain ⟨x4, s5, h6, h⟩ := bd_ok h
  refine Z_callV 1 hk [.ref (eA (kZ K) a2)] (c_X7_leastCode hk.loc hk.inj F a0 a2 ha0 ha2 s2 h6) gX7_haveOneForm_X7_leastCode rfl ⟨rfl, rfl⟩ (by decide +kernel) ⟨Nat.le_of_ble_eq_true rfl, Nat.le_of_ble_eq_true rfl⟩ ha0.cell.1 (ha0.cell.2 _) rfl rfl rfl (Nat.le_of_ble_eq_true rfl) ⟨Nat.zero_le _, Nat.zero_le _⟩ dX7_haveOneForm_7 ?_
  show Z K 0 0 10 [(0, .ref (eA (kZ K) a0)), (1, .ref (eA (kZ K) a1)), (2, .ref (eA (kZ K) a2))] [.long x4, .long x1] s5
  refine Z_lcmp hk dX7_haveOneForm_10 ?_
  refine Z_if_ne hk (tgt := 18) dX7_haveOneForm_11 (by decide) (fun c7 => ?_) (fun c7 => ?_)
  · have h := if_yes h c7
    refine Z_iconst hk dX7_haveOneForm_14 zc_iconst_1 ?_
    refine Z_goto hk (tgt := 19) dX7_haveOneForm_15 (by decide) ?_
    cases h
    exact Z_zret hk (by decide) hq dX7_haveOneForm_19
  · have h := if_no h c7
    refine Z_iconst hk dX7_haveOneForm_18 zc_iconst_0 ?_
    cases h
    exact Z_zret hk (by decide) hq dX7_haveOneForm_19
theorem c_X7_haveOneForm {l : Launch} {E : zE} (hL : eL E) (hJ : eJ E) (F : Nat) (a0 : Nat) (a1 : Nat) (a2 : Nat) (ha0 : atCanonCote E a0) (ha1 : atGraph E a1) (ha2 : atGraph E a2) (σ : zST) {r0 : Int32} {τ0 : zST} (h : m_X7_haveOneForm F a0 a1 a2 σ = some (r0, τ0)) : Ct l yX7_haveOneForm wsX7_haveOneForm r_X7_haveOneForm E [.ref (eA E a0), .ref (eA E a1), .ref (eA E a2)] σ (some (.int r0)) τ0 := by
  refine Ct_of (by decide) rfl hL hJ (Nat.le_of_ble_eq_true rfl) (fun K hE hl hk hq => ?_)
  subst hE
  exact w_X7_haveOneForm hk hq F a0 a1 a2 ha0 ha1 ha2 σ h
end

-- CanonCote.forgetGenerators ()I
section
theorem dX7_forgetGenerators_0 : decode cX7_forgetGenerators 0 = .ok (.aload_n 0, 1) := by decide +kernel
theorem dX7_forgetGenerators_1 : decode cX7_forgetGenerators 1 = .ok (.getfield 44, 3) := by decide +kernel
theorem dX7_forgetGenerators_4 : decode cX7_forgetGenerators 4 = .ok (.getfield 158, 3) := by decide +kernel
theorem dX7_forgetGenerators_7 : decode cX7_forgetGenerators 7 = .ok (.istore_n 1, 1) := by decide +kernel
theorem dX7_forgetGenerators_8 : decode cX7_forgetGenerators 8 = .ok (.aload_n 0, 1) := by decide +kernel
theorem dX7_forgetGenerators_9 : decode cX7_forgetGenerators 9 = .ok (.getfield 44, 3) := by decide +kernel
theorem dX7_forgetGenerators_12 : decode cX7_forgetGenerators 12 = .ok (.invokevirtual 176, 3) := by decide +kernel
theorem dX7_forgetGenerators_15 : decode cX7_forgetGenerators 15 = .ok (.iload_n 1, 1) := by decide +kernel
theorem dX7_forgetGenerators_16 : decode cX7_forgetGenerators 16 = .ok (.ireturn, 1) := by decide +kernel
set_option maxRecDepth 20000 in
theorem ggX7_forgetGenerators_X3_clear : GoodIn wsX7_forgetGenerators wsX3_clear := goodIn_r _ [5, 6, 7, 8, 9, 10, 11, 12, 13, 14, 15, 16, 17, 18, 19, 20, 21, 22, 23, 24, 25, 26, 27, 28, 29, 30, 31, 38, 39, 40, 41, 42, 43, 44, 45, 46, 47] (by decide +kernel) (by decide +kernel)
set_option maxRecDepth 20000 in
theorem gX7_forgetGenerators_X3_clear_n176 : GoodIn wsX7_forgetGenerators (wsX3_clear) := ggX7_forgetGenerators_X3_clear
theorem in_X7_forgetGenerators_CanonCote : ∀ w ∈ u_ws RX7 TX7 6, w ∈ wsX7_forgetGenerators := by decide +kernel
theorem wd_X7_forgetGenerators_1 : Cond.fieldLink RX7 44 (TX7 5).1 (TX7 5).2.1 (TX7 5).2.2.1 ∈ wsX7_forgetGenerators := by decide +kernel
theorem in_X7_forgetGenerators_Group : ∀ w ∈ u_ws RX3 TX3 4, w ∈ wsX7_forgetGenerators := by decide +kernel
theorem wd_X7_forgetGenerators_3 : Cond.initialized yX3_clear.cls ∈ wsX7_forgetGenerators := by decide +kernel
theorem wd_X7_forgetGenerators_4 : Cond.instanceMethod yX3_clear ∈ wsX7_forgetGenerators := by decide +kernel
theorem wd_X7_forgetGenerators_5 : Cond.selects RX3 yX3_clear yX3_clear ∈ wsX7_forgetGenerators := by decide +kernel
def r_X7_forgetGenerators : Room := { frames := 4, cells := 0, slots := 0, locals := 81 }
set_option maxRecDepth 100000 in
set_option maxHeartbeats 4000000 in
theorem w_X7_forgetGenerators {K : zK} (hk : zIs K RX7 cX7_forgetGenerators 2 wsX7_forgetGenerators (some .int) r_X7_forgetGenerators) {r0 : Int32} {τ0 : zST} (hq : zQ K (some (.int r0)) τ0) (F : Nat) (a0 : Nat) (ha0 : atCanonCote (kZ K) a0) (σ : zST) (h : m_X7_forgetGenerators F a0 σ = some (r0, τ0)) : Z K 0 0 0 [(0, .ref (eA (kZ K) a0))] [] σ := by
  unfold m_X7_forgetGenerators at h
  refine Z_aload_n hk 0 dX7_forgetGenerators_0 rfl rfl ?_
  refine Z_get hk in_X7_forgetGenerators_CanonCote rfl ha0.cell.1 (ha0.cell.2 _) 5 (by decide) wd_X7_forgetGenerators_1 rfl dX7_forgetGenerators_1 ?_
  refine Z_getN hk in_X7_forgetGenerators_Group rfl (ha0.group).cell.1 ((ha0.group).cell.2 _) 0 (by decide) nw_49 rfl dX7_forgetGenerators_4 ?_
  obtain ⟨x1, e2, h⟩ := nm_get h
  refine Z_eqI e2 ?_
  refine Z_istore_n hk (lv' := [(1, .int x1), (0, .ref (eA (kZ K) a0))]) dX7_forgetGenerators_7 rfl (by decide) rfl ?_
  refine Z_aload_n hk 1 dX7_forgetGenerators_8 rfl rfl ?_
  refine Z_get hk in_X7_forgetGenerators_CanonCote rfl ha0.cell.1 (ha0.cell.2 _) 5 (by decide) wd_X7_forgetGenerators_1 rfl dX7_forgetGenerators_9 ?_
  obtain ⟨s4, h5, h⟩ := bv_ok h
  refine Z_callVN 0 hk (C := RX3) [] (c_X3_clear hk.loc hk.inj F (a0 + 36) (ha0.group) σ h5) gX7_forgetGenerators_X3_clear_n176 nw_53 rfl ⟨rfl, rfl⟩ ⟨wd_X7_forgetGenerators_3, wd_X7_forgetGenerators_4, wd_X7_forgetGenerators_5⟩ (by decide +kernel) ⟨Nat.le_of_ble_eq_true rfl, Nat.le_of_ble_eq_true rfl⟩ (ha0.group).cell.1 ((ha0.group).cell.2 _) rfl rfl rfl (Nat.le_of_ble_eq_true rfl) ⟨Nat.zero_le _, Nat.zero_le _⟩ dX7_forgetGenerators_12 ?_
  show Z K 0 0 15 [(1, .int x1), (0, .ref (eA (kZ K) a0))] [] s4
  refine Z_iload_n hk 0 dX7_forgetGenerators_15 rfl rfl ?_
  cases h
  exact Z_iret hk hq dX7_forgetGenerators_16
theorem c_X7_forgetGenerators {l : Launch} {E : zE} (hL : eL E) (hJ : eJ E) (F : Nat) (a0 : Nat) (ha0 : atCanonCote E a0) (σ : zST) {r0 : Int32} {τ0 : zST} (h : m_X7_forgetGenerators F a0 σ = some (r0, τ0)) : Ct l yX7_forgetGenerators wsX7_forgetGenerators r_X7_forgetGenerators E [.ref (eA E a0)] σ (some (.int r0)) τ0 := by
  refine Ct_of (by decide) rfl hL hJ (Nat.le_of_ble_eq_true rfl) (fun K hE hl hk hq => ?_)
  subst hE
  exact w_X7_forgetGenerators hk hq F a0 ha0 σ h
end

-- CanonCote.order ()I
section
theorem dX7_order_0 : decode cX7_order 0 = .ok (.aload_n 0, 1) := by decide +kernel
theorem dX7_order_1 : decode cX7_order 1 = .ok (.getfield 44, 3) := by decide +kernel
theorem dX7_order_4 : decode cX7_order 4 = .ok (.getfield 167, 3) := by decide +kernel
theorem dX7_order_7 : decode cX7_order 7 = .ok (.getfield 171, 3) := by decide +kernel
theorem dX7_order_10 : decode cX7_order 10 = .ok (.ireturn, 1) := by decide +kernel
theorem in_X7_order_CanonCote : ∀ w ∈ u_ws RX7 TX7 6, w ∈ wsX7_order := by decide +kernel
theorem wd_X7_order_1 : Cond.fieldLink RX7 44 (TX7 5).1 (TX7 5).2.1 (TX7 5).2.2.1 ∈ wsX7_order := by decide +kernel
theorem in_X7_order_Group : ∀ w ∈ u_ws RX3 TX3 4, w ∈ wsX7_order := by decide +kernel
theorem in_X7_order_Chain : ∀ w ∈ u_ws RX1 TX1 6, w ∈ wsX7_order := by decide +kernel
def r_X7_order : Room := { frames := 1, cells := 0, slots := 0, locals := 12 }
set_option maxRecDepth 100000 in
set_option maxHeartbeats 4000000 in
theorem w_X7_order {K : zK} (hk : zIs K RX7 cX7_order 1 wsX7_order (some .int) r_X7_order) {r0 : Int32} {τ0 : zST} (hq : zQ K (some (.int r0)) τ0) (F : Nat) (a0 : Nat) (ha0 : atCanonCote (kZ K) a0) (σ : zST) (h : m_X7_order F a0 σ = some (r0, τ0)) : Z K 0 0 0 [(0, .ref (eA (kZ K) a0))] [] σ := by
  unfold m_X7_order at h
  refine Z_aload_n hk 0 dX7_order_0 rfl rfl ?_
  refine Z_get hk in_X7_order_CanonCote rfl ha0.cell.1 (ha0.cell.2 _) 5 (by decide) wd_X7_order_1 rfl dX7_order_1 ?_
  refine Z_getN hk in_X7_order_Group rfl (ha0.group).cell.1 ((ha0.group).cell.2 _) 2 (by decide) nw_51 rfl dX7_order_4 ?_
  refine Z_getN hk in_X7_order_Chain rfl (((ha0.group).chain)).cell.1 ((((ha0.group).chain)).cell.2 _) 0 (by decide) nw_52 rfl dX7_order_7 ?_
  cases h
  exact Z_iret hk hq dX7_order_10
theorem c_X7_order {l : Launch} {E : zE} (hL : eL E) (hJ : eJ E) (F : Nat) (a0 : Nat) (ha0 : atCanonCote E a0) (σ : zST) {r0 : Int32} {τ0 : zST} (h : m_X7_order F a0 σ = some (r0, τ0)) : Ct l yX7_order wsX7_order r_X7_order E [.ref (eA E a0)] σ (some (.int r0)) τ0 := by
  refine Ct_of (by decide) rfl hL hJ (Nat.le_of_ble_eq_true rfl) (fun K hE hl hk hq => ?_)
  subst hE
  exact w_X7_order hk hq F a0 ha0 σ h
end
