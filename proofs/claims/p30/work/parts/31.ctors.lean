section
def cells_Group (cid : Nat → ClassId) (ad : Nat → Nat) (σ : zST) : List va_E := [.inr (3, [.int (gI σ 0 0), .ref (ad 1), .ref (ad 2), .ref (ad 6)]),
  .inl (cid 1, 6, .inr (.inl (σ.2 1))),
  .inr (1, [.int (gI σ 2 0), .int (gI σ 2 1), .int (gI σ 2 2), .ref (ad 3), .ref (ad 4), .ref (ad 5)]),
  .inl (cid 0, 8, .inl (σ.1 3)),
  .inl (cid 1, 28, .inr (.inl (σ.2 4))),
  .inl (cid 1, 64, .inr (.inl (σ.2 5))),
  .inr (1, [.int (gI σ 6 0), .int (gI σ 6 1), .int (gI σ 6 2), .ref (ad 7), .ref (ad 8), .ref (ad 9)]),
  .inl (cid 0, 8, .inl (σ.1 7)),
  .inl (cid 1, 28, .inr (.inl (σ.2 8))),
  .inl (cid 1, 64, .inr (.inl (σ.2 9)))]
def zGroup (D : va_G) (cid : Nat → ClassId) (ad : Nat → Nat) : zE := (fun p σ => (cells_Group cid ad σ).getD p (.inr (0, [])), ad, 10, D, cid)
set_option maxHeartbeats 4000000 in
theorem zGroup_L (D : va_G) (cid : Nat → ClassId) (ad : Nat → Nat) : eL (zGroup D cid ad) := by
  intro p σ τ h1 h2
  by_cases hp : p < 10
  · rcases (show p = 0 ∨ p = 1 ∨ p = 2 ∨ p = 3 ∨ p = 4 ∨ p = 5 ∨ p = 6 ∨ p = 7 ∨ p = 8 ∨ p = 9 by omega) with rfl | rfl | rfl | rfl | rfl | rfl | rfl | rfl | rfl | rfl <;> simp only [eS, zGroup, cells_Group, List.getD_cons_succ, List.getD_cons_zero, gI, h1, h2]
  · have e : ∀ ρ : zST, (cells_Group cid ad ρ)[p]? = none := fun ρ => List.getElem?_eq_none_iff.mpr (by show 10 ≤ p; omega)
    simp only [eS, zGroup, List.getD_eq_getElem?_getD, e]
set_option maxHeartbeats 4000000 in
theorem zGroup_at (D : va_G) (cid : Nat → ClassId) (ad : Nat → Nat) : atGroup (zGroup D cid ad) 0 := ⟨⟨Nat.le_of_ble_eq_true rfl, fun _ => rfl⟩, ⟨Nat.le_of_ble_eq_true rfl, fun _ => rfl⟩, ⟨⟨Nat.le_of_ble_eq_true rfl, fun _ => rfl⟩, ⟨Nat.le_of_ble_eq_true rfl, fun _ => rfl⟩, ⟨Nat.le_of_ble_eq_true rfl, fun _ => rfl⟩, ⟨Nat.le_of_ble_eq_true rfl, fun _ => rfl⟩⟩, ⟨⟨Nat.le_of_ble_eq_true rfl, fun _ => rfl⟩, ⟨Nat.le_of_ble_eq_true rfl, fun _ => rfl⟩, ⟨Nat.le_of_ble_eq_true rfl, fun _ => rfl⟩, ⟨Nat.le_of_ble_eq_true rfl, fun _ => rfl⟩⟩⟩
def s0_Group : zST := (fun _ _ => 0, fun _ _ => 0)
end
-- CanonCote$Graph.<init>
section
theorem dX2_init_0 : decode cX2_init 0 = .ok (.aload_n 0, 1) := by decide +kernel
theorem dX2_init_1 : decode cX2_init 1 = .ok (.invokespecial 3, 3) := by decide +kernel
theorem dX2_init_4 : decode cX2_init 4 = .ok (.aload_n 0, 1) := by decide +kernel
theorem dX2_init_5 : decode cX2_init 5 = .ok (.iconst 4, 1) := by decide +kernel
theorem dX2_init_6 : decode cX2_init 6 = .ok (.putfield 9, 3) := by decide +kernel
theorem dX2_init_9 : decode cX2_init 9 = .ok (.aload_n 0, 1) := by decide +kernel
theorem dX2_init_10 : decode cX2_init 10 = .ok (.bipush 8, 2) := by decide +kernel
theorem dX2_init_12 : decode cX2_init 12 = .ok (.newarray .int, 2) := by decide +kernel
theorem dX2_init_14 : decode cX2_init 14 = .ok (.putfield 15, 3) := by decide +kernel
theorem dX2_init_17 : decode cX2_init 17 = .ok (.aload_n 0, 1) := by decide +kernel
theorem dX2_init_18 : decode cX2_init 18 = .ok (.bipush 8, 2) := by decide +kernel
theorem dX2_init_20 : decode cX2_init 20 = .ok (.newarray .int, 2) := by decide +kernel
theorem dX2_init_22 : decode cX2_init 22 = .ok (.putfield 19, 3) := by decide +kernel
theorem dX2_init_25 : decode cX2_init 25 = .ok (.return_, 1) := by decide +kernel
theorem wd_X2_init_0 : Cond.methodLink RX2 3 objectInit ∈ wsX2_init := by decide +kernel
theorem wd_X2_init_1 : Cond.instanceMethod objectInit ∈ wsX2_init := by decide +kernel
theorem wd_X2_init_2 : Cond.code objectInit ⟨#[0xb1]⟩ 1 none ∈ wsX2_init := by decide +kernel
theorem in_X2_init_Graph : ∀ w ∈ u_ws RX2 TX2 3, w ∈ wsX2_init := by decide +kernel
theorem wd_X2_init_4 : Cond.fieldLink RX2 9 (TX2 0).1 (TX2 0).2.1 (TX2 0).2.2.1 ∈ wsX2_init := by decide +kernel
theorem wd_X2_init_5 : Cond.arrayClass .int ∈ wsX2_init := by decide +kernel
theorem wd_X2_init_6 : Cond.fieldLink RX2 15 (TX2 1).1 (TX2 1).2.1 (TX2 1).2.2.1 ∈ wsX2_init := by decide +kernel
theorem wd_X2_init_7 : Cond.fieldLink RX2 19 (TX2 2).1 (TX2 2).2.1 (TX2 2).2.2.1 ∈ wsX2_init := by decide +kernel
def r_X2_init : Room := { frames := 2, cells := 2, slots := 16, locals := 12 }
def mk_Graph (cid : Nat → ClassId) (ad : Nat → Nat) : va_W := [((ad 0), .inr (2, [.int 4, .ref (ad 1), .ref (ad 2)])), ((ad 1), .inl (cid 0, 8, .inl (fun _ => 0))), ((ad 2), .inl (cid 0, 8, .inl (fun _ => 0)))]
set_option maxRecDepth 100000 in
set_option maxHeartbeats 4000000 in
theorem c_X2_init {l : Launch} {D : va_G} {cid : Nat → ClassId}  : CtI l yX2_init wsX2_init r_X2_init D cid (.inr (2, [.int 0, .null, .null])) (mk_Graph cid) := by
  refine CtI_of (by decide) rfl rfl (Nat.le_of_ble_eq_true rfl) (fun K h0 hE hl hk hin hao hq => ?_)
  obtain rfl : eD (kZ K) = D := by rw [hE]; rfl
  obtain rfl : eC (kZ K) = cid := by rw [hE]; rfl
  obtain rfl : eA (kZ K) 0 = h0 := by rw [hE]; rfl
  subst hl
  refine V_aload_n hk 0 dX2_init_0 rfl rfl ?_
  refine V_obj hk ⟨wd_X2_init_0, wd_X2_init_1, wd_X2_init_2⟩ ⟨Nat.le_of_ble_eq_true rfl, Nat.le_of_ble_eq_true rfl⟩ dX2_init_1 ?_
  refine V_aload_n hk 0 dX2_init_4 rfl rfl ?_
  refine V_iconst hk dX2_init_5 zc_iconst_4 ?_
  refine V_put hk in_X2_init_Graph tyX2 tok_TX2 tnm_TX2 rfl 0 rfl 0 (by decide) wd_X2_init_4 rfl (tok_TX2 0 (by decide)) rfl rfl (Nat.le_of_ble_eq_true rfl) (ws' := [(eA (kZ K) 0, .inr (2, [.int 4, .null, .null]))]) rfl dX2_init_6 ?_
  refine V_aload_n hk 0 dX2_init_9 rfl rfl ?_
  refine V_bipush hk dX2_init_10 zc_bipush_8 ?_
  refine V_newI hk (N := 8) wd_X2_init_5 (by decide) (by decide +kernel) (Nat.le_of_ble_eq_true rfl) ⟨Nat.le_of_ble_eq_true rfl, Nat.le_of_ble_eq_true rfl⟩ dX2_init_12 (fun q0 => ?_)
  refine V_putF hk hin in_X2_init_Graph tyX2 tok_TX2 tnm_TX2 rfl 0 rfl 1 (by decide) wd_X2_init_6 rfl rfl (tok_TX2 1 (by decide)) rfl rfl (Nat.le_of_ble_eq_true rfl) (ws' := [(eA (kZ K) 0, .inr (2, [.int 4, .ref q0, .null])), (q0, .inl (eC (kZ K) 0, 8, .inl (fun _ => 0)))]) rfl dX2_init_14 ?_
  refine V_aload_n hk 0 dX2_init_17 rfl rfl ?_
  refine V_bipush hk dX2_init_18 zc_bipush_8 ?_
  refine V_newI hk (N := 8) wd_X2_init_5 (by decide) (by decide +kernel) (Nat.le_of_ble_eq_true rfl) ⟨Nat.le_of_ble_eq_true rfl, Nat.le_of_ble_eq_true rfl⟩ dX2_init_20 (fun q1 => ?_)
  refine V_putF hk hin in_X2_init_Graph tyX2 tok_TX2 tnm_TX2 rfl 0 rfl 2 (by decide) wd_X2_init_7 rfl rfl (tok_TX2 2 (by decide)) rfl rfl (Nat.le_of_ble_eq_true rfl) (ws' := [(eA (kZ K) 0, .inr (2, [.int 4, .ref q0, .ref q1])), (q0, .inl (eC (kZ K) 0, 8, .inl (fun _ => 0))), (q1, .inl (eC (kZ K) 0, 8, .inl (fun _ => 0)))]) rfl dX2_init_22 ?_
  exact V_ret hk hq (fun j => ([eA (kZ K) 0, q0, q1] : List Nat).getD j 0) rfl rfl ⟨Nat.le_of_ble_eq_true rfl, Nat.le_of_ble_eq_true rfl⟩ dX2_init_25
end

-- CanonCote$Refinement.<init>
section
theorem dX6_init_0 : decode cX6_init 0 = .ok (.aload_n 0, 1) := by decide +kernel
theorem dX6_init_1 : decode cX6_init 1 = .ok (.invokespecial 3, 3) := by decide +kernel
theorem dX6_init_4 : decode cX6_init 4 = .ok (.aload_n 0, 1) := by decide +kernel
theorem dX6_init_5 : decode cX6_init 5 = .ok (.bipush 8, 2) := by decide +kernel
theorem dX6_init_7 : decode cX6_init 7 = .ok (.newarray .int, 2) := by decide +kernel
theorem dX6_init_9 : decode cX6_init 9 = .ok (.putfield 9, 3) := by decide +kernel
theorem dX6_init_12 : decode cX6_init 12 = .ok (.aload_n 0, 1) := by decide +kernel
theorem dX6_init_13 : decode cX6_init 13 = .ok (.bipush 8, 2) := by decide +kernel
theorem dX6_init_15 : decode cX6_init 15 = .ok (.newarray .int, 2) := by decide +kernel
theorem dX6_init_17 : decode cX6_init 17 = .ok (.putfield 15, 3) := by decide +kernel
theorem dX6_init_20 : decode cX6_init 20 = .ok (.aload_n 0, 1) := by decide +kernel
theorem dX6_init_21 : decode cX6_init 21 = .ok (.bipush 8, 2) := by decide +kernel
theorem dX6_init_23 : decode cX6_init 23 = .ok (.newarray .long, 2) := by decide +kernel
theorem dX6_init_25 : decode cX6_init 25 = .ok (.putfield 18, 3) := by decide +kernel
theorem dX6_init_28 : decode cX6_init 28 = .ok (.return_, 1) := by decide +kernel
theorem wd_X6_init_0 : Cond.methodLink RX6 3 objectInit ∈ wsX6_init := by decide +kernel
theorem wd_X6_init_1 : Cond.instanceMethod objectInit ∈ wsX6_init := by decide +kernel
theorem wd_X6_init_2 : Cond.code objectInit ⟨#[0xb1]⟩ 1 none ∈ wsX6_init := by decide +kernel
theorem wd_X6_init_3 : Cond.arrayClass .int ∈ wsX6_init := by decide +kernel
theorem in_X6_init_Refinement : ∀ w ∈ u_ws RX6 TX6 5, w ∈ wsX6_init := by decide +kernel
theorem wd_X6_init_5 : Cond.fieldLink RX6 9 (TX6 2).1 (TX6 2).2.1 (TX6 2).2.2.1 ∈ wsX6_init := by decide +kernel
theorem wd_X6_init_6 : Cond.fieldLink RX6 15 (TX6 3).1 (TX6 3).2.1 (TX6 3).2.2.1 ∈ wsX6_init := by decide +kernel
theorem wd_X6_init_7 : Cond.arrayClass .long ∈ wsX6_init := by decide +kernel
theorem wd_X6_init_8 : Cond.fieldLink RX6 18 (TX6 4).1 (TX6 4).2.1 (TX6 4).2.2.1 ∈ wsX6_init := by decide +kernel
def r_X6_init : Room := { frames := 2, cells := 3, slots := 24, locals := 12 }
def mk_Refinement (cid : Nat → ClassId) (ad : Nat → Nat) : va_W := [((ad 0), .inr (5, [.int 0, .int 0, .ref (ad 1), .ref (ad 2), .ref (ad 3)])), ((ad 1), .inl (cid 0, 8, .inl (fun _ => 0))), ((ad 2), .inl (cid 0, 8, .inl (fun _ => 0))), ((ad 3), .inl (cid 1, 8, .inr (.inl (fun _ => 0))))]
set_option maxRecDepth 100000 in
set_option maxHeartbeats 4000000 in
theorem c_X6_init {l : Launch} {D : va_G} {cid : Nat → ClassId}  : CtI l yX6_init wsX6_init r_X6_init D cid (.inr (5, [.int 0, .int 0, .null, .null, .null])) (mk_Refinement cid) := by
  refine CtI_of (by decide) rfl rfl (Nat.le_of_ble_eq_true rfl) (fun K h0 hE hl hk hin hao hq => ?_)
  obtain rfl : eD (kZ K) = D := by rw [hE]; rfl
  obtain rfl : eC (kZ K) = cid := by rw [hE]; rfl
  obtain rfl : eA (kZ K) 0 = h0 := by rw [hE]; rfl
  subst hl
  refine V_aload_n hk 0 dX6_init_0 rfl rfl ?_
  refine V_obj hk ⟨wd_X6_init_0, wd_X6_init_1, wd_X6_init_2⟩ ⟨Nat.le_of_ble_eq_true rfl, Nat.le_of_ble_eq_true rfl⟩ dX6_init_1 ?_
  refine V_aload_n hk 0 dX6_init_4 rfl rfl ?_
  refine V_bipush hk dX6_init_5 zc_bipush_8 ?_
  refine V_newI hk (N := 8) wd_X6_init_3 (by decide) (by decide +kernel) (Nat.le_of_ble_eq_true rfl) ⟨Nat.le_of_ble_eq_true rfl, Nat.le_of_ble_eq_true rfl⟩ dX6_init_7 (fun q0 => ?_)
  refine V_putF hk hin in_X6_init_Refinement tyX6 tok_TX6 tnm_TX6 rfl 0 rfl 2 (by decide) wd_X6_init_5 rfl rfl (tok_TX6 2 (by decide)) rfl rfl (Nat.le_of_ble_eq_true rfl) (ws' := [(eA (kZ K) 0, .inr (5, [.int 0, .int 0, .ref q0, .null, .null])), (q0, .inl (eC (kZ K) 0, 8, .inl (fun _ => 0)))]) rfl dX6_init_9 ?_
  refine V_aload_n hk 0 dX6_init_12 rfl rfl ?_
  refine V_bipush hk dX6_init_13 zc_bipush_8 ?_
  refine V_newI hk (N := 8) wd_X6_init_3 (by decide) (by decide +kernel) (Nat.le_of_ble_eq_true rfl) ⟨Nat.le_of_ble_eq_true rfl, Nat.le_of_ble_eq_true rfl⟩ dX6_init_15 (fun q1 => ?_)
  refine V_putF hk hin in_X6_init_Refinement tyX6 tok_TX6 tnm_TX6 rfl 0 rfl 3 (by decide) wd_X6_init_6 rfl rfl (tok_TX6 3 (by decide)) rfl rfl (Nat.le_of_ble_eq_true rfl) (ws' := [(eA (kZ K) 0, .inr (5, [.int 0, .int 0, .ref q0, .ref q1, .null])), (q0, .inl (eC (kZ K) 0, 8, .inl (fun _ => 0))), (q1, .inl (eC (kZ K) 0, 8, .inl (fun _ => 0)))]) rfl dX6_init_17 ?_
  refine V_aload_n hk 0 dX6_init_20 rfl rfl ?_
  refine V_bipush hk dX6_init_21 zc_bipush_8 ?_
  refine V_newJ hk (N := 8) wd_X6_init_7 (by decide) (by decide +kernel) (Nat.le_of_ble_eq_true rfl) ⟨Nat.le_of_ble_eq_true rfl, Nat.le_of_ble_eq_true rfl⟩ dX6_init_23 (fun q2 => ?_)
  refine V_putF hk hin in_X6_init_Refinement tyX6 tok_TX6 tnm_TX6 rfl 0 rfl 4 (by decide) wd_X6_init_8 rfl rfl (tok_TX6 4 (by decide)) rfl rfl (Nat.le_of_ble_eq_true rfl) (ws' := [(eA (kZ K) 0, .inr (5, [.int 0, .int 0, .ref q0, .ref q1, .ref q2])), (q0, .inl (eC (kZ K) 0, 8, .inl (fun _ => 0))), (q1, .inl (eC (kZ K) 0, 8, .inl (fun _ => 0))), (q2, .inl (eC (kZ K) 1, 8, .inr (.inl (fun _ => 0))))]) rfl dX6_init_25 ?_
  exact V_ret hk hq (fun j => ([eA (kZ K) 0, q0, q1, q2] : List Nat).getD j 0) rfl rfl ⟨Nat.le_of_ble_eq_true rfl, Nat.le_of_ble_eq_true rfl⟩ dX6_init_28
end

-- CanonCote$Arranging.<init>
section
theorem dX0_init_0 : decode cX0_init 0 = .ok (.aload_n 0, 1) := by decide +kernel
theorem dX0_init_1 : decode cX0_init 1 = .ok (.invokespecial 5, 3) := by decide +kernel
theorem dX0_init_4 : decode cX0_init 4 = .ok (.aload_n 0, 1) := by decide +kernel
theorem dX0_init_5 : decode cX0_init 5 = .ok (.bipush 8, 2) := by decide +kernel
theorem dX0_init_7 : decode cX0_init 7 = .ok (.newarray .int, 2) := by decide +kernel
theorem dX0_init_9 : decode cX0_init 9 = .ok (.putfield 11, 3) := by decide +kernel
theorem dX0_init_12 : decode cX0_init 12 = .ok (.aload_n 0, 1) := by decide +kernel
theorem dX0_init_13 : decode cX0_init 13 = .ok (.bipush 64, 2) := by decide +kernel
theorem dX0_init_15 : decode cX0_init 15 = .ok (.newarray .int, 2) := by decide +kernel
theorem dX0_init_17 : decode cX0_init 17 = .ok (.putfield 15, 3) := by decide +kernel
theorem dX0_init_20 : decode cX0_init 20 = .ok (.aload_n 0, 1) := by decide +kernel
theorem dX0_init_21 : decode cX0_init 21 = .ok (.bipush 8, 2) := by decide +kernel
theorem dX0_init_23 : decode cX0_init 23 = .ok (.newarray .int, 2) := by decide +kernel
theorem dX0_init_25 : decode cX0_init 25 = .ok (.putfield 18, 3) := by decide +kernel
theorem dX0_init_28 : decode cX0_init 28 = .ok (.aload_n 0, 1) := by decide +kernel
theorem dX0_init_29 : decode cX0_init 29 = .ok (.bipush 8, 2) := by decide +kernel
theorem dX0_init_31 : decode cX0_init 31 = .ok (.newarray .int, 2) := by decide +kernel
theorem dX0_init_33 : decode cX0_init 33 = .ok (.putfield 21, 3) := by decide +kernel
theorem dX0_init_36 : decode cX0_init 36 = .ok (.return_, 1) := by decide +kernel
theorem wd_X0_init_0 : Cond.methodLink RX0 5 objectInit ∈ wsX0_init := by decide +kernel
theorem wd_X0_init_1 : Cond.instanceMethod objectInit ∈ wsX0_init := by decide +kernel
theorem wd_X0_init_2 : Cond.code objectInit ⟨#[0xb1]⟩ 1 none ∈ wsX0_init := by decide +kernel
theorem wd_X0_init_3 : Cond.arrayClass .int ∈ wsX0_init := by decide +kernel
theorem in_X0_init_Arranging : ∀ w ∈ u_ws RX0 TX0 7, w ∈ wsX0_init := by decide +kernel
theorem wd_X0_init_5 : Cond.fieldLink RX0 11 (TX0 3).1 (TX0 3).2.1 (TX0 3).2.2.1 ∈ wsX0_init := by decide +kernel
theorem wd_X0_init_6 : Cond.fieldLink RX0 15 (TX0 4).1 (TX0 4).2.1 (TX0 4).2.2.1 ∈ wsX0_init := by decide +kernel
theorem wd_X0_init_7 : Cond.fieldLink RX0 18 (TX0 5).1 (TX0 5).2.1 (TX0 5).2.2.1 ∈ wsX0_init := by decide +kernel
theorem wd_X0_init_8 : Cond.fieldLink RX0 21 (TX0 6).1 (TX0 6).2.1 (TX0 6).2.2.1 ∈ wsX0_init := by decide +kernel
def r_X0_init : Room := { frames := 2, cells := 4, slots := 88, locals := 12 }
def mk_Arranging (cid : Nat → ClassId) (ad : Nat → Nat) : va_W := [((ad 0), .inr (0, [.int 0, .int 0, .int 0, .ref (ad 1), .ref (ad 2), .ref (ad 3), .ref (ad 4)])), ((ad 1), .inl (cid 0, 8, .inl (fun _ => 0))), ((ad 2), .inl (cid 0, 64, .inl (fun _ => 0))), ((ad 3), .inl (cid 0, 8, .inl (fun _ => 0))), ((ad 4), .inl (cid 0, 8, .inl (fun _ => 0)))]
set_option maxRecDepth 100000 in
set_option maxHeartbeats 4000000 in
theorem c_X0_init {l : Launch} {D : va_G} {cid : Nat → ClassId}  : CtI l yX0_init wsX0_init r_X0_init D cid (.inr (0, [.int 0, .int 0, .int 0, .null, .null, .null, .null])) (mk_Arranging cid) := by
  refine CtI_of (by decide) rfl rfl (Nat.le_of_ble_eq_true rfl) (fun K h0 hE hl hk hin hao hq => ?_)
  obtain rfl : eD (kZ K) = D := by rw [hE]; rfl
  obtain rfl : eC (kZ K) = cid := by rw [hE]; rfl
  obtain rfl : eA (kZ K) 0 = h0 := by rw [hE]; rfl
  subst hl
  refine V_aload_n hk 0 dX0_init_0 rfl rfl ?_
  refine V_obj hk ⟨wd_X0_init_0, wd_X0_init_1, wd_X0_init_2⟩ ⟨Nat.le_of_ble_eq_true rfl, Nat.le_of_ble_eq_true rfl⟩ dX0_init_1 ?_
  refine V_aload_n hk 0 dX0_init_4 rfl rfl ?_
  refine V_bipush hk dX0_init_5 zc_bipush_8 ?_
  refine V_newI hk (N := 8) wd_X0_init_3 (by decide) (by decide +kernel) (Nat.le_of_ble_eq_true rfl) ⟨Nat.le_of_ble_eq_true rfl, Nat.le_of_ble_eq_true rfl⟩ dX0_init_7 (fun q0 => ?_)
  refine V_putF hk hin in_X0_init_Arranging tyX0 tok_TX0 tnm_TX0 rfl 0 rfl 3 (by decide) wd_X0_init_5 rfl rfl (tok_TX0 3 (by decide)) rfl rfl (Nat.le_of_ble_eq_true rfl) (ws' := [(eA (kZ K) 0, .inr (0, [.int 0, .int 0, .int 0, .ref q0, .null, .null, .null])), (q0, .inl (eC (kZ K) 0, 8, .inl (fun _ => 0)))]) rfl dX0_init_9 ?_
  refine V_aload_n hk 0 dX0_init_12 rfl rfl ?_
  refine V_bipush hk dX0_init_13 zc_bipush_64 ?_
  refine V_newI hk (N := 64) wd_X0_init_3 (by decide) (by decide +kernel) (Nat.le_of_ble_eq_true rfl) ⟨Nat.le_of_ble_eq_true rfl, Nat.le_of_ble_eq_true rfl⟩ dX0_init_15 (fun q1 => ?_)
  refine V_putF hk hin in_X0_init_Arranging tyX0 tok_TX0 tnm_TX0 rfl 0 rfl 4 (by decide) wd_X0_init_6 rfl rfl (tok_TX0 4 (by decide)) rfl rfl (Nat.le_of_ble_eq_true rfl) (ws' := [(eA (kZ K) 0, .inr (0, [.int 0, .int 0, .int 0, .ref q0, .ref q1, .null, .null])), (q0, .inl (eC (kZ K) 0, 8, .inl (fun _ => 0))), (q1, .inl (eC (kZ K) 0, 64, .inl (fun _ => 0)))]) rfl dX0_init_17 ?_
  refine V_aload_n hk 0 dX0_init_20 rfl rfl ?_
  refine V_bipush hk dX0_init_21 zc_bipush_8 ?_
  refine V_newI hk (N := 8) wd_X0_init_3 (by decide) (by decide +kernel) (Nat.le_of_ble_eq_true rfl) ⟨Nat.le_of_ble_eq_true rfl, Nat.le_of_ble_eq_true rfl⟩ dX0_init_23 (fun q2 => ?_)
  refine V_putF hk hin in_X0_init_Arranging tyX0 tok_TX0 tnm_TX0 rfl 0 rfl 5 (by decide) wd_X0_init_7 rfl rfl (tok_TX0 5 (by decide)) rfl rfl (Nat.le_of_ble_eq_true rfl) (ws' := [(eA (kZ K) 0, .inr (0, [.int 0, .int 0, .int 0, .ref q0, .ref q1, .ref q2, .null])), (q0, .inl (eC (kZ K) 0, 8, .inl (fun _ => 0))), (q1, .inl (eC (kZ K) 0, 64, .inl (fun _ => 0))), (q2, .inl (eC (kZ K) 0, 8, .inl (fun _ => 0)))]) rfl dX0_init_25 ?_
  refine V_aload_n hk 0 dX0_init_28 rfl rfl ?_
  refine V_bipush hk dX0_init_29 zc_bipush_8 ?_
  refine V_newI hk (N := 8) wd_X0_init_3 (by decide) (by decide +kernel) (Nat.le_of_ble_eq_true rfl) ⟨Nat.le_of_ble_eq_true rfl, Nat.le_of_ble_eq_true rfl⟩ dX0_init_31 (fun q3 => ?_)
  refine V_putF hk hin in_X0_init_Arranging tyX0 tok_TX0 tnm_TX0 rfl 0 rfl 6 (by decide) wd_X0_init_8 rfl rfl (tok_TX0 6 (by decide)) rfl rfl (Nat.le_of_ble_eq_true rfl) (ws' := [(eA (kZ K) 0, .inr (0, [.int 0, .int 0, .int 0, .ref q0, .ref q1, .ref q2, .ref q3])), (q0, .inl (eC (kZ K) 0, 8, .inl (fun _ => 0))), (q1, .inl (eC (kZ K) 0, 64, .inl (fun _ => 0))), (q2, .inl (eC (kZ K) 0, 8, .inl (fun _ => 0))), (q3, .inl (eC (kZ K) 0, 8, .inl (fun _ => 0)))]) rfl dX0_init_33 ?_
  exact V_ret hk hq (fun j => ([eA (kZ K) 0, q0, q1, q2, q3] : List Nat).getD j 0) rfl rfl ⟨Nat.le_of_ble_eq_true rfl, Nat.le_of_ble_eq_true rfl⟩ dX0_init_36
end

-- CanonCote$Mapping.<init>
section
theorem dX4_init_0 : decode cX4_init 0 = .ok (.aload_n 0, 1) := by decide +kernel
theorem dX4_init_1 : decode cX4_init 1 = .ok (.invokespecial 3, 3) := by decide +kernel
theorem dX4_init_4 : decode cX4_init 4 = .ok (.aload_n 0, 1) := by decide +kernel
theorem dX4_init_5 : decode cX4_init 5 = .ok (.bipush 8, 2) := by decide +kernel
theorem dX4_init_7 : decode cX4_init 7 = .ok (.newarray .int, 2) := by decide +kernel
theorem dX4_init_9 : decode cX4_init 9 = .ok (.putfield 9, 3) := by decide +kernel
theorem dX4_init_12 : decode cX4_init 12 = .ok (.aload_n 0, 1) := by decide +kernel
theorem dX4_init_13 : decode cX4_init 13 = .ok (.new 15, 3) := by decide +kernel
theorem dX4_init_16 : decode cX4_init 16 = .ok (.dup, 1) := by decide +kernel
theorem dX4_init_17 : decode cX4_init 17 = .ok (.invokespecial 17, 3) := by decide +kernel
theorem dX4_init_20 : decode cX4_init 20 = .ok (.putfield 18, 3) := by decide +kernel
theorem dX4_init_23 : decode cX4_init 23 = .ok (.aload_n 0, 1) := by decide +kernel
theorem dX4_init_24 : decode cX4_init 24 = .ok (.new 15, 3) := by decide +kernel
theorem dX4_init_27 : decode cX4_init 27 = .ok (.dup, 1) := by decide +kernel
theorem dX4_init_28 : decode cX4_init 28 = .ok (.invokespecial 17, 3) := by decide +kernel
theorem dX4_init_31 : decode cX4_init 31 = .ok (.putfield 22, 3) := by decide +kernel
theorem dX4_init_34 : decode cX4_init 34 = .ok (.return_, 1) := by decide +kernel
set_option maxRecDepth 20000 in
theorem ggX4_init_X6_init : GoodIn wsX4_init wsX6_init := goodIn_r _ [12, 13, 2, 3, 4, 14, 15, 16, 17, 21, 22, 23, 24, 25] (by decide +kernel) (by decide +kernel)
set_option maxRecDepth 20000 in
theorem gX4_init_X6_init_n17 : GoodIn wsX4_init (wsX6_init) := ggX4_init_X6_init
theorem wd_X4_init_0 : Cond.methodLink RX4 3 objectInit ∈ wsX4_init := by decide +kernel
theorem wd_X4_init_1 : Cond.instanceMethod objectInit ∈ wsX4_init := by decide +kernel
theorem wd_X4_init_2 : Cond.code objectInit ⟨#[0xb1]⟩ 1 none ∈ wsX4_init := by decide +kernel
theorem wd_X4_init_3 : Cond.arrayClass .int ∈ wsX4_init := by decide +kernel
theorem in_X4_init_Mapping : ∀ w ∈ u_ws RX4 TX4 3, w ∈ wsX4_init := by decide +kernel
theorem wd_X4_init_5 : Cond.fieldLink RX4 9 (TX4 0).1 (TX4 0).2.1 (TX4 0).2.2.1 ∈ wsX4_init := by decide +kernel
theorem in_X4_init_Refinement : ∀ w ∈ u_ws RX6 TX6 5, w ∈ wsX4_init := by decide +kernel
theorem wd_X4_init_7 : Cond.classLink RX4 15 RX6 ∈ wsX4_init := by decide +kernel
theorem wd_X4_init_8 : Cond.instantiable RX6 5 ∈ wsX4_init := by decide +kernel
theorem wd_X4_init_9 : Cond.initialized RX6 ∈ wsX4_init := by decide +kernel
theorem wd_X4_init_10 : Cond.initialized yX6_init.cls ∈ wsX4_init := by decide +kernel
theorem wd_X4_init_11 : Cond.instanceMethod yX6_init ∈ wsX4_init := by decide +kernel
theorem wd_X4_init_12 : Cond.fieldLink RX4 18 (TX4 1).1 (TX4 1).2.1 (TX4 1).2.2.1 ∈ wsX4_init := by decide +kernel
theorem wd_X4_init_13 : Cond.fieldLink RX4 22 (TX4 2).1 (TX4 2).2.1 (TX4 2).2.2.1 ∈ wsX4_init := by decide +kernel
def r_X4_init : Room := { frames := 3, cells := 9, slots := 66, locals := 32 }
def mk_Mapping (cid : Nat → ClassId) (ad : Nat → Nat) : va_W := [((ad 0), .inr (4, [.ref (ad 1), .ref (ad 2), .ref (ad 6)])), ((ad 1), .inl (cid 0, 8, .inl (fun _ => 0))), ((ad 2), .inr (5, [.int 0, .int 0, .ref (ad 3), .ref (ad 4), .ref (ad 5)])), ((ad 3), .inl (cid 0, 8, .inl (fun _ => 0))), ((ad 4), .inl (cid 0, 8, .inl (fun _ => 0))), ((ad 5), .inl (cid 1, 8, .inr (.inl (fun _ => 0)))), ((ad 6), .inr (5, [.int 0, .int 0, .ref (ad 7), .ref (ad 8), .ref (ad 9)])), ((ad 7), .inl (cid 0, 8, .inl (fun _ => 0))), ((ad 8), .inl (cid 0, 8, .inl (fun _ => 0))), ((ad 9), .inl (cid 1, 8, .inr (.inl (fun _ => 0))))]
set_option maxRecDepth 100000 in
set_option maxHeartbeats 4000000 in
theorem c_X4_init {l : Launch} {D : va_G} {cid : Nat → ClassId}  : CtI l yX4_init wsX4_init r_X4_init D cid (.inr (4, [.null, .null, .null])) (mk_Mapping cid) := by
  refine CtI_of (by decide) rfl rfl (Nat.le_of_ble_eq_true rfl) (fun K h0 hE hl hk hin hao hq => ?_)
  obtain rfl : eD (kZ K) = D := by rw [hE]; rfl
  obtain rfl : eC (kZ K) = cid := by rw [hE]; rfl
  obtain rfl : eA (kZ K) 0 = h0 := by rw [hE]; rfl
  subst hl
  refine V_aload_n hk 0 dX4_init_0 rfl rfl ?_
  refine V_obj hk ⟨wd_X4_init_0, wd_X4_init_1, wd_X4_init_2⟩ ⟨Nat.le_of_ble_eq_true rfl, Nat.le_of_ble_eq_true rfl⟩ dX4_init_1 ?_
  refine V_aload_n hk 0 dX4_init_4 rfl rfl ?_
  refine V_bipush hk dX4_init_5 zc_bipush_8 ?_
  refine V_newI hk (N := 8) wd_X4_init_3 (by decide) (by decide +kernel) (Nat.le_of_ble_eq_true rfl) ⟨Nat.le_of_ble_eq_true rfl, Nat.le_of_ble_eq_true rfl⟩ dX4_init_7 (fun q0 => ?_)
  refine V_putF hk hin in_X4_init_Mapping tyX4 tok_TX4 tnm_TX4 rfl 0 rfl 0 (by decide) wd_X4_init_5 rfl rfl (tok_TX4 0 (by decide)) rfl rfl (Nat.le_of_ble_eq_true rfl) (ws' := [(eA (kZ K) 0, .inr (4, [.ref q0, .null, .null])), (q0, .inl (eC (kZ K) 0, 8, .inl (fun _ => 0)))]) rfl dX4_init_9 ?_
  refine V_aload_n hk 0 dX4_init_12 rfl rfl ?_
  refine V_new hk (ci := 5) tyX6 tok_TX6 in_X4_init_Refinement ⟨wd_X4_init_7, wd_X4_init_8, wd_X4_init_9⟩ rfl (fs := [.int 0, .int 0, .null, .null, .null]) (fun j hj => by rcases (show j = 0 ∨ j = 1 ∨ j = 2 ∨ j = 3 ∨ j = 4 by omega) with rfl | rfl | rfl | rfl | rfl <;> rfl) ⟨Nat.le_of_ble_eq_true rfl, Nat.le_of_ble_eq_true rfl⟩ dX4_init_13 (fun q1 => ?_)
  refine V_dup hk dX4_init_16 rfl ?_
  refine V_callI hk (c_X6_init (l := kL K)) hao gX4_init_X6_init_n17 nw_57 rfl ⟨wd_X4_init_10, wd_X4_init_11⟩ (by decide +kernel) rfl ⟨Nat.le_of_ble_eq_true rfl, Nat.le_of_ble_eq_true rfl⟩ (Nat.le_of_ble_eq_true rfl) ⟨Nat.le_of_ble_eq_true rfl, Nat.le_of_ble_eq_true rfl⟩ dX4_init_17 (fun d2 ha => ?_)
  subst ha
  show V K 5 37 20 [(0, .ref (eA (kZ K) 0))] [.ref (d2 0), .ref (eA (kZ K) 0)] ([(eA (kZ K) 0, .inr (4, [.ref q0, .null, .null])), (q0, .inl (eC (kZ K) 0, 8, .inl (fun _ => 0))), ((d2 0), .inr (5, [.int 0, .int 0, .ref (d2 1), .ref (d2 2), .ref (d2 3)])), ((d2 1), .inl (eC (kZ K) 0, 8, .inl (fun _ => 0))), ((d2 2), .inl (eC (kZ K) 0, 8, .inl (fun _ => 0))), ((d2 3), .inl (eC (kZ K) 1, 8, .inr (.inl (fun _ => 0))))])
  refine V_putF hk hin in_X4_init_Mapping tyX4 tok_TX4 tnm_TX4 rfl 0 rfl 1 (by decide) wd_X4_init_12 rfl rfl (tok_TX4 1 (by decide)) rfl rfl (Nat.le_of_ble_eq_true rfl) (ws' := [(eA (kZ K) 0, .inr (4, [.ref q0, .ref (d2 0), .null])), (q0, .inl (eC (kZ K) 0, 8, .inl (fun _ => 0))), ((d2 0), .inr (5, [.int 0, .int 0, .ref (d2 1), .ref (d2 2), .ref (d2 3)])), ((d2 1), .inl (eC (kZ K) 0, 8, .inl (fun _ => 0))), ((d2 2), .inl (eC (kZ K) 0, 8, .inl (fun _ => 0))), ((d2 3), .inl (eC (kZ K) 1, 8, .inr (.inl (fun _ => 0))))]) rfl dX4_init_20 ?_
  refine V_aload_n hk 0 dX4_init_23 rfl rfl ?_
  refine V_new hk (ci := 5) tyX6 tok_TX6 in_X4_init_Refinement ⟨wd_X4_init_7, wd_X4_init_8, wd_X4_init_9⟩ rfl (fs := [.int 0, .int 0, .null, .null, .null]) (fun j hj => by rcases (show j = 0 ∨ j = 1 ∨ j = 2 ∨ j = 3 ∨ j = 4 by omega) with rfl | rfl | rfl | rfl | rfl <;> rfl) ⟨Nat.le_of_ble_eq_true rfl, Nat.le_of_ble_eq_true rfl⟩ dX4_init_24 (fun q3 => ?_)
  refine V_dup hk dX4_init_27 rfl ?_
  refine V_callI hk (c_X6_init (l := kL K)) hao gX4_init_X6_init_n17 nw_57 rfl ⟨wd_X4_init_10, wd_X4_init_11⟩ (by decide +kernel) rfl ⟨Nat.le_of_ble_eq_true rfl, Nat.le_of_ble_eq_true rfl⟩ (Nat.le_of_ble_eq_true rfl) ⟨Nat.le_of_ble_eq_true rfl, Nat.le_of_ble_eq_true rfl⟩ dX4_init_28 (fun d4 ha => ?_)
  subst ha
  show V K 9 66 31 [(0, .ref (eA (kZ K) 0))] [.ref (d4 0), .ref (eA (kZ K) 0)] ([(eA (kZ K) 0, .inr (4, [.ref q0, .ref (d2 0), .null])), (q0, .inl (eC (kZ K) 0, 8, .inl (fun _ => 0))), ((d2 0), .inr (5, [.int 0, .int 0, .ref (d2 1), .ref (d2 2), .ref (d2 3)])), ((d2 1), .inl (eC (kZ K) 0, 8, .inl (fun _ => 0))), ((d2 2), .inl (eC (kZ K) 0, 8, .inl (fun _ => 0))), ((d2 3), .inl (eC (kZ K) 1, 8, .inr (.inl (fun _ => 0)))), ((d4 0), .inr (5, [.int 0, .int 0, .ref (d4 1), .ref (d4 2), .ref (d4 3)])), ((d4 1), .inl (eC (kZ K) 0, 8, .inl (fun _ => 0))), ((d4 2), .inl (eC (kZ K) 0, 8, .inl (fun _ => 0))), ((d4 3), .inl (eC (kZ K) 1, 8, .inr (.inl (fun _ => 0))))])
  refine V_putF hk hin in_X4_init_Mapping tyX4 tok_TX4 tnm_TX4 rfl 0 rfl 2 (by decide) wd_X4_init_13 rfl rfl (tok_TX4 2 (by decide)) rfl rfl (Nat.le_of_ble_eq_true rfl) (ws' := [(eA (kZ K) 0, .inr (4, [.ref q0, .ref (d2 0), .ref (d4 0)])), (q0, .inl (eC (kZ K) 0, 8, .inl (fun _ => 0))), ((d2 0), .inr (5, [.int 0, .int 0, .ref (d2 1), .ref (d2 2), .ref (d2 3)])), ((d2 1), .inl (eC (kZ K) 0, 8, .inl (fun _ => 0))), ((d2 2), .inl (eC (kZ K) 0, 8, .inl (fun _ => 0))), ((d2 3), .inl (eC (kZ K) 1, 8, .inr (.inl (fun _ => 0)))), ((d4 0), .inr (5, [.int 0, .int 0, .ref (d4 1), .ref (d4 2), .ref (d4 3)])), ((d4 1), .inl (eC (kZ K) 0, 8, .inl (fun _ => 0))), ((d4 2), .inl (eC (kZ K) 0, 8, .inl (fun _ => 0))), ((d4 3), .inl (eC (kZ K) 1, 8, .inr (.inl (fun _ => 0))))]) rfl dX4_init_31 ?_
  exact V_ret hk hq (fun j => ([eA (kZ K) 0, q0, (d2 0), (d2 1), (d2 2), (d2 3), (d4 0), (d4 1), (d4 2), (d4 3)] : List Nat).getD j 0) rfl rfl ⟨Nat.le_of_ble_eq_true rfl, Nat.le_of_ble_eq_true rfl⟩ dX4_init_34
end

-- CanonCote$Chain.<init>
section
theorem dX1_init_0 : decode cX1_init 0 = .ok (.aload_n 0, 1) := by decide +kernel
theorem dX1_init_1 : decode cX1_init 1 = .ok (.invokespecial 3, 3) := by decide +kernel
theorem dX1_init_4 : decode cX1_init 4 = .ok (.aload_n 0, 1) := by decide +kernel
theorem dX1_init_5 : decode cX1_init 5 = .ok (.bipush 8, 2) := by decide +kernel
theorem dX1_init_7 : decode cX1_init 7 = .ok (.newarray .int, 2) := by decide +kernel
theorem dX1_init_9 : decode cX1_init 9 = .ok (.putfield 9, 3) := by decide +kernel
theorem dX1_init_12 : decode cX1_init 12 = .ok (.aload_n 0, 1) := by decide +kernel
theorem dX1_init_13 : decode cX1_init 13 = .ok (.bipush 28, 2) := by decide +kernel
theorem dX1_init_15 : decode cX1_init 15 = .ok (.newarray .long, 2) := by decide +kernel
theorem dX1_init_17 : decode cX1_init 17 = .ok (.putfield 15, 3) := by decide +kernel
theorem dX1_init_20 : decode cX1_init 20 = .ok (.aload_n 0, 1) := by decide +kernel
theorem dX1_init_21 : decode cX1_init 21 = .ok (.bipush 64, 2) := by decide +kernel
theorem dX1_init_23 : decode cX1_init 23 = .ok (.newarray .long, 2) := by decide +kernel
theorem dX1_init_25 : decode cX1_init 25 = .ok (.putfield 19, 3) := by decide +kernel
theorem dX1_init_28 : decode cX1_init 28 = .ok (.return_, 1) := by decide +kernel
theorem wd_X1_init_0 : Cond.methodLink RX1 3 objectInit ∈ wsX1_init := by decide +kernel
theorem wd_X1_init_1 : Cond.instanceMethod objectInit ∈ wsX1_init := by decide +kernel
theorem wd_X1_init_2 : Cond.code objectInit ⟨#[0xb1]⟩ 1 none ∈ wsX1_init := by decide +kernel
theorem wd_X1_init_3 : Cond.arrayClass .int ∈ wsX1_init := by decide +kernel
theorem in_X1_init_Chain : ∀ w ∈ u_ws RX1 TX1 6, w ∈ wsX1_init := by decide +kernel
theorem wd_X1_init_5 : Cond.fieldLink RX1 9 (TX1 3).1 (TX1 3).2.1 (TX1 3).2.2.1 ∈ wsX1_init := by decide +kernel
theorem wd_X1_init_6 : Cond.arrayClass .long ∈ wsX1_init := by decide +kernel
theorem wd_X1_init_7 : Cond.fieldLink RX1 15 (TX1 4).1 (TX1 4).2.1 (TX1 4).2.2.1 ∈ wsX1_init := by decide +kernel
theorem wd_X1_init_8 : Cond.fieldLink RX1 19 (TX1 5).1 (TX1 5).2.1 (TX1 5).2.2.1 ∈ wsX1_init := by decide +kernel
def r_X1_init : Room := { frames := 2, cells := 3, slots := 100, locals := 12 }
def mk_Chain (cid : Nat → ClassId) (ad : Nat → Nat) : va_W := [((ad 0), .inr (1, [.int 0, .int 0, .int 0, .ref (ad 1), .ref (ad 2), .ref (ad 3)])), ((ad 1), .inl (cid 0, 8, .inl (fun _ => 0))), ((ad 2), .inl (cid 1, 28, .inr (.inl (fun _ => 0)))), ((ad 3), .inl (cid 1, 64, .inr (.inl (fun _ => 0))))]
set_option maxRecDepth 100000 in
set_option maxHeartbeats 4000000 in
theorem c_X1_init {l : Launch} {D : va_G} {cid : Nat → ClassId}  : CtI l yX1_init wsX1_init r_X1_init D cid (.inr (1, [.int 0, .int 0, .int 0, .null, .null, .null])) (mk_Chain cid) := by
  refine CtI_of (by decide) rfl rfl (Nat.le_of_ble_eq_true rfl) (fun K h0 hE hl hk hin hao hq => ?_)
  obtain rfl : eD (kZ K) = D := by rw [hE]; rfl
  obtain rfl : eC (kZ K) = cid := by rw [hE]; rfl
  obtain rfl : eA (kZ K) 0 = h0 := by rw [hE]; rfl
  subst hl
  refine V_aload_n hk 0 dX1_init_0 rfl rfl ?_
  refine V_obj hk ⟨wd_X1_init_0, wd_X1_init_1, wd_X1_init_2⟩ ⟨Nat.le_of_ble_eq_true rfl, Nat.le_of_ble_eq_true rfl⟩ dX1_init_1 ?_
  refine V_aload_n hk 0 dX1_init_4 rfl rfl ?_
  refine V_bipush hk dX1_init_5 zc_bipush_8 ?_
  refine V_newI hk (N := 8) wd_X1_init_3 (by decide) (by decide +kernel) (Nat.le_of_ble_eq_true rfl) ⟨Nat.le_of_ble_eq_true rfl, Nat.le_of_ble_eq_true rfl⟩ dX1_init_7 (fun q0 => ?_)
  refine V_putF hk hin in_X1_init_Chain tyX1 tok_TX1 tnm_TX1 rfl 0 rfl 3 (by decide) wd_X1_init_5 rfl rfl (tok_TX1 3 (by decide)) rfl rfl (Nat.le_of_ble_eq_true rfl) (ws' := [(eA (kZ K) 0, .inr (1, [.int 0, .int 0, .int 0, .ref q0, .null, .null])), (q0, .inl (eC (kZ K) 0, 8, .inl (fun _ => 0)))]) rfl dX1_init_9 ?_
  refine V_aload_n hk 0 dX1_init_12 rfl rfl ?_
  refine V_bipush hk dX1_init_13 zc_bipush_28 ?_
  refine V_newJ hk (N := 28) wd_X1_init_6 (by decide) (by decide +kernel) (Nat.le_of_ble_eq_true rfl) ⟨Nat.le_of_ble_eq_true rfl, Nat.le_of_ble_eq_true rfl⟩ dX1_init_15 (fun q1 => ?_)
  refine V_putF hk hin in_X1_init_Chain tyX1 tok_TX1 tnm_TX1 rfl 0 rfl 4 (by decide) wd_X1_init_7 rfl rfl (tok_TX1 4 (by decide)) rfl rfl (Nat.le_of_ble_eq_true rfl) (ws' := [(eA (kZ K) 0, .inr (1, [.int 0, .int 0, .int 0, .ref q0, .ref q1, .null])), (q0, .inl (eC (kZ K) 0, 8, .inl (fun _ => 0))), (q1, .inl (eC (kZ K) 1, 28, .inr (.inl (fun _ => 0))))]) rfl dX1_init_17 ?_
  refine V_aload_n hk 0 dX1_init_20 rfl rfl ?_
  refine V_bipush hk dX1_init_21 zc_bipush_64 ?_
  refine V_newJ hk (N := 64) wd_X1_init_6 (by decide) (by decide +kernel) (Nat.le_of_ble_eq_true rfl) ⟨Nat.le_of_ble_eq_true rfl, Nat.le_of_ble_eq_true rfl⟩ dX1_init_23 (fun q2 => ?_)
  refine V_putF hk hin in_X1_init_Chain tyX1 tok_TX1 tnm_TX1 rfl 0 rfl 5 (by decide) wd_X1_init_8 rfl rfl (tok_TX1 5 (by decide)) rfl rfl (Nat.le_of_ble_eq_true rfl) (ws' := [(eA (kZ K) 0, .inr (1, [.int 0, .int 0, .int 0, .ref q0, .ref q1, .ref q2])), (q0, .inl (eC (kZ K) 0, 8, .inl (fun _ => 0))), (q1, .inl (eC (kZ K) 1, 28, .inr (.inl (fun _ => 0)))), (q2, .inl (eC (kZ K) 1, 64, .inr (.inl (fun _ => 0))))]) rfl dX1_init_25 ?_
  exact V_ret hk hq (fun j => ([eA (kZ K) 0, q0, q1, q2] : List Nat).getD j 0) rfl rfl ⟨Nat.le_of_ble_eq_true rfl, Nat.le_of_ble_eq_true rfl⟩ dX1_init_28
end

-- CanonCote$Group.<init>
section
theorem dX3_init_0 : decode cX3_init 0 = .ok (.aload_n 0, 1) := by decide +kernel
theorem dX3_init_1 : decode cX3_init 1 = .ok (.invokespecial 3, 3) := by decide +kernel
theorem dX3_init_4 : decode cX3_init 4 = .ok (.aload_n 0, 1) := by decide +kernel
theorem dX3_init_5 : decode cX3_init 5 = .ok (.bipush 6, 2) := by decide +kernel
theorem dX3_init_7 : decode cX3_init 7 = .ok (.newarray .long, 2) := by decide +kernel
theorem dX3_init_9 : decode cX3_init 9 = .ok (.putfield 9, 3) := by decide +kernel
theorem dX3_init_12 : decode cX3_init 12 = .ok (.aload_n 0, 1) := by decide +kernel
theorem dX3_init_13 : decode cX3_init 13 = .ok (.new 15, 3) := by decide +kernel
theorem dX3_init_16 : decode cX3_init 16 = .ok (.dup, 1) := by decide +kernel
theorem dX3_init_17 : decode cX3_init 17 = .ok (.invokespecial 17, 3) := by decide +kernel
theorem dX3_init_20 : decode cX3_init 20 = .ok (.putfield 18, 3) := by decide +kernel
theorem dX3_init_23 : decode cX3_init 23 = .ok (.aload_n 0, 1) := by decide +kernel
theorem dX3_init_24 : decode cX3_init 24 = .ok (.new 15, 3) := by decide +kernel
theorem dX3_init_27 : decode cX3_init 27 = .ok (.dup, 1) := by decide +kernel
theorem dX3_init_28 : decode cX3_init 28 = .ok (.invokespecial 17, 3) := by decide +kernel
theorem dX3_init_31 : decode cX3_init 31 = .ok (.putfield 22, 3) := by decide +kernel
theorem dX3_init_34 : decode cX3_init 34 = .ok (.aload_n 0, 1) := by decide +kernel
theorem dX3_init_35 : decode cX3_init 35 = .ok (.invokevirtual 25, 3) := by decide +kernel
theorem dX3_init_38 : decode cX3_init 38 = .ok (.return_, 1) := by decide +kernel
set_option maxRecDepth 20000 in
theorem ggX3_init_X1_init : GoodIn wsX3_init wsX1_init := goodIn_r _ [12, 13, 2, 3, 14, 15, 4, 16, 17, 49, 50, 51, 52, 53, 54] (by decide +kernel) (by decide +kernel)
set_option maxRecDepth 20000 in
theorem gX3_init_X1_init_n17 : GoodIn wsX3_init (wsX1_init) := ggX3_init_X1_init
set_option maxRecDepth 20000 in
theorem ggX3_init_X3_clear : GoodIn wsX3_init wsX3_clear := goodIn_r _ [22, 23, 9, 24, 8, 25, 26, 27, 28, 17, 15, 29, 30, 31, 32, 33, 34, 35, 36, 37, 38, 39, 40, 41, 42, 43, 44, 45, 46, 47, 48, 49, 50, 51, 52, 53, 54] (by decide +kernel) (by decide +kernel)
set_option maxRecDepth 20000 in
theorem gX3_init_X3_clear : GoodIn wsX3_init (wsV RX3 25 RX3 yX3_clear wsX3_clear) := goodIn_app (goodIn_of _ (by decide +kernel)) ggX3_init_X3_clear
theorem wd_X3_init_0 : Cond.methodLink RX3 3 objectInit ∈ wsX3_init := by decide +kernel
theorem wd_X3_init_1 : Cond.instanceMethod objectInit ∈ wsX3_init := by decide +kernel
theorem wd_X3_init_2 : Cond.code objectInit ⟨#[0xb1]⟩ 1 none ∈ wsX3_init := by decide +kernel
theorem wd_X3_init_3 : Cond.arrayClass .long ∈ wsX3_init := by decide +kernel
theorem in_X3_init_Group : ∀ w ∈ u_ws RX3 TX3 4, w ∈ wsX3_init := by decide +kernel
theorem wd_X3_init_5 : Cond.fieldLink RX3 9 (TX3 1).1 (TX3 1).2.1 (TX3 1).2.2.1 ∈ wsX3_init := by decide +kernel
theorem in_X3_init_Chain : ∀ w ∈ u_ws RX1 TX1 6, w ∈ wsX3_init := by decide +kernel
theorem wd_X3_init_7 : Cond.classLink RX3 15 RX1 ∈ wsX3_init := by decide +kernel
theorem wd_X3_init_8 : Cond.instantiable RX1 6 ∈ wsX3_init := by decide +kernel
theorem wd_X3_init_9 : Cond.initialized RX1 ∈ wsX3_init := by decide +kernel
theorem wd_X3_init_10 : Cond.initialized yX1_init.cls ∈ wsX3_init := by decide +kernel
theorem wd_X3_init_11 : Cond.instanceMethod yX1_init ∈ wsX3_init := by decide +kernel
theorem wd_X3_init_12 : Cond.fieldLink RX3 18 (TX3 2).1 (TX3 2).2.1 (TX3 2).2.2.1 ∈ wsX3_init := by decide +kernel
theorem wd_X3_init_13 : Cond.fieldLink RX3 22 (TX3 3).1 (TX3 3).2.1 (TX3 3).2.2.1 ∈ wsX3_init := by decide +kernel
def r_X3_init : Room := { frames := 4, cells := 9, slots := 218, locals := 81 }
def mk_Group (τ : zST) (D : va_G) (cid : Nat → ClassId) (ad : Nat → Nat) : va_W := wd (zGroup D cid ad) τ
set_option maxRecDepth 100000 in
set_option maxHeartbeats 4000000 in
theorem c_X3_init {l : Launch} {D : va_G} {cid : Nat → ClassId} {F : Nat} {τ : zST} (hτ : m_X3_clear F 0 s0_Group = some τ) : CtI l yX3_init wsX3_init r_X3_init D cid (.inr (3, [.int 0, .null, .null, .null])) (mk_Group τ D cid) := by
  refine CtI_of (by decide) rfl rfl (Nat.le_of_ble_eq_true rfl) (fun K h0 hE hl hk hin hao hq => ?_)
  obtain rfl : eD (kZ K) = D := by rw [hE]; rfl
  obtain rfl : eC (kZ K) = cid := by rw [hE]; rfl
  obtain rfl : eA (kZ K) 0 = h0 := by rw [hE]; rfl
  subst hl
  refine V_aload_n hk 0 dX3_init_0 rfl rfl ?_
  refine V_obj hk ⟨wd_X3_init_0, wd_X3_init_1, wd_X3_init_2⟩ ⟨Nat.le_of_ble_eq_true rfl, Nat.le_of_ble_eq_true rfl⟩ dX3_init_1 ?_
  refine V_aload_n hk 0 dX3_init_4 rfl rfl ?_
  refine V_bipush hk dX3_init_5 zc_bipush_6 ?_
  refine V_newJ hk (N := 6) wd_X3_init_3 (by decide) (by decide +kernel) (Nat.le_of_ble_eq_true rfl) ⟨Nat.le_of_ble_eq_true rfl, Nat.le_of_ble_eq_true rfl⟩ dX3_init_7 (fun q0 => ?_)
  refine V_putF hk hin in_X3_init_Group tyX3 tok_TX3 tnm_TX3 rfl 0 rfl 1 (by decide) wd_X3_init_5 rfl rfl (tok_TX3 1 (by decide)) rfl rfl (Nat.le_of_ble_eq_true rfl) (ws' := [(eA (kZ K) 0, .inr (3, [.int 0, .ref q0, .null, .null])), (q0, .inl (eC (kZ K) 1, 6, .inr (.inl (fun _ => 0))))]) rfl dX3_init_9 ?_
  refine V_aload_n hk 0 dX3_init_12 rfl rfl ?_
  refine V_new hk (ci := 1) tyX1 tok_TX1 in_X3_init_Chain ⟨wd_X3_init_7, wd_X3_init_8, wd_X3_init_9⟩ rfl (fs := [.int 0, .int 0, .int 0, .null, .null, .null]) (fun j hj => by rcases (show j = 0 ∨ j = 1 ∨ j = 2 ∨ j = 3 ∨ j = 4 ∨ j = 5 by omega) with rfl | rfl | rfl | rfl | rfl | rfl <;> rfl) ⟨Nat.le_of_ble_eq_true rfl, Nat.le_of_ble_eq_true rfl⟩ dX3_init_13 (fun q1 => ?_)
  refine V_dup hk dX3_init_16 rfl ?_
  refine V_callI hk (c_X1_init (l := kL K)) hao gX3_init_X1_init_n17 nw_58 rfl ⟨wd_X3_init_10, wd_X3_init_11⟩ (by decide +kernel) rfl ⟨Nat.le_of_ble_eq_true rfl, Nat.le_of_ble_eq_true rfl⟩ (Nat.le_of_ble_eq_true rfl) ⟨Nat.le_of_ble_eq_true rfl, Nat.le_of_ble_eq_true rfl⟩ dX3_init_17 (fun d2 ha => ?_)
  subst ha
  show V K 5 112 20 [(0, .ref (eA (kZ K) 0))] [.ref (d2 0), .ref (eA (kZ K) 0)] ([(eA (kZ K) 0, .inr (3, [.int 0, .ref q0, .null, .null])), (q0, .inl (eC (kZ K) 1, 6, .inr (.inl (fun _ => 0)))), ((d2 0), .inr (1, [.int 0, .int 0, .int 0, .ref (d2 1), .ref (d2 2), .ref (d2 3)])), ((d2 1), .inl (eC (kZ K) 0, 8, .inl (fun _ => 0))), ((d2 2), .inl (eC (kZ K) 1, 28, .inr (.inl (fun _ => 0)))), ((d2 3), .inl (eC (kZ K) 1, 64, .inr (.inl (fun _ => 0))))])
  refine V_putF hk hin in_X3_init_Group tyX3 tok_TX3 tnm_TX3 rfl 0 rfl 2 (by decide) wd_X3_init_12 rfl rfl (tok_TX3 2 (by decide)) rfl rfl (Nat.le_of_ble_eq_true rfl) (ws' := [(eA (kZ K) 0, .inr (3, [.int 0, .ref q0, .ref (d2 0), .null])), (q0, .inl (eC (kZ K) 1, 6, .inr (.inl (fun _ => 0)))), ((d2 0), .inr (1, [.int 0, .int 0, .int 0, .ref (d2 1), .ref (d2 2), .ref (d2 3)])), ((d2 1), .inl (eC (kZ K) 0, 8, .inl (fun _ => 0))), ((d2 2), .inl (eC (kZ K) 1, 28, .inr (.inl (fun _ => 0)))), ((d2 3), .inl (eC (kZ K) 1, 64, .inr (.inl (fun _ => 0))))]) rfl dX3_init_20 ?_
  refine V_aload_n hk 0 dX3_init_23 rfl rfl ?_
  refine V_new hk (ci := 1) tyX1 tok_TX1 in_X3_init_Chain ⟨wd_X3_init_7, wd_X3_init_8, wd_X3_init_9⟩ rfl (fs := [.int 0, .int 0, .int 0, .null, .null, .null]) (fun j hj => by rcases (show j = 0 ∨ j = 1 ∨ j = 2 ∨ j = 3 ∨ j = 4 ∨ j = 5 by omega) with rfl | rfl | rfl | rfl | rfl | rfl <;> rfl) ⟨Nat.le_of_ble_eq_true rfl, Nat.le_of_ble_eq_true rfl⟩ dX3_init_24 (fun q3 => ?_)
  refine V_dup hk dX3_init_27 rfl ?_
  refine V_callI hk (c_X1_init (l := kL K)) hao gX3_init_X1_init_n17 nw_58 rfl ⟨wd_X3_init_10, wd_X3_init_11⟩ (by decide +kernel) rfl ⟨Nat.le_of_ble_eq_true rfl, Nat.le_of_ble_eq_true rfl⟩ (Nat.le_of_ble_eq_true rfl) ⟨Nat.le_of_ble_eq_true rfl, Nat.le_of_ble_eq_true rfl⟩ dX3_init_28 (fun d4 ha => ?_)
  subst ha
  show V K 9 218 31 [(0, .ref (eA (kZ K) 0))] [.ref (d4 0), .ref (eA (kZ K) 0)] ([(eA (kZ K) 0, .inr (3, [.int 0, .ref q0, .ref (d2 0), .null])), (q0, .inl (eC (kZ K) 1, 6, .inr (.inl (fun _ => 0)))), ((d2 0), .inr (1, [.int 0, .int 0, .int 0, .ref (d2 1), .ref (d2 2), .ref (d2 3)])), ((d2 1), .inl (eC (kZ K) 0, 8, .inl (fun _ => 0))), ((d2 2), .inl (eC (kZ K) 1, 28, .inr (.inl (fun _ => 0)))), ((d2 3), .inl (eC (kZ K) 1, 64, .inr (.inl (fun _ => 0)))), ((d4 0), .inr (1, [.int 0, .int 0, .int 0, .ref (d4 1), .ref (d4 2), .ref (d4 3)])), ((d4 1), .inl (eC (kZ K) 0, 8, .inl (fun _ => 0))), ((d4 2), .inl (eC (kZ K) 1, 28, .inr (.inl (fun _ => 0)))), ((d4 3), .inl (eC (kZ K) 1, 64, .inr (.inl (fun _ => 0))))])
  refine V_putF hk hin in_X3_init_Group tyX3 tok_TX3 tnm_TX3 rfl 0 rfl 3 (by decide) wd_X3_init_13 rfl rfl (tok_TX3 3 (by decide)) rfl rfl (Nat.le_of_ble_eq_true rfl) (ws' := [(eA (kZ K) 0, .inr (3, [.int 0, .ref q0, .ref (d2 0), .ref (d4 0)])), (q0, .inl (eC (kZ K) 1, 6, .inr (.inl (fun _ => 0)))), ((d2 0), .inr (1, [.int 0, .int 0, .int 0, .ref (d2 1), .ref (d2 2), .ref (d2 3)])), ((d2 1), .inl (eC (kZ K) 0, 8, .inl (fun _ => 0))), ((d2 2), .inl (eC (kZ K) 1, 28, .inr (.inl (fun _ => 0)))), ((d2 3), .inl (eC (kZ K) 1, 64, .inr (.inl (fun _ => 0)))), ((d4 0), .inr (1, [.int 0, .int 0, .int 0, .ref (d4 1), .ref (d4 2), .ref (d4 3)])), ((d4 1), .inl (eC (kZ K) 0, 8, .inl (fun _ => 0))), ((d4 2), .inl (eC (kZ K) 1, 28, .inr (.inl (fun _ => 0)))), ((d4 3), .inl (eC (kZ K) 1, 64, .inr (.inl (fun _ => 0))))]) rfl dX3_init_31 ?_
  refine V_aload_n hk 0 dX3_init_34 rfl rfl ?_
  refine V_callV 0 hk (E := zGroup (eD (kZ K)) (eC (kZ K)) (fun j => ([eA (kZ K) 0, q0, (d2 0), (d2 1), (d2 2), (d2 3), (d4 0), (d4 1), (d4 2), (d4 3)] : List Nat).getD j 0)) (σ := s0_Group) (τ := τ) (q := 0) (ws' := wd (zGroup (eD (kZ K)) (eC (kZ K)) (fun j => ([eA (kZ K) 0, q0, (d2 0), (d2 1), (d2 2), (d2 3), (d4 0), (d4 1), (d4 2), (d4 3)] : List Nat).getD j 0)) τ) rfl rfl rfl rfl (fun hJ => c_X3_clear (zGroup_L _ _ _) hJ F 0 (zGroup_at _ _ _) s0_Group hτ) gX3_init_X3_clear rfl ⟨rfl, rfl⟩ ⟨rfl, by decide +kernel, by decide +kernel, by decide +kernel⟩ ⟨Nat.le_of_ble_eq_true rfl, Nat.le_of_ble_eq_true rfl⟩ (Nat.le_of_ble_eq_true rfl) rfl rfl (Nat.le_of_ble_eq_true rfl) ⟨Nat.le_of_ble_eq_true rfl, Nat.le_of_ble_eq_true rfl⟩ dX3_init_35 ?_
  exact V_ret hk hq (fun j => ([eA (kZ K) 0, q0, (d2 0), (d2 1), (d2 2), (d2 3), (d4 0), (d4 1), (d4 2), (d4 3)] : List Nat).getD j 0) rfl rfl ⟨Nat.le_of_ble_eq_true rfl, Nat.le_of_ble_eq_true rfl⟩ dX3_init_38
end

-- CanonCote.<init>
section
theorem dX7_init_0 : decode cX7_init 0 = .ok (.aload_n 0, 1) := by decide +kernel
theorem dX7_init_1 : decode cX7_init 1 = .ok (.invokespecial 3, 3) := by decide +kernel
theorem dX7_init_4 : decode cX7_init 4 = .ok (.aload_n 0, 1) := by decide +kernel
theorem dX7_init_5 : decode cX7_init 5 = .ok (.iconst 4, 1) := by decide +kernel
theorem dX7_init_6 : decode cX7_init 6 = .ok (.anewarray 9, 3) := by decide +kernel
theorem dX7_init_9 : decode cX7_init 9 = .ok (.putfield 11, 3) := by decide +kernel
theorem dX7_init_12 : decode cX7_init 12 = .ok (.iconst 0, 1) := by decide +kernel
theorem dX7_init_13 : decode cX7_init 13 = .ok (.istore_n 1, 1) := by decide +kernel
theorem dX7_init_14 : decode cX7_init 14 = .ok (.iload_n 1, 1) := by decide +kernel
theorem dX7_init_15 : decode cX7_init 15 = .ok (.iconst 4, 1) := by decide +kernel
theorem dX7_init_16 : decode cX7_init 16 = .ok (.if_icmp .ge 22, 3) := by decide +kernel
theorem dX7_init_19 : decode cX7_init 19 = .ok (.aload_n 0, 1) := by decide +kernel
theorem dX7_init_20 : decode cX7_init 20 = .ok (.getfield 11, 3) := by decide +kernel
theorem dX7_init_23 : decode cX7_init 23 = .ok (.iload_n 1, 1) := by decide +kernel
theorem dX7_init_24 : decode cX7_init 24 = .ok (.new 9, 3) := by decide +kernel
theorem dX7_init_27 : decode cX7_init 27 = .ok (.dup, 1) := by decide +kernel
theorem dX7_init_28 : decode cX7_init 28 = .ok (.invokespecial 15, 3) := by decide +kernel
theorem dX7_init_31 : decode cX7_init 31 = .ok (.aastore, 1) := by decide +kernel
theorem dX7_init_32 : decode cX7_init 32 = .ok (.iinc 1 1, 3) := by decide +kernel
theorem dX7_init_35 : decode cX7_init 35 = .ok (.goto (-21), 3) := by decide +kernel
theorem dX7_init_38 : decode cX7_init 38 = .ok (.aload_n 0, 1) := by decide +kernel
theorem dX7_init_39 : decode cX7_init 39 = .ok (.new 9, 3) := by decide +kernel
theorem dX7_init_42 : decode cX7_init 42 = .ok (.dup, 1) := by decide +kernel
theorem dX7_init_43 : decode cX7_init 43 = .ok (.invokespecial 15, 3) := by decide +kernel
theorem dX7_init_46 : decode cX7_init 46 = .ok (.putfield 16, 3) := by decide +kernel
theorem dX7_init_49 : decode cX7_init 49 = .ok (.aload_n 0, 1) := by decide +kernel
theorem dX7_init_50 : decode cX7_init 50 = .ok (.new 20, 3) := by decide +kernel
theorem dX7_init_53 : decode cX7_init 53 = .ok (.dup, 1) := by decide +kernel
theorem dX7_init_54 : decode cX7_init 54 = .ok (.invokespecial 22, 3) := by decide +kernel
theorem dX7_init_57 : decode cX7_init 57 = .ok (.putfield 23, 3) := by decide +kernel
theorem dX7_init_60 : decode cX7_init 60 = .ok (.aload_n 0, 1) := by decide +kernel
theorem dX7_init_61 : decode cX7_init 61 = .ok (.new 27, 3) := by decide +kernel
theorem dX7_init_64 : decode cX7_init 64 = .ok (.dup, 1) := by decide +kernel
theorem dX7_init_65 : decode cX7_init 65 = .ok (.invokespecial 29, 3) := by decide +kernel
theorem dX7_init_68 : decode cX7_init 68 = .ok (.putfield 30, 3) := by decide +kernel
theorem dX7_init_71 : decode cX7_init 71 = .ok (.aload_n 0, 1) := by decide +kernel
theorem dX7_init_72 : decode cX7_init 72 = .ok (.new 34, 3) := by decide +kernel
theorem dX7_init_75 : decode cX7_init 75 = .ok (.dup, 1) := by decide +kernel
theorem dX7_init_76 : decode cX7_init 76 = .ok (.invokespecial 36, 3) := by decide +kernel
theorem dX7_init_79 : decode cX7_init 79 = .ok (.putfield 37, 3) := by decide +kernel
theorem dX7_init_82 : decode cX7_init 82 = .ok (.aload_n 0, 1) := by decide +kernel
theorem dX7_init_83 : decode cX7_init 83 = .ok (.new 41, 3) := by decide +kernel
theorem dX7_init_86 : decode cX7_init 86 = .ok (.dup, 1) := by decide +kernel
theorem dX7_init_87 : decode cX7_init 87 = .ok (.invokespecial 43, 3) := by decide +kernel
theorem dX7_init_90 : decode cX7_init 90 = .ok (.putfield 44, 3) := by decide +kernel
theorem dX7_init_93 : decode cX7_init 93 = .ok (.return_, 1) := by decide +kernel
set_option maxRecDepth 20000 in
theorem ggX7_init_X2_init : GoodIn wsX7_init wsX2_init := goodIn_r _ [26, 27, 2, 3, 28, 29, 30, 31, 100, 101, 102] (by decide +kernel) (by decide +kernel)
set_option maxRecDepth 20000 in
theorem gX7_init_X2_init_n15 : GoodIn wsX7_init (wsX2_init) := ggX7_init_X2_init
set_option maxRecDepth 20000 in
theorem ggX7_init_X6_init : GoodIn wsX7_init wsX6_init := goodIn_r _ [33, 34, 2, 3, 29, 35, 36, 37, 38, 103, 104, 105, 106, 107] (by decide +kernel) (by decide +kernel)
set_option maxRecDepth 20000 in
theorem gX7_init_X6_init_n22 : GoodIn wsX7_init (wsX6_init) := ggX7_init_X6_init
set_option maxRecDepth 20000 in
theorem ggX7_init_X0_init : GoodIn wsX7_init wsX0_init := goodIn_r _ [40, 41, 2, 3, 29, 42, 43, 44, 45, 108, 109, 110, 111, 112, 113, 114] (by decide +kernel) (by decide +kernel)
set_option maxRecDepth 20000 in
theorem gX7_init_X0_init_n29 : GoodIn wsX7_init (wsX0_init) := ggX7_init_X0_init
set_option maxRecDepth 20000 in
theorem ggX7_init_X4_init : GoodIn wsX7_init wsX4_init := goodIn_r _ [47, 48, 2, 3, 29, 49, 50, 10, 11, 51, 52, 32, 33, 34, 35, 36, 37, 38, 115, 116, 117, 103, 104, 105, 106, 107] (by decide +kernel) (by decide +kernel)
set_option maxRecDepth 20000 in
theorem gX7_init_X4_init_n36 : GoodIn wsX7_init (wsX4_init) := ggX7_init_X4_init
set_option maxRecDepth 20000 in
theorem ggX7_init_X3_init : GoodIn wsX7_init wsX3_init := goodIn_r _ [54, 55, 2, 3, 37, 56, 57, 58, 59, 60, 61, 62, 63, 64, 29, 65, 66, 67, 68, 69, 70, 23, 71, 72, 73, 74, 75, 76, 77, 78, 79, 80, 81, 82, 83, 84, 85, 86, 87, 88, 89, 90, 91, 92, 93, 118, 119, 120, 121, 122, 123, 124, 125, 126, 127] (by decide +kernel) (by decide +kernel)
set_option maxRecDepth 20000 in
theorem gX7_init_X3_init_n43 : GoodIn wsX7_init (wsX3_init) := ggX7_init_X3_init
theorem wd_X7_init_0 : Cond.methodLink RX7 3 objectInit ∈ wsX7_init := by decide +kernel
theorem wd_X7_init_1 : Cond.instanceMethod objectInit ∈ wsX7_init := by decide +kernel
theorem wd_X7_init_2 : Cond.code objectInit ⟨#[0xb1]⟩ 1 none ∈ wsX7_init := by decide +kernel
theorem wd_X7_init_3 : Cond.classLink RX7 9 "CanonCote$Graph" ∈ wsX7_init := by decide +kernel
theorem in_X7_init_CanonCote : ∀ w ∈ u_ws RX7 TX7 6, w ∈ wsX7_init := by decide +kernel
theorem wd_X7_init_5 : Cond.fieldLink RX7 11 (TX7 0).1 (TX7 0).2.1 (TX7 0).2.2.1 ∈ wsX7_init := by decide +kernel
theorem in_X7_init_Graph : ∀ w ∈ u_ws RX2 TX2 3, w ∈ wsX7_init := by decide +kernel
theorem wd_X7_init_7 : Cond.classLink RX7 9 RX2 ∈ wsX7_init := by decide +kernel
theorem wd_X7_init_8 : Cond.instantiable RX2 3 ∈ wsX7_init := by decide +kernel
theorem wd_X7_init_9 : Cond.initialized RX2 ∈ wsX7_init := by decide +kernel
theorem wd_X7_init_10 : Cond.initialized yX2_init.cls ∈ wsX7_init := by decide +kernel
theorem wd_X7_init_11 : Cond.instanceMethod yX2_init ∈ wsX7_init := by decide +kernel
theorem wd_X7_init_12 : Cond.fieldLink RX7 16 (TX7 1).1 (TX7 1).2.1 (TX7 1).2.2.1 ∈ wsX7_init := by decide +kernel
theorem in_X7_init_Refinement : ∀ w ∈ u_ws RX6 TX6 5, w ∈ wsX7_init := by decide +kernel
theorem wd_X7_init_14 : Cond.classLink RX7 20 RX6 ∈ wsX7_init := by decide +kernel
theorem wd_X7_init_15 : Cond.instantiable RX6 5 ∈ wsX7_init := by decide +kernel
theorem wd_X7_init_16 : Cond.initialized RX6 ∈ wsX7_init := by decide +kernel
theorem wd_X7_init_17 : Cond.initialized yX6_init.cls ∈ wsX7_init := by decide +kernel
theorem wd_X7_init_18 : Cond.instanceMethod yX6_init ∈ wsX7_init := by decide +kernel
theorem wd_X7_init_19 : Cond.fieldLink RX7 23 (TX7 2).1 (TX7 2).2.1 (TX7 2).2.2.1 ∈ wsX7_init := by decide +kernel
theorem in_X7_init_Arranging : ∀ w ∈ u_ws RX0 TX0 7, w ∈ wsX7_init := by decide +kernel
theorem wd_X7_init_21 : Cond.classLink RX7 27 RX0 ∈ wsX7_init := by decide +kernel
theorem wd_X7_init_22 : Cond.instantiable RX0 7 ∈ wsX7_init := by decide +kernel
theorem wd_X7_init_23 : Cond.initialized RX0 ∈ wsX7_init := by decide +kernel
theorem wd_X7_init_24 : Cond.initialized yX0_init.cls ∈ wsX7_init := by decide +kernel
theorem wd_X7_init_25 : Cond.instanceMethod yX0_init ∈ wsX7_init := by decide +kernel
theorem wd_X7_init_26 : Cond.fieldLink RX7 30 (TX7 3).1 (TX7 3).2.1 (TX7 3).2.2.1 ∈ wsX7_init := by decide +kernel
theorem in_X7_init_Mapping : ∀ w ∈ u_ws RX4 TX4 3, w ∈ wsX7_init := by decide +kernel
theorem wd_X7_init_28 : Cond.classLink RX7 34 RX4 ∈ wsX7_init := by decide +kernel
theorem wd_X7_init_29 : Cond.instantiable RX4 3 ∈ wsX7_init := by decide +kernel
theorem wd_X7_init_30 : Cond.initialized RX4 ∈ wsX7_init := by decide +kernel
theorem wd_X7_init_31 : Cond.initialized yX4_init.cls ∈ wsX7_init := by decide +kernel
theorem wd_X7_init_32 : Cond.instanceMethod yX4_init ∈ wsX7_init := by decide +kernel
theorem wd_X7_init_33 : Cond.fieldLink RX7 37 (TX7 4).1 (TX7 4).2.1 (TX7 4).2.2.1 ∈ wsX7_init := by decide +kernel
theorem in_X7_init_Group : ∀ w ∈ u_ws RX3 TX3 4, w ∈ wsX7_init := by decide +kernel
theorem wd_X7_init_35 : Cond.classLink RX7 41 RX3 ∈ wsX7_init := by decide +kernel
theorem wd_X7_init_36 : Cond.instantiable RX3 4 ∈ wsX7_init := by decide +kernel
theorem wd_X7_init_37 : Cond.initialized RX3 ∈ wsX7_init := by decide +kernel
theorem wd_X7_init_38 : Cond.initialized yX3_init.cls ∈ wsX7_init := by decide +kernel
theorem wd_X7_init_39 : Cond.instanceMethod yX3_init ∈ wsX7_init := by decide +kernel
theorem wd_X7_init_40 : Cond.fieldLink RX7 44 (TX7 5).1 (TX7 5).2.1 (TX7 5).2.2.1 ∈ wsX7_init := by decide +kernel
def r_X7_init : Room := { frames := 5, cells := 45, slots := 514, locals := 101 }
def mk_CanonCote (τ : zST) (cid : Nat → ClassId) (ad : Nat → Nat) : va_W := [((ad 0), .inr (6, [.ref (ad 1), .ref (ad 14), .ref (ad 17), .ref (ad 21), .ref (ad 26), .ref (ad 36)])), ((ad 1), .inl (cid 3, 4, .inr (.inr (.inr (.inr (va_up (va_up (va_up (va_up (fun _ => none) 0 (some (ad 2))) 1 (some (ad 5))) 2 (some (ad 8))) 3 (some (ad 11)))))))), ((ad 2), .inr (2, [.int 4, .ref (ad 3), .ref (ad 4)])), ((ad 3), .inl (cid 0, 8, .inl (fun _ => 0))), ((ad 4), .inl (cid 0, 8, .inl (fun _ => 0))), ((ad 5), .inr (2, [.int 4, .ref (ad 6), .ref (ad 7)])), ((ad 6), .inl (cid 0, 8, .inl (fun _ => 0))), ((ad 7), .inl (cid 0, 8, .inl (fun _ => 0))), ((ad 8), .inr (2, [.int 4, .ref (ad 9), .ref (ad 10)])), ((ad 9), .inl (cid 0, 8, .inl (fun _ => 0))), ((ad 10), .inl (cid 0, 8, .inl (fun _ => 0))), ((ad 11), .inr (2, [.int 4, .ref (ad 12), .ref (ad 13)])), ((ad 12), .inl (cid 0, 8, .inl (fun _ => 0))), ((ad 13), .inl (cid 0, 8, .inl (fun _ => 0))), ((ad 14), .inr (2, [.int 4, .ref (ad 15), .ref (ad 16)])), ((ad 15), .inl (cid 0, 8, .inl (fun _ => 0))), ((ad 16), .inl (cid 0, 8, .inl (fun _ => 0))), ((ad 17), .inr (5, [.int 0, .int 0, .ref (ad 18), .ref (ad 19), .ref (ad 20)])), ((ad 18), .inl (cid 0, 8, .inl (fun _ => 0))), ((ad 19), .inl (cid 0, 8, .inl (fun _ => 0))), ((ad 20), .inl (cid 1, 8, .inr (.inl (fun _ => 0)))), ((ad 21), .inr (0, [.int 0, .int 0, .int 0, .ref (ad 22), .ref (ad 23), .ref (ad 24), .ref (ad 25)])), ((ad 22), .inl (cid 0, 8, .inl (fun _ => 0))), ((ad 23), .inl (cid 0, 64, .inl (fun _ => 0))), ((ad 24), .inl (cid 0, 8, .inl (fun _ => 0))), ((ad 25), .inl (cid 0, 8, .inl (fun _ => 0))), ((ad 26), .inr (4, [.ref (ad 27), .ref (ad 28), .ref (ad 32)])), ((ad 27), .inl (cid 0, 8, .inl (fun _ => 0))), ((ad 28), .inr (5, [.int 0, .int 0, .ref (ad 29), .ref (ad 30), .ref (ad 31)])), ((ad 29), .inl (cid 0, 8, .inl (fun _ => 0))), ((ad 30), .inl (cid 0, 8, .inl (fun _ => 0))), ((ad 31), .inl (cid 1, 8, .inr (.inl (fun _ => 0)))), ((ad 32), .inr (5, [.int 0, .int 0, .ref (ad 33), .ref (ad 34), .ref (ad 35)])), ((ad 33), .inl (cid 0, 8, .inl (fun _ => 0))), ((ad 34), .inl (cid 0, 8, .inl (fun _ => 0))), ((ad 35), .inl (cid 1, 8, .inr (.inl (fun _ => 0)))), ((ad 36), .inr (3, [.int (gI τ 0 0), .ref (ad 37), .ref (ad 38), .ref (ad 42)])), ((ad 37), .inl (cid 1, 6, .inr (.inl (τ.2 1)))), ((ad 38), .inr (1, [.int (gI τ 2 0), .int (gI τ 2 1), .int (gI τ 2 2), .ref (ad 39), .ref (ad 40), .ref (ad 41)])), ((ad 39), .inl (cid 0, 8, .inl (τ.1 3))), ((ad 40), .inl (cid 1, 28, .inr (.inl (τ.2 4)))), ((ad 41), .inl (cid 1, 64, .inr (.inl (τ.2 5)))), ((ad 42), .inr (1, [.int (gI τ 6 0), .int (gI τ 6 1), .int (gI τ 6 2), .ref (ad 43), .ref (ad 44), .ref (ad 45)])), ((ad 43), .inl (cid 0, 8, .inl (τ.1 7))), ((ad 44), .inl (cid 1, 28, .inr (.inl (τ.2 8)))), ((ad 45), .inl (cid 1, 64, .inr (.inl (τ.2 9))))]
set_option maxRecDepth 100000 in
set_option maxHeartbeats 4000000 in
theorem c_X7_init {l : Launch} {D : va_G} {cid : Nat → ClassId} {F : Nat} {τ : zST} (hτ : m_X3_clear F 0 s0_Group = some τ) : CtI l yX7_init wsX7_init r_X7_init D cid (.inr (6, [.null, .null, .null, .null, .null, .null])) (mk_CanonCote τ cid) := by
  refine CtI_of (by decide) rfl rfl (Nat.le_of_ble_eq_true rfl) (fun K h0 hE hl hk hin hao hq => ?_)
  obtain rfl : eD (kZ K) = D := by rw [hE]; rfl
  obtain rfl : eC (kZ K) = cid := by rw [hE]; rfl
  obtain rfl : eA (kZ K) 0 = h0 := by rw [hE]; rfl
  subst hl
  refine V_aload_n hk 0 dX7_init_0 rfl rfl ?_
  refine V_obj hk ⟨wd_X7_init_0, wd_X7_init_1, wd_X7_init_2⟩ ⟨Nat.le_of_ble_eq_true rfl, Nat.le_of_ble_eq_true rfl⟩ dX7_init_1 ?_
  refine V_aload_n hk 0 dX7_init_4 rfl rfl ?_
  refine V_iconst hk dX7_init_5 zc_iconst_4 ?_
  refine V_newG hk (N := 4) wd_X7_init_3 hao (by decide) (by decide +kernel) (Nat.le_of_ble_eq_true rfl) ⟨Nat.le_of_ble_eq_true rfl, Nat.le_of_ble_eq_true rfl⟩ dX7_init_6 (fun q0 => ?_)
  refine V_putF hk hin in_X7_init_CanonCote tyX7 tok_TX7 tnm_TX7 rfl 0 rfl 0 (by decide) wd_X7_init_5 rfl rfl (tok_TX7 0 (by decide)) rfl rfl (Nat.le_of_ble_eq_true rfl) (ws' := [(eA (kZ K) 0, .inr (6, [.ref q0, .null, .null, .null, .null, .null])), (q0, .inl (eC (kZ K) 3, 4, .inr (.inr (.inr (.inr (fun _ => none))))))]) rfl dX7_init_9 ?_
  refine V_iconst hk dX7_init_12 zc_iconst_0 ?_
  refine V_istore_n hk (lv' := [(1, .int 0), (0, .ref (eA (kZ K) 0))]) dX7_init_13 rfl (by decide) rfl ?_
  refine V_iload_n hk 0 dX7_init_14 rfl rfl ?_
  refine V_iconst hk dX7_init_15 zc_iconst_4 ?_
  refine V_icmp_ge hk (tgt := 38) dX7_init_16 (by decide) (fun c => absurd c (by decide)) (fun _ => ?_)
  show V K 1 4 19 [(1, .int 0), (0, .ref (eA (kZ K) 0))] [] ([(eA (kZ K) 0, .inr (6, [.ref q0, .null, .null, .null, .null, .null])), (q0, .inl (eC (kZ K) 3, 4, .inr (.inr (.inr (.inr (fun _ => none))))))])
  refine V_aload_n hk 1 dX7_init_19 rfl rfl ?_
  refine V_get hk in_X7_init_CanonCote rfl 0 rfl 0 (by decide) wd_X7_init_5 rfl dX7_init_20 ?_
  refine V_iload_n hk 0 dX7_init_23 rfl rfl ?_
  refine V_new hk (ci := 2) tyX2 tok_TX2 in_X7_init_Graph ⟨wd_X7_init_7, wd_X7_init_8, wd_X7_init_9⟩ rfl (fs := [.int 0, .null, .null]) (fun j hj => by rcases (show j = 0 ∨ j = 1 ∨ j = 2 by omega) with rfl | rfl | rfl <;> rfl) ⟨Nat.le_of_ble_eq_true rfl, Nat.le_of_ble_eq_true rfl⟩ dX7_init_24 (fun q1 => ?_)
  refine V_dup hk dX7_init_27 rfl ?_
  refine V_callI hk (c_X2_init (l := kL K)) hao gX7_init_X2_init_n15 nw_59 rfl ⟨wd_X7_init_10, wd_X7_init_11⟩ (by decide +kernel) rfl ⟨Nat.le_of_ble_eq_true rfl, Nat.le_of_ble_eq_true rfl⟩ (Nat.le_of_ble_eq_true rfl) ⟨Nat.le_of_ble_eq_true rfl, Nat.le_of_ble_eq_true rfl⟩ dX7_init_28 (fun d2 ha => ?_)
  subst ha
  show V K 4 23 31 [(1, .int 0), (0, .ref (eA (kZ K) 0))] [.ref (d2 0), .int 0, .ref q0] ([(eA (kZ K) 0, .inr (6, [.ref q0, .null, .null, .null, .null, .null])), (q0, .inl (eC (kZ K) 3, 4, .inr (.inr (.inr (.inr (fun _ => none)))))), ((d2 0), .inr (2, [.int 4, .ref (d2 1), .ref (d2 2)])), ((d2 1), .inl (eC (kZ K) 0, 8, .inl (fun _ => 0))), ((d2 2), .inl (eC (kZ K) 0, 8, .inl (fun _ => 0)))])
  refine V_aast hk 1 2 rfl rfl rfl rfl (by unfold vp_in; decide +kernel) (j := 0) (by decide +kernel) (ws' := [(eA (kZ K) 0, .inr (6, [.ref q0, .null, .null, .null, .null, .null])), (q0, .inl (eC (kZ K) 3, 4, .inr (.inr (.inr (.inr (va_up (fun _ => none) 0 (some (d2 0)))))))), ((d2 0), .inr (2, [.int 4, .ref (d2 1), .ref (d2 2)])), ((d2 1), .inl (eC (kZ K) 0, 8, .inl (fun _ => 0))), ((d2 2), .inl (eC (kZ K) 0, 8, .inl (fun _ => 0)))]) rfl dX7_init_31 ?_
  refine V_iinc hk 0 (v := 1) (lv' := [(1, .int 1), (0, .ref (eA (kZ K) 0))]) dX7_init_32 rfl (by decide +kernel) (by decide) rfl ?_
  refine V_goto hk (tgt := 14) dX7_init_35 (by decide) ?_
  show V K 4 23 14 [(1, .int 1), (0, .ref (eA (kZ K) 0))] [] ([(eA (kZ K) 0, .inr (6, [.ref q0, .null, .null, .null, .null, .null])), (q0, .inl (eC (kZ K) 3, 4, .inr (.inr (.inr (.inr (va_up (fun _ => none) 0 (some (d2 0)))))))), ((d2 0), .inr (2, [.int 4, .ref (d2 1), .ref (d2 2)])), ((d2 1), .inl (eC (kZ K) 0, 8, .inl (fun _ => 0))), ((d2 2), .inl (eC (kZ K) 0, 8, .inl (fun _ => 0)))])
  refine V_iload_n hk 0 dX7_init_14 rfl rfl ?_
  refine V_iconst hk dX7_init_15 zc_iconst_4 ?_
  refine V_icmp_ge hk (tgt := 38) dX7_init_16 (by decide) (fun c => absurd c (by decide)) (fun _ => ?_)
  show V K 4 23 19 [(1, .int 1), (0, .ref (eA (kZ K) 0))] [] ([(eA (kZ K) 0, .inr (6, [.ref q0, .null, .null, .null, .null, .null])), (q0, .inl (eC (kZ K) 3, 4, .inr (.inr (.inr (.inr (va_up (fun _ => none) 0 (some (d2 0)))))))), ((d2 0), .inr (2, [.int 4, .ref (d2 1), .ref (d2 2)])), ((d2 1), .inl (eC (kZ K) 0, 8, .inl (fun _ => 0))), ((d2 2), .inl (eC (kZ K) 0, 8, .inl (fun _ => 0)))])
  refine V_aload_n hk 1 dX7_init_19 rfl rfl ?_
  refine V_get hk in_X7_init_CanonCote rfl 0 rfl 0 (by decide) wd_X7_init_5 rfl dX7_init_20 ?_
  refine V_iload_n hk 0 dX7_init_23 rfl rfl ?_
  refine V_new hk (ci := 2) tyX2 tok_TX2 in_X7_init_Graph ⟨wd_X7_init_7, wd_X7_init_8, wd_X7_init_9⟩ rfl (fs := [.int 0, .null, .null]) (fun j hj => by rcases (show j = 0 ∨ j = 1 ∨ j = 2 by omega) with rfl | rfl | rfl <;> rfl) ⟨Nat.le_of_ble_eq_true rfl, Nat.le_of_ble_eq_true rfl⟩ dX7_init_24 (fun q3 => ?_)
  refine V_dup hk dX7_init_27 rfl ?_
  refine V_callI hk (c_X2_init (l := kL K)) hao gX7_init_X2_init_n15 nw_59 rfl ⟨wd_X7_init_10, wd_X7_init_11⟩ (by decide +kernel) rfl ⟨Nat.le_of_ble_eq_true rfl, Nat.le_of_ble_eq_true rfl⟩ (Nat.le_of_ble_eq_true rfl) ⟨Nat.le_of_ble_eq_true rfl, Nat.le_of_ble_eq_true rfl⟩ dX7_init_28 (fun d4 ha => ?_)
  subst ha
  show V K 7 42 31 [(1, .int 1), (0, .ref (eA (kZ K) 0))] [.ref (d4 0), .int 1, .ref q0] ([(eA (kZ K) 0, .inr (6, [.ref q0, .null, .null, .null, .null, .null])), (q0, .inl (eC (kZ K) 3, 4, .inr (.inr (.inr (.inr (va_up (fun _ => none) 0 (some (d2 0)))))))), ((d2 0), .inr (2, [.int 4, .ref (d2 1), .ref (d2 2)])), ((d2 1), .inl (eC (kZ K) 0, 8, .inl (fun _ => 0))), ((d2 2), .inl (eC (kZ K) 0, 8, .inl (fun _ => 0))), ((d4 0), .inr (2, [.int 4, .ref (d4 1), .ref (d4 2)])), ((d4 1), .inl (eC (kZ K) 0, 8, .inl (fun _ => 0))), ((d4 2), .inl (eC (kZ K) 0, 8, .inl (fun _ => 0)))])
  refine V_aast hk 1 5 rfl rfl rfl rfl (by unfold vp_in; decide +kernel) (j := 1) (by decide +kernel) (ws' := [(eA (kZ K) 0, .inr (6, [.ref q0, .null, .null, .null, .null, .null])), (q0, .inl (eC (kZ K) 3, 4, .inr (.inr (.inr (.inr (va_up (va_up (fun _ => none) 0 (some (d2 0))) 1 (some (d4 0)))))))), ((d2 0), .inr (2, [.int 4, .ref (d2 1), .ref (d2 2)])), ((d2 1), .inl (eC (kZ K) 0, 8, .inl (fun _ => 0))), ((d2 2), .inl (eC (kZ K) 0, 8, .inl (fun _ => 0))), ((d4 0), .inr (2, [.int 4, .ref (d4 1), .ref (d4 2)])), ((d4 1), .inl (eC (kZ K) 0, 8, .inl (fun _ => 0))), ((d4 2), .inl (eC (kZ K) 0, 8, .inl (fun _ => 0)))]) rfl dX7_init_31 ?_
  refine V_iinc hk 0 (v := 2) (lv' := [(1, .int 2), (0, .ref (eA (kZ K) 0))]) dX7_init_32 rfl (by decide +kernel) (by decide) rfl ?_
  refine V_goto hk (tgt := 14) dX7_init_35 (by decide) ?_
  show V K 7 42 14 [(1, .int 2), (0, .ref (eA (kZ K) 0))] [] ([(eA (kZ K) 0, .inr (6, [.ref q0, .null, .null, .null, .null, .null])), (q0, .inl (eC (kZ K) 3, 4, .inr (.inr (.inr (.inr (va_up (va_up (fun _ => none) 0 (some (d2 0))) 1 (some (d4 0)))))))), ((d2 0), .inr (2, [.int 4, .ref (d2 1), .ref (d2 2)])), ((d2 1), .inl (eC (kZ K) 0, 8, .inl (fun _ => 0))), ((d2 2), .inl (eC (kZ K) 0, 8, .inl (fun _ => 0))), ((d4 0), .inr (2, [.int 4, .ref (d4 1), .ref (d4 2)])), ((d4 1), .inl (eC (kZ K) 0, 8, .inl (fun _ => 0))), ((d4 2), .inl (eC (kZ K) 0, 8, .inl (fun _ => 0)))])
  refine V_iload_n hk 0 dX7_init_14 rfl rfl ?_
  refine V_iconst hk dX7_init_15 zc_iconst_4 ?_
  refine V_icmp_ge hk (tgt := 38) dX7_init_16 (by decide) (fun c => absurd c (by decide)) (fun _ => ?_)
  show V K 7 42 19 [(1, .int 2), (0, .ref (eA (kZ K) 0))] [] ([(eA (kZ K) 0, .inr (6, [.ref q0, .null, .null, .null, .null, .null])), (q0, .inl (eC (kZ K) 3, 4, .inr (.inr (.inr (.inr (va_up (va_up (fun _ => none) 0 (some (d2 0))) 1 (some (d4 0)))))))), ((d2 0), .inr (2, [.int 4, .ref (d2 1), .ref (d2 2)])), ((d2 1), .inl (eC (kZ K) 0, 8, .inl (fun _ => 0))), ((d2 2), .inl (eC (kZ K) 0, 8, .inl (fun _ => 0))), ((d4 0), .inr (2, [.int 4, .ref (d4 1), .ref (d4 2)])), ((d4 1), .inl (eC (kZ K) 0, 8, .inl (fun _ => 0))), ((d4 2), .inl (eC (kZ K) 0, 8, .inl (fun _ => 0)))])
  refine V_aload_n hk 1 dX7_init_19 rfl rfl ?_
  refine V_get hk in_X7_init_CanonCote rfl 0 rfl 0 (by decide) wd_X7_init_5 rfl dX7_init_20 ?_
  refine V_iload_n hk 0 dX7_init_23 rfl rfl ?_
  refine V_new hk (ci := 2) tyX2 tok_TX2 in_X7_init_Graph ⟨wd_X7_init_7, wd_X7_init_8, wd_X7_init_9⟩ rfl (fs := [.int 0, .null, .null]) (fun j hj => by rcases (show j = 0 ∨ j = 1 ∨ j = 2 by omega) with rfl | rfl | rfl <;> rfl) ⟨Nat.le_of_ble_eq_true rfl, Nat.le_of_ble_eq_true rfl⟩ dX7_init_24 (fun q5 => ?_)
  refine V_dup hk dX7_init_27 rfl ?_
  refine V_callI hk (c_X2_init (l := kL K)) hao gX7_init_X2_init_n15 nw_59 rfl ⟨wd_X7_init_10, wd_X7_init_11⟩ (by decide +kernel) rfl ⟨Nat.le_of_ble_eq_true rfl, Nat.le_of_ble_eq_true rfl⟩ (Nat.le_of_ble_eq_true rfl) ⟨Nat.le_of_ble_eq_true rfl, Nat.le_of_ble_eq_true rfl⟩ dX7_init_28 (fun d6 ha => ?_)
  subst ha
  show V K 10 61 31 [(1, .int 2), (0, .ref (eA (kZ K) 0))] [.ref (d6 0), .int 2, .ref q0] ([(eA (kZ K) 0, .inr (6, [.ref q0, .null, .null, .null, .null, .null])), (q0, .inl (eC (kZ K) 3, 4, .inr (.inr (.inr (.inr (va_up (va_up (fun _ => none) 0 (some (d2 0))) 1 (some (d4 0)))))))), ((d2 0), .inr (2, [.int 4, .ref (d2 1), .ref (d2 2)])), ((d2 1), .inl (eC (kZ K) 0, 8, .inl (fun _ => 0))), ((d2 2), .inl (eC (kZ K) 0, 8, .inl (fun _ => 0))), ((d4 0), .inr (2, [.int 4, .ref (d4 1), .ref (d4 2)])), ((d4 1), .inl (eC (kZ K) 0, 8, .inl (fun _ => 0))), ((d4 2), .inl (eC (kZ K) 0, 8, .inl (fun _ => 0))), ((d6 0), .inr (2, [.int 4, .ref (d6 1), .ref (d6 2)])), ((d6 1), .inl (eC (kZ K) 0, 8, .inl (fun _ => 0))), ((d6 2), .inl (eC (kZ K) 0, 8, .inl (fun _ => 0)))])
  refine V_aast hk 1 8 rfl rfl rfl rfl (by unfold vp_in; decide +kernel) (j := 2) (by decide +kernel) (ws' := [(eA (kZ K) 0, .inr (6, [.ref q0, .null, .null, .null, .null, .null])), (q0, .inl (eC (kZ K) 3, 4, .inr (.inr (.inr (.inr (va_up (va_up (va_up (fun _ => none) 0 (some (d2 0))) 1 (some (d4 0))) 2 (some (d6 0)))))))), ((d2 0), .inr (2, [.int 4, .ref (d2 1), .ref (d2 2)])), ((d2 1), .inl (eC (kZ K) 0, 8, .inl (fun _ => 0))), ((d2 2), .inl (eC (kZ K) 0, 8, .inl (fun _ => 0))), ((d4 0), .inr (2, [.int 4, .ref (d4 1), .ref (d4 2)])), ((d4 1), .inl (eC (kZ K) 0, 8, .inl (fun _ => 0))), ((d4 2), .inl (eC (kZ K) 0, 8, .inl (fun _ => 0))), ((d6 0), .inr (2, [.int 4, .ref (d6 1), .ref (d6 2)])), ((d6 1), .inl (eC (kZ K) 0, 8, .inl (fun _ => 0))), ((d6 2), .inl (eC (kZ K) 0, 8, .inl (fun _ => 0)))]) rfl dX7_init_31 ?_
  refine V_iinc hk 0 (v := 3) (lv' := [(1, .int 3), (0, .ref (eA (kZ K) 0))]) dX7_init_32 rfl (by decide +kernel) (by decide) rfl ?_
  refine V_goto hk (tgt := 14) dX7_init_35 (by decide) ?_
  show V K 10 61 14 [(1, .int 3), (0, .ref (eA (kZ K) 0))] [] ([(eA (kZ K) 0, .inr (6, [.ref q0, .null, .null, .null, .null, .null])), (q0, .inl (eC (kZ K) 3, 4, .inr (.inr (.inr (.inr (va_up (va_up (va_up (fun _ => none) 0 (some (d2 0))) 1 (some (d4 0))) 2 (some (d6 0)))))))), ((d2 0), .inr (2, [.int 4, .ref (d2 1), .ref (d2 2)])), ((d2 1), .inl (eC (kZ K) 0, 8, .inl (fun _ => 0))), ((d2 2), .inl (eC (kZ K) 0, 8, .inl (fun _ => 0))), ((d4 0), .inr (2, [.int 4, .ref (d4 1), .ref (d4 2)])), ((d4 1), .inl (eC (kZ K) 0, 8, .inl (fun _ => 0))), ((d4 2), .inl (eC (kZ K) 0, 8, .inl (fun _ => 0))), ((d6 0), .inr (2, [.int 4, .ref (d6 1), .ref (d6 2)])), ((d6 1), .inl (eC (kZ K) 0, 8, .inl (fun _ => 0))), ((d6 2), .inl (eC (kZ K) 0, 8, .inl (fun _ => 0)))])
  refine V_iload_n hk 0 dX7_init_14 rfl rfl ?_
  refine V_iconst hk dX7_init_15 zc_iconst_4 ?_
  refine V_icmp_ge hk (tgt := 38) dX7_init_16 (by decide) (fun c => absurd c (by decide)) (fun _ => ?_)
  show V K 10 61 19 [(1, .int 3), (0, .ref (eA (kZ K) 0))] [] ([(eA (kZ K) 0, .inr (6, [.ref q0, .null, .null, .null, .null, .null])), (q0, .inl (eC (kZ K) 3, 4, .inr (.inr (.inr (.inr (va_up (va_up (va_up (fun _ => none) 0 (some (d2 0))) 1 (some (d4 0))) 2 (some (d6 0)))))))), ((d2 0), .inr (2, [.int 4, .ref (d2 1), .ref (d2 2)])), ((d2 1), .inl (eC (kZ K) 0, 8, .inl (fun _ => 0))), ((d2 2), .inl (eC (kZ K) 0, 8, .inl (fun _ => 0))), ((d4 0), .inr (2, [.int 4, .ref (d4 1), .ref (d4 2)])), ((d4 1), .inl (eC (kZ K) 0, 8, .inl (fun _ => 0))), ((d4 2), .inl (eC (kZ K) 0, 8, .inl (fun _ => 0))), ((d6 0), .inr (2, [.int 4, .ref (d6 1), .ref (d6 2)])), ((d6 1), .inl (eC (kZ K) 0, 8, .inl (fun _ => 0))), ((d6 2), .inl (eC (kZ K) 0, 8, .inl (fun _ => 0)))])
  refine V_aload_n hk 1 dX7_init_19 rfl rfl ?_
  refine V_get hk in_X7_init_CanonCote rfl 0 rfl 0 (by decide) wd_X7_init_5 rfl dX7_init_20 ?_
  refine V_iload_n hk 0 dX7_init_23 rfl rfl ?_
  refine V_new hk (ci := 2) tyX2 tok_TX2 in_X7_init_Graph ⟨wd_X7_init_7, wd_X7_init_8, wd_X7_init_9⟩ rfl (fs := [.int 0, .null, .null]) (fun j hj => by rcases (show j = 0 ∨ j = 1 ∨ j = 2 by omega) with rfl | rfl | rfl <;> rfl) ⟨Nat.le_of_ble_eq_true rfl, Nat.le_of_ble_eq_true rfl⟩ dX7_init_24 (fun q7 => ?_)
  refine V_dup hk dX7_init_27 rfl ?_
  refine V_callI hk (c_X2_init (l := kL K)) hao gX7_init_X2_init_n15 nw_59 rfl ⟨wd_X7_init_10, wd_X7_init_11⟩ (by decide +kernel) rfl ⟨Nat.le_of_ble_eq_true rfl, Nat.le_of_ble_eq_true rfl⟩ (Nat.le_of_ble_eq_true rfl) ⟨Nat.le_of_ble_eq_true rfl, Nat.le_of_ble_eq_true rfl⟩ dX7_init_28 (fun d8 ha => ?_)
  subst ha
  show V K 13 80 31 [(1, .int 3), (0, .ref (eA (kZ K) 0))] [.ref (d8 0), .int 3, .ref q0] ([(eA (kZ K) 0, .inr (6, [.ref q0, .null, .null, .null, .null, .null])), (q0, .inl (eC (kZ K) 3, 4, .inr (.inr (.inr (.inr (va_up (va_up (va_up (fun _ => none) 0 (some (d2 0))) 1 (some (d4 0))) 2 (some (d6 0)))))))), ((d2 0), .inr (2, [.int 4, .ref (d2 1), .ref (d2 2)])), ((d2 1), .inl (eC (kZ K) 0, 8, .inl (fun _ => 0))), ((d2 2), .inl (eC (kZ K) 0, 8, .inl (fun _ => 0))), ((d4 0), .inr (2, [.int 4, .ref (d4 1), .ref (d4 2)])), ((d4 1), .inl (eC (kZ K) 0, 8, .inl (fun _ => 0))), ((d4 2), .inl (eC (kZ K) 0, 8, .inl (fun _ => 0))), ((d6 0), .inr (2, [.int 4, .ref (d6 1), .ref (d6 2)])), ((d6 1), .inl (eC (kZ K) 0, 8, .inl (fun _ => 0))), ((d6 2), .inl (eC (kZ K) 0, 8, .inl (fun _ => 0))), ((d8 0), .inr (2, [.int 4, .ref (d8 1), .ref (d8 2)])), ((d8 1), .inl (eC (kZ K) 0, 8, .inl (fun _ => 0))), ((d8 2), .inl (eC (kZ K) 0, 8, .inl (fun _ => 0)))])
  refine V_aast hk 1 11 rfl rfl rfl rfl (by unfold vp_in; decide +kernel) (j := 3) (by decide +kernel) (ws' := [(eA (kZ K) 0, .inr (6, [.ref q0, .null, .null, .null, .null, .null])), (q0, .inl (eC (kZ K) 3, 4, .inr (.inr (.inr (.inr (va_up (va_up (va_up (va_up (fun _ => none) 0 (some (d2 0))) 1 (some (d4 0))) 2 (some (d6 0))) 3 (some (d8 0)))))))), ((d2 0), .inr (2, [.int 4, .ref (d2 1), .ref (d2 2)])), ((d2 1), .inl (eC (kZ K) 0, 8, .inl (fun _ => 0))), ((d2 2), .inl (eC (kZ K) 0, 8, .inl (fun _ => 0))), ((d4 0), .inr (2, [.int 4, .ref (d4 1), .ref (d4 2)])), ((d4 1), .inl (eC (kZ K) 0, 8, .inl (fun _ => 0))), ((d4 2), .inl (eC (kZ K) 0, 8, .inl (fun _ => 0))), ((d6 0), .inr (2, [.int 4, .ref (d6 1), .ref (d6 2)])), ((d6 1), .inl (eC (kZ K) 0, 8, .inl (fun _ => 0))), ((d6 2), .inl (eC (kZ K) 0, 8, .inl (fun _ => 0))), ((d8 0), .inr (2, [.int 4, .ref (d8 1), .ref (d8 2)])), ((d8 1), .inl (eC (kZ K) 0, 8, .inl (fun _ => 0))), ((d8 2), .inl (eC (kZ K) 0, 8, .inl (fun _ => 0)))]) rfl dX7_init_31 ?_
  refine V_iinc hk 0 (v := 4) (lv' := [(1, .int 4), (0, .ref (eA (kZ K) 0))]) dX7_init_32 rfl (by decide +kernel) (by decide) rfl ?_
  refine V_goto hk (tgt := 14) dX7_init_35 (by decide) ?_
  show V K 13 80 14 [(1, .int 4), (0, .ref (eA (kZ K) 0))] [] ([(eA (kZ K) 0, .inr (6, [.ref q0, .null, .null, .null, .null, .null])), (q0, .inl (eC (kZ K) 3, 4, .inr (.inr (.inr (.inr (va_up (va_up (va_up (va_up (fun _ => none) 0 (some (d2 0))) 1 (some (d4 0))) 2 (some (d6 0))) 3 (some (d8 0)))))))), ((d2 0), .inr (2, [.int 4, .ref (d2 1), .ref (d2 2)])), ((d2 1), .inl (eC (kZ K) 0, 8, .inl (fun _ => 0))), ((d2 2), .inl (eC (kZ K) 0, 8, .inl (fun _ => 0))), ((d4 0), .inr (2, [.int 4, .ref (d4 1), .ref (d4 2)])), ((d4 1), .inl (eC (kZ K) 0, 8, .inl (fun _ => 0))), ((d4 2), .inl (eC (kZ K) 0, 8, .inl (fun _ => 0))), ((d6 0), .inr (2, [.int 4, .ref (d6 1), .ref (d6 2)])), ((d6 1), .inl (eC (kZ K) 0, 8, .inl (fun _ => 0))), ((d6 2), .inl (eC (kZ K) 0, 8, .inl (fun _ => 0))), ((d8 0), .inr (2, [.int 4, .ref (d8 1), .ref (d8 2)])), ((d8 1), .inl (eC (kZ K) 0, 8, .inl (fun _ => 0))), ((d8 2), .inl (eC (kZ K) 0, 8, .inl (fun _ => 0)))])
  refine V_iload_n hk 0 dX7_init_14 rfl rfl ?_
  refine V_iconst hk dX7_init_15 zc_iconst_4 ?_
  refine V_icmp_ge hk (tgt := 38) dX7_init_16 (by decide) (fun _ => ?_) (fun c => absurd (by decide) c)
  show V K 13 80 38 [(1, .int 4), (0, .ref (eA (kZ K) 0))] [] ([(eA (kZ K) 0, .inr (6, [.ref q0, .null, .null, .null, .null, .null])), (q0, .inl (eC (kZ K) 3, 4, .inr (.inr (.inr (.inr (va_up (va_up (va_up (va_up (fun _ => none) 0 (some (d2 0))) 1 (some (d4 0))) 2 (some (d6 0))) 3 (some (d8 0)))))))), ((d2 0), .inr (2, [.int 4, .ref (d2 1), .ref (d2 2)])), ((d2 1), .inl (eC (kZ K) 0, 8, .inl (fun _ => 0))), ((d2 2), .inl (eC (kZ K) 0, 8, .inl (fun _ => 0))), ((d4 0), .inr (2, [.int 4, .ref (d4 1), .ref (d4 2)])), ((d4 1), .inl (eC (kZ K) 0, 8, .inl (fun _ => 0))), ((d4 2), .inl (eC (kZ K) 0, 8, .inl (fun _ => 0))), ((d6 0), .inr (2, [.int 4, .ref (d6 1), .ref (d6 2)])), ((d6 1), .inl (eC (kZ K) 0, 8, .inl (fun _ => 0))), ((d6 2), .inl (eC (kZ K) 0, 8, .inl (fun _ => 0))), ((d8 0), .inr (2, [.int 4, .ref (d8 1), .ref (d8 2)])), ((d8 1), .inl (eC (kZ K) 0, 8, .inl (fun _ => 0))), ((d8 2), .inl (eC (kZ K) 0, 8, .inl (fun _ => 0)))])
  refine V_aload_n hk 1 dX7_init_38 rfl rfl ?_
  refine V_new hk (ci := 2) tyX2 tok_TX2 in_X7_init_Graph ⟨wd_X7_init_7, wd_X7_init_8, wd_X7_init_9⟩ rfl (fs := [.int 0, .null, .null]) (fun j hj => by rcases (show j = 0 ∨ j = 1 ∨ j = 2 by omega) with rfl | rfl | rfl <;> rfl) ⟨Nat.le_of_ble_eq_true rfl, Nat.le_of_ble_eq_true rfl⟩ dX7_init_39 (fun q9 => ?_)
  refine V_dup hk dX7_init_42 rfl ?_
  refine V_callI hk (c_X2_init (l := kL K)) hao gX7_init_X2_init_n15 nw_59 rfl ⟨wd_X7_init_10, wd_X7_init_11⟩ (by decide +kernel) rfl ⟨Nat.le_of_ble_eq_true rfl, Nat.le_of_ble_eq_true rfl⟩ (Nat.le_of_ble_eq_true rfl) ⟨Nat.le_of_ble_eq_true rfl, Nat.le_of_ble_eq_true rfl⟩ dX7_init_43 (fun d10 ha => ?_)
  subst ha
  show V K 16 99 46 [(1, .int 4), (0, .ref (eA (kZ K) 0))] [.ref (d10 0), .ref (eA (kZ K) 0)] ([(eA (kZ K) 0, .inr (6, [.ref q0, .null, .null, .null, .null, .null])), (q0, .inl (eC (kZ K) 3, 4, .inr (.inr (.inr (.inr (va_up (va_up (va_up (va_up (fun _ => none) 0 (some (d2 0))) 1 (some (d4 0))) 2 (some (d6 0))) 3 (some (d8 0)))))))), ((d2 0), .inr (2, [.int 4, .ref (d2 1), .ref (d2 2)])), ((d2 1), .inl (eC (kZ K) 0, 8, .inl (fun _ => 0))), ((d2 2), .inl (eC (kZ K) 0, 8, .inl (fun _ => 0))), ((d4 0), .inr (2, [.int 4, .ref (d4 1), .ref (d4 2)])), ((d4 1), .inl (eC (kZ K) 0, 8, .inl (fun _ => 0))), ((d4 2), .inl (eC (kZ K) 0, 8, .inl (fun _ => 0))), ((d6 0), .inr (2, [.int 4, .ref (d6 1), .ref (d6 2)])), ((d6 1), .inl (eC (kZ K) 0, 8, .inl (fun _ => 0))), ((d6 2), .inl (eC (kZ K) 0, 8, .inl (fun _ => 0))), ((d8 0), .inr (2, [.int 4, .ref (d8 1), .ref (d8 2)])), ((d8 1), .inl (eC (kZ K) 0, 8, .inl (fun _ => 0))), ((d8 2), .inl (eC (kZ K) 0, 8, .inl (fun _ => 0))), ((d10 0), .inr (2, [.int 4, .ref (d10 1), .ref (d10 2)])), ((d10 1), .inl (eC (kZ K) 0, 8, .inl (fun _ => 0))), ((d10 2), .inl (eC (kZ K) 0, 8, .inl (fun _ => 0)))])
  refine V_putF hk hin in_X7_init_CanonCote tyX7 tok_TX7 tnm_TX7 rfl 0 rfl 1 (by decide) wd_X7_init_12 rfl rfl (tok_TX7 1 (by decide)) rfl rfl (Nat.le_of_ble_eq_true rfl) (ws' := [(eA (kZ K) 0, .inr (6, [.ref q0, .ref (d10 0), .null, .null, .null, .null])), (q0, .inl (eC (kZ K) 3, 4, .inr (.inr (.inr (.inr (va_up (va_up (va_up (va_up (fun _ => none) 0 (some (d2 0))) 1 (some (d4 0))) 2 (some (d6 0))) 3 (some (d8 0)))))))), ((d2 0), .inr (2, [.int 4, .ref (d2 1), .ref (d2 2)])), ((d2 1), .inl (eC (kZ K) 0, 8, .inl (fun _ => 0))), ((d2 2), .inl (eC (kZ K) 0, 8, .inl (fun _ => 0))), ((d4 0), .inr (2, [.int 4, .ref (d4 1), .ref (d4 2)])), ((d4 1), .inl (eC (kZ K) 0, 8, .inl (fun _ => 0))), ((d4 2), .inl (eC (kZ K) 0, 8, .inl (fun _ => 0))), ((d6 0), .inr (2, [.int 4, .ref (d6 1), .ref (d6 2)])), ((d6 1), .inl (eC (kZ K) 0, 8, .inl (fun _ => 0))), ((d6 2), .inl (eC (kZ K) 0, 8, .inl (fun _ => 0))), ((d8 0), .inr (2, [.int 4, .ref (d8 1), .ref (d8 2)])), ((d8 1), .inl (eC (kZ K) 0, 8, .inl (fun _ => 0))), ((d8 2), .inl (eC (kZ K) 0, 8, .inl (fun _ => 0))), ((d10 0), .inr (2, [.int 4, .ref (d10 1), .ref (d10 2)])), ((d10 1), .inl (eC (kZ K) 0, 8, .inl (fun _ => 0))), ((d10 2), .inl (eC (kZ K) 0, 8, .inl (fun _ => 0)))]) rfl dX7_init_46 ?_
  refine V_aload_n hk 1 dX7_init_49 rfl rfl ?_
  refine V_new hk (ci := 5) tyX6 tok_TX6 in_X7_init_Refinement ⟨wd_X7_init_14, wd_X7_init_15, wd_X7_init_16⟩ rfl (fs := [.int 0, .int 0, .null, .null, .null]) (fun j hj => by rcases (show j = 0 ∨ j = 1 ∨ j = 2 ∨ j = 3 ∨ j = 4 by omega) with rfl | rfl | rfl | rfl | rfl <;> rfl) ⟨Nat.le_of_ble_eq_true rfl, Nat.le_of_ble_eq_true rfl⟩ dX7_init_50 (fun q11 => ?_)
  refine V_dup hk dX7_init_53 rfl ?_
  refine V_callI hk (c_X6_init (l := kL K)) hao gX7_init_X6_init_n22 nw_60 rfl ⟨wd_X7_init_17, wd_X7_init_18⟩ (by decide +kernel) rfl ⟨Nat.le_of_ble_eq_true rfl, Nat.le_of_ble_eq_true rfl⟩ (Nat.le_of_ble_eq_true rfl) ⟨Nat.le_of_ble_eq_true rfl, Nat.le_of_ble_eq_true rfl⟩ dX7_init_54 (fun d12 ha => ?_)
  subst ha
  show V K 20 128 57 [(1, .int 4), (0, .ref (eA (kZ K) 0))] [.ref (d12 0), .ref (eA (kZ K) 0)] ([(eA (kZ K) 0, .inr (6, [.ref q0, .ref (d10 0), .null, .null, .null, .null])), (q0, .inl (eC (kZ K) 3, 4, .inr (.inr (.inr (.inr (va_up (va_up (va_up (va_up (fun _ => none) 0 (some (d2 0))) 1 (some (d4 0))) 2 (some (d6 0))) 3 (some (d8 0)))))))), ((d2 0), .inr (2, [.int 4, .ref (d2 1), .ref (d2 2)])), ((d2 1), .inl (eC (kZ K) 0, 8, .inl (fun _ => 0))), ((d2 2), .inl (eC (kZ K) 0, 8, .inl (fun _ => 0))), ((d4 0), .inr (2, [.int 4, .ref (d4 1), .ref (d4 2)])), ((d4 1), .inl (eC (kZ K) 0, 8, .inl (fun _ => 0))), ((d4 2), .inl (eC (kZ K) 0, 8, .inl (fun _ => 0))), ((d6 0), .inr (2, [.int 4, .ref (d6 1), .ref (d6 2)])), ((d6 1), .inl (eC (kZ K) 0, 8, .inl (fun _ => 0))), ((d6 2), .inl (eC (kZ K) 0, 8, .inl (fun _ => 0))), ((d8 0), .inr (2, [.int 4, .ref (d8 1), .ref (d8 2)])), ((d8 1), .inl (eC (kZ K) 0, 8, .inl (fun _ => 0))), ((d8 2), .inl (eC (kZ K) 0, 8, .inl (fun _ => 0))), ((d10 0), .inr (2, [.int 4, .ref (d10 1), .ref (d10 2)])), ((d10 1), .inl (eC (kZ K) 0, 8, .inl (fun _ => 0))), ((d10 2), .inl (eC (kZ K) 0, 8, .inl (fun _ => 0))), ((d12 0), .inr (5, [.int 0, .int 0, .ref (d12 1), .ref (d12 2), .ref (d12 3)])), ((d12 1), .inl (eC (kZ K) 0, 8, .inl (fun _ => 0))), ((d12 2), .inl (eC (kZ K) 0, 8, .inl (fun _ => 0))), ((d12 3), .inl (eC (kZ K) 1, 8, .inr (.inl (fun _ => 0))))])
  refine V_putF hk hin in_X7_init_CanonCote tyX7 tok_TX7 tnm_TX7 rfl 0 rfl 2 (by decide) wd_X7_init_19 rfl rfl (tok_TX7 2 (by decide)) rfl rfl (Nat.le_of_ble_eq_true rfl) (ws' := [(eA (kZ K) 0, .inr (6, [.ref q0, .ref (d10 0), .ref (d12 0), .null, .null, .null])), (q0, .inl (eC (kZ K) 3, 4, .inr (.inr (.inr (.inr (va_up (va_up (va_up (va_up (fun _ => none) 0 (some (d2 0))) 1 (some (d4 0))) 2 (some (d6 0))) 3 (some (d8 0)))))))), ((d2 0), .inr (2, [.int 4, .ref (d2 1), .ref (d2 2)])), ((d2 1), .inl (eC (kZ K) 0, 8, .inl (fun _ => 0))), ((d2 2), .inl (eC (kZ K) 0, 8, .inl (fun _ => 0))), ((d4 0), .inr (2, [.int 4, .ref (d4 1), .ref (d4 2)])), ((d4 1), .inl (eC (kZ K) 0, 8, .inl (fun _ => 0))), ((d4 2), .inl (eC (kZ K) 0, 8, .inl (fun _ => 0))), ((d6 0), .inr (2, [.int 4, .ref (d6 1), .ref (d6 2)])), ((d6 1), .inl (eC (kZ K) 0, 8, .inl (fun _ => 0))), ((d6 2), .inl (eC (kZ K) 0, 8, .inl (fun _ => 0))), ((d8 0), .inr (2, [.int 4, .ref (d8 1), .ref (d8 2)])), ((d8 1), .inl (eC (kZ K) 0, 8, .inl (fun _ => 0))), ((d8 2), .inl (eC (kZ K) 0, 8, .inl (fun _ => 0))), ((d10 0), .inr (2, [.int 4, .ref (d10 1), .ref (d10 2)])), ((d10 1), .inl (eC (kZ K) 0, 8, .inl (fun _ => 0))), ((d10 2), .inl (eC (kZ K) 0, 8, .inl (fun _ => 0))), ((d12 0), .inr (5, [.int 0, .int 0, .ref (d12 1), .ref (d12 2), .ref (d12 3)])), ((d12 1), .inl (eC (kZ K) 0, 8, .inl (fun _ => 0))), ((d12 2), .inl (eC (kZ K) 0, 8, .inl (fun _ => 0))), ((d12 3), .inl (eC (kZ K) 1, 8, .inr (.inl (fun _ => 0))))]) rfl dX7_init_57 ?_
  refine V_aload_n hk 1 dX7_init_60 rfl rfl ?_
  refine V_new hk (ci := 0) tyX0 tok_TX0 in_X7_init_Arranging ⟨wd_X7_init_21, wd_X7_init_22, wd_X7_init_23⟩ rfl (fs := [.int 0, .int 0, .int 0, .null, .null, .null, .null]) (fun j hj => by rcases (show j = 0 ∨ j = 1 ∨ j = 2 ∨ j = 3 ∨ j = 4 ∨ j = 5 ∨ j = 6 by omega) with rfl | rfl | rfl | rfl | rfl | rfl | rfl <;> rfl) ⟨Nat.le_of_ble_eq_true rfl, Nat.le_of_ble_eq_true rfl⟩ dX7_init_61 (fun q13 => ?_)
  refine V_dup hk dX7_init_64 rfl ?_
  refine V_callI hk (c_X0_init (l := kL K)) hao gX7_init_X0_init_n29 nw_61 rfl ⟨wd_X7_init_24, wd_X7_init_25⟩ (by decide +kernel) rfl ⟨Nat.le_of_ble_eq_true rfl, Nat.le_of_ble_eq_true rfl⟩ (Nat.le_of_ble_eq_true rfl) ⟨Nat.le_of_ble_eq_true rfl, Nat.le_of_ble_eq_true rfl⟩ dX7_init_65 (fun d14 ha => ?_)
  subst ha
  show V K 25 223 68 [(1, .int 4), (0, .ref (eA (kZ K) 0))] [.ref (d14 0), .ref (eA (kZ K) 0)] ([(eA (kZ K) 0, .inr (6, [.ref q0, .ref (d10 0), .ref (d12 0), .null, .null, .null])), (q0, .inl (eC (kZ K) 3, 4, .inr (.inr (.inr (.inr (va_up (va_up (va_up (va_up (fun _ => none) 0 (some (d2 0))) 1 (some (d4 0))) 2 (some (d6 0))) 3 (some (d8 0)))))))), ((d2 0), .inr (2, [.int 4, .ref (d2 1), .ref (d2 2)])), ((d2 1), .inl (eC (kZ K) 0, 8, .inl (fun _ => 0))), ((d2 2), .inl (eC (kZ K) 0, 8, .inl (fun _ => 0))), ((d4 0), .inr (2, [.int 4, .ref (d4 1), .ref (d4 2)])), ((d4 1), .inl (eC (kZ K) 0, 8, .inl (fun _ => 0))), ((d4 2), .inl (eC (kZ K) 0, 8, .inl (fun _ => 0))), ((d6 0), .inr (2, [.int 4, .ref (d6 1), .ref (d6 2)])), ((d6 1), .inl (eC (kZ K) 0, 8, .inl (fun _ => 0))), ((d6 2), .inl (eC (kZ K) 0, 8, .inl (fun _ => 0))), ((d8 0), .inr (2, [.int 4, .ref (d8 1), .ref (d8 2)])), ((d8 1), .inl (eC (kZ K) 0, 8, .inl (fun _ => 0))), ((d8 2), .inl (eC (kZ K) 0, 8, .inl (fun _ => 0))), ((d10 0), .inr (2, [.int 4, .ref (d10 1), .ref (d10 2)])), ((d10 1), .inl (eC (kZ K) 0, 8, .inl (fun _ => 0))), ((d10 2), .inl (eC (kZ K) 0, 8, .inl (fun _ => 0))), ((d12 0), .inr (5, [.int 0, .int 0, .ref (d12 1), .ref (d12 2), .ref (d12 3)])), ((d12 1), .inl (eC (kZ K) 0, 8, .inl (fun _ => 0))), ((d12 2), .inl (eC (kZ K) 0, 8, .inl (fun _ => 0))), ((d12 3), .inl (eC (kZ K) 1, 8, .inr (.inl (fun _ => 0)))), ((d14 0), .inr (0, [.int 0, .int 0, .int 0, .ref (d14 1), .ref (d14 2), .ref (d14 3), .ref (d14 4)])), ((d14 1), .inl (eC (kZ K) 0, 8, .inl (fun _ => 0))), ((d14 2), .inl (eC (kZ K) 0, 64, .inl (fun _ => 0))), ((d14 3), .inl (eC (kZ K) 0, 8, .inl (fun _ => 0))), ((d14 4), .inl (eC (kZ K) 0, 8, .inl (fun _ => 0)))])
  refine V_putF hk hin in_X7_init_CanonCote tyX7 tok_TX7 tnm_TX7 rfl 0 rfl 3 (by decide) wd_X7_init_26 rfl rfl (tok_TX7 3 (by decide)) rfl rfl (Nat.le_of_ble_eq_true rfl) (ws' := [(eA (kZ K) 0, .inr (6, [.ref q0, .ref (d10 0), .ref (d12 0), .ref (d14 0), .null, .null])), (q0, .inl (eC (kZ K) 3, 4, .inr (.inr (.inr (.inr (va_up (va_up (va_up (va_up (fun _ => none) 0 (some (d2 0))) 1 (some (d4 0))) 2 (some (d6 0))) 3 (some (d8 0)))))))), ((d2 0), .inr (2, [.int 4, .ref (d2 1), .ref (d2 2)])), ((d2 1), .inl (eC (kZ K) 0, 8, .inl (fun _ => 0))), ((d2 2), .inl (eC (kZ K) 0, 8, .inl (fun _ => 0))), ((d4 0), .inr (2, [.int 4, .ref (d4 1), .ref (d4 2)])), ((d4 1), .inl (eC (kZ K) 0, 8, .inl (fun _ => 0))), ((d4 2), .inl (eC (kZ K) 0, 8, .inl (fun _ => 0))), ((d6 0), .inr (2, [.int 4, .ref (d6 1), .ref (d6 2)])), ((d6 1), .inl (eC (kZ K) 0, 8, .inl (fun _ => 0))), ((d6 2), .inl (eC (kZ K) 0, 8, .inl (fun _ => 0))), ((d8 0), .inr (2, [.int 4, .ref (d8 1), .ref (d8 2)])), ((d8 1), .inl (eC (kZ K) 0, 8, .inl (fun _ => 0))), ((d8 2), .inl (eC (kZ K) 0, 8, .inl (fun _ => 0))), ((d10 0), .inr (2, [.int 4, .ref (d10 1), .ref (d10 2)])), ((d10 1), .inl (eC (kZ K) 0, 8, .inl (fun _ => 0))), ((d10 2), .inl (eC (kZ K) 0, 8, .inl (fun _ => 0))), ((d12 0), .inr (5, [.int 0, .int 0, .ref (d12 1), .ref (d12 2), .ref (d12 3)])), ((d12 1), .inl (eC (kZ K) 0, 8, .inl (fun _ => 0))), ((d12 2), .inl (eC (kZ K) 0, 8, .inl (fun _ => 0))), ((d12 3), .inl (eC (kZ K) 1, 8, .inr (.inl (fun _ => 0)))), ((d14 0), .inr (0, [.int 0, .int 0, .int 0, .ref (d14 1), .ref (d14 2), .ref (d14 3), .ref (d14 4)])), ((d14 1), .inl (eC (kZ K) 0, 8, .inl (fun _ => 0))), ((d14 2), .inl (eC (kZ K) 0, 64, .inl (fun _ => 0))), ((d14 3), .inl (eC (kZ K) 0, 8, .inl (fun _ => 0))), ((d14 4), .inl (eC (kZ K) 0, 8, .inl (fun _ => 0)))]) rfl dX7_init_68 ?_
  refine V_aload_n hk 1 dX7_init_71 rfl rfl ?_
  refine V_new hk (ci := 4) tyX4 tok_TX4 in_X7_init_Mapping ⟨wd_X7_init_28, wd_X7_init_29, wd_X7_init_30⟩ rfl (fs := [.null, .null, .null]) (fun j hj => by rcases (show j = 0 ∨ j = 1 ∨ j = 2 by omega) with rfl | rfl | rfl <;> rfl) ⟨Nat.le_of_ble_eq_true rfl, Nat.le_of_ble_eq_true rfl⟩ dX7_init_72 (fun q15 => ?_)
  refine V_dup hk dX7_init_75 rfl ?_
  refine V_callI hk (c_X4_init (l := kL K)) hao gX7_init_X4_init_n36 nw_62 rfl ⟨wd_X7_init_31, wd_X7_init_32⟩ (by decide +kernel) rfl ⟨Nat.le_of_ble_eq_true rfl, Nat.le_of_ble_eq_true rfl⟩ (Nat.le_of_ble_eq_true rfl) ⟨Nat.le_of_ble_eq_true rfl, Nat.le_of_ble_eq_true rfl⟩ dX7_init_76 (fun d16 ha => ?_)
  subst ha
  show V K 35 292 79 [(1, .int 4), (0, .ref (eA (kZ K) 0))] [.ref (d16 0), .ref (eA (kZ K) 0)] ([(eA (kZ K) 0, .inr (6, [.ref q0, .ref (d10 0), .ref (d12 0), .ref (d14 0), .null, .null])), (q0, .inl (eC (kZ K) 3, 4, .inr (.inr (.inr (.inr (va_up (va_up (va_up (va_up (fun _ => none) 0 (some (d2 0))) 1 (some (d4 0))) 2 (some (d6 0))) 3 (some (d8 0)))))))), ((d2 0), .inr (2, [.int 4, .ref (d2 1), .ref (d2 2)])), ((d2 1), .inl (eC (kZ K) 0, 8, .inl (fun _ => 0))), ((d2 2), .inl (eC (kZ K) 0, 8, .inl (fun _ => 0))), ((d4 0), .inr (2, [.int 4, .ref (d4 1), .ref (d4 2)])), ((d4 1), .inl (eC (kZ K) 0, 8, .inl (fun _ => 0))), ((d4 2), .inl (eC (kZ K) 0, 8, .inl (fun _ => 0))), ((d6 0), .inr (2, [.int 4, .ref (d6 1), .ref (d6 2)])), ((d6 1), .inl (eC (kZ K) 0, 8, .inl (fun _ => 0))), ((d6 2), .inl (eC (kZ K) 0, 8, .inl (fun _ => 0))), ((d8 0), .inr (2, [.int 4, .ref (d8 1), .ref (d8 2)])), ((d8 1), .inl (eC (kZ K) 0, 8, .inl (fun _ => 0))), ((d8 2), .inl (eC (kZ K) 0, 8, .inl (fun _ => 0))), ((d10 0), .inr (2, [.int 4, .ref (d10 1), .ref (d10 2)])), ((d10 1), .inl (eC (kZ K) 0, 8, .inl (fun _ => 0))), ((d10 2), .inl (eC (kZ K) 0, 8, .inl (fun _ => 0))), ((d12 0), .inr (5, [.int 0, .int 0, .ref (d12 1), .ref (d12 2), .ref (d12 3)])), ((d12 1), .inl (eC (kZ K) 0, 8, .inl (fun _ => 0))), ((d12 2), .inl (eC (kZ K) 0, 8, .inl (fun _ => 0))), ((d12 3), .inl (eC (kZ K) 1, 8, .inr (.inl (fun _ => 0)))), ((d14 0), .inr (0, [.int 0, .int 0, .int 0, .ref (d14 1), .ref (d14 2), .ref (d14 3), .ref (d14 4)])), ((d14 1), .inl (eC (kZ K) 0, 8, .inl (fun _ => 0))), ((d14 2), .inl (eC (kZ K) 0, 64, .inl (fun _ => 0))), ((d14 3), .inl (eC (kZ K) 0, 8, .inl (fun _ => 0))), ((d14 4), .inl (eC (kZ K) 0, 8, .inl (fun _ => 0))), ((d16 0), .inr (4, [.ref (d16 1), .ref (d16 2), .ref (d16 6)])), ((d16 1), .inl (eC (kZ K) 0, 8, .inl (fun _ => 0))), ((d16 2), .inr (5, [.int 0, .int 0, .ref (d16 3), .ref (d16 4), .ref (d16 5)])), ((d16 3), .inl (eC (kZ K) 0, 8, .inl (fun _ => 0))), ((d16 4), .inl (eC (kZ K) 0, 8, .inl (fun _ => 0))), ((d16 5), .inl (eC (kZ K) 1, 8, .inr (.inl (fun _ => 0)))), ((d16 6), .inr (5, [.int 0, .int 0, .ref (d16 7), .ref (d16 8), .ref (d16 9)])), ((d16 7), .inl (eC (kZ K) 0, 8, .inl (fun _ => 0))), ((d16 8), .inl (eC (kZ K) 0, 8, .inl (fun _ => 0))), ((d16 9), .inl (eC (kZ K) 1, 8, .inr (.inl (fun _ => 0))))])
  refine V_putF hk hin in_X7_init_CanonCote tyX7 tok_TX7 tnm_TX7 rfl 0 rfl 4 (by decide) wd_X7_init_33 rfl rfl (tok_TX7 4 (by decide)) rfl rfl (Nat.le_of_ble_eq_true rfl) (ws' := [(eA (kZ K) 0, .inr (6, [.ref q0, .ref (d10 0), .ref (d12 0), .ref (d14 0), .ref (d16 0), .null])), (q0, .inl (eC (kZ K) 3, 4, .inr (.inr (.inr (.inr (va_up (va_up (va_up (va_up (fun _ => none) 0 (some (d2 0))) 1 (some (d4 0))) 2 (some (d6 0))) 3 (some (d8 0)))))))), ((d2 0), .inr (2, [.int 4, .ref (d2 1), .ref (d2 2)])), ((d2 1), .inl (eC (kZ K) 0, 8, .inl (fun _ => 0))), ((d2 2), .inl (eC (kZ K) 0, 8, .inl (fun _ => 0))), ((d4 0), .inr (2, [.int 4, .ref (d4 1), .ref (d4 2)])), ((d4 1), .inl (eC (kZ K) 0, 8, .inl (fun _ => 0))), ((d4 2), .inl (eC (kZ K) 0, 8, .inl (fun _ => 0))), ((d6 0), .inr (2, [.int 4, .ref (d6 1), .ref (d6 2)])), ((d6 1), .inl (eC (kZ K) 0, 8, .inl (fun _ => 0))), ((d6 2), .inl (eC (kZ K) 0, 8, .inl (fun _ => 0))), ((d8 0), .inr (2, [.int 4, .ref (d8 1), .ref (d8 2)])), ((d8 1), .inl (eC (kZ K) 0, 8, .inl (fun _ => 0))), ((d8 2), .inl (eC (kZ K) 0, 8, .inl (fun _ => 0))), ((d10 0), .inr (2, [.int 4, .ref (d10 1), .ref (d10 2)])), ((d10 1), .inl (eC (kZ K) 0, 8, .inl (fun _ => 0))), ((d10 2), .inl (eC (kZ K) 0, 8, .inl (fun _ => 0))), ((d12 0), .inr (5, [.int 0, .int 0, .ref (d12 1), .ref (d12 2), .ref (d12 3)])), ((d12 1), .inl (eC (kZ K) 0, 8, .inl (fun _ => 0))), ((d12 2), .inl (eC (kZ K) 0, 8, .inl (fun _ => 0))), ((d12 3), .inl (eC (kZ K) 1, 8, .inr (.inl (fun _ => 0)))), ((d14 0), .inr (0, [.int 0, .int 0, .int 0, .ref (d14 1), .ref (d14 2), .ref (d14 3), .ref (d14 4)])), ((d14 1), .inl (eC (kZ K) 0, 8, .inl (fun _ => 0))), ((d14 2), .inl (eC (kZ K) 0, 64, .inl (fun _ => 0))), ((d14 3), .inl (eC (kZ K) 0, 8, .inl (fun _ => 0))), ((d14 4), .inl (eC (kZ K) 0, 8, .inl (fun _ => 0))), ((d16 0), .inr (4, [.ref (d16 1), .ref (d16 2), .ref (d16 6)])), ((d16 1), .inl (eC (kZ K) 0, 8, .inl (fun _ => 0))), ((d16 2), .inr (5, [.int 0, .int 0, .ref (d16 3), .ref (d16 4), .ref (d16 5)])), ((d16 3), .inl (eC (kZ K) 0, 8, .inl (fun _ => 0))), ((d16 4), .inl (eC (kZ K) 0, 8, .inl (fun _ => 0))), ((d16 5), .inl (eC (kZ K) 1, 8, .inr (.inl (fun _ => 0)))), ((d16 6), .inr (5, [.int 0, .int 0, .ref (d16 7), .ref (d16 8), .ref (d16 9)])), ((d16 7), .inl (eC (kZ K) 0, 8, .inl (fun _ => 0))), ((d16 8), .inl (eC (kZ K) 0, 8, .inl (fun _ => 0))), ((d16 9), .inl (eC (kZ K) 1, 8, .inr (.inl (fun _ => 0))))]) rfl dX7_init_79 ?_
  refine V_aload_n hk 1 dX7_init_82 rfl rfl ?_
  refine V_new hk (ci := 3) tyX3 tok_TX3 in_X7_init_Group ⟨wd_X7_init_35, wd_X7_init_36, wd_X7_init_37⟩ rfl (fs := [.int 0, .null, .null, .null]) (fun j hj => by rcases (show j = 0 ∨ j = 1 ∨ j = 2 ∨ j = 3 by omega) with rfl | rfl | rfl | rfl <;> rfl) ⟨Nat.le_of_ble_eq_true rfl, Nat.le_of_ble_eq_true rfl⟩ dX7_init_83 (fun q17 => ?_)
  refine V_dup hk dX7_init_86 rfl ?_
  refine V_callI hk (c_X3_init (l := kL K) hτ) hao gX7_init_X3_init_n43 nw_63 rfl ⟨wd_X7_init_38, wd_X7_init_39⟩ (by decide +kernel) rfl ⟨Nat.le_of_ble_eq_true rfl, Nat.le_of_ble_eq_true rfl⟩ (Nat.le_of_ble_eq_true rfl) ⟨Nat.le_of_ble_eq_true rfl, Nat.le_of_ble_eq_true rfl⟩ dX7_init_87 (fun d18 ha => ?_)
  subst ha
  show V K 45 514 90 [(1, .int 4), (0, .ref (eA (kZ K) 0))] [.ref (d18 0), .ref (eA (kZ K) 0)] ([(eA (kZ K) 0, .inr (6, [.ref q0, .ref (d10 0), .ref (d12 0), .ref (d14 0), .ref (d16 0), .null])), (q0, .inl (eC (kZ K) 3, 4, .inr (.inr (.inr (.inr (va_up (va_up (va_up (va_up (fun _ => none) 0 (some (d2 0))) 1 (some (d4 0))) 2 (some (d6 0))) 3 (some (d8 0)))))))), ((d2 0), .inr (2, [.int 4, .ref (d2 1), .ref (d2 2)])), ((d2 1), .inl (eC (kZ K) 0, 8, .inl (fun _ => 0))), ((d2 2), .inl (eC (kZ K) 0, 8, .inl (fun _ => 0))), ((d4 0), .inr (2, [.int 4, .ref (d4 1), .ref (d4 2)])), ((d4 1), .inl (eC (kZ K) 0, 8, .inl (fun _ => 0))), ((d4 2), .inl (eC (kZ K) 0, 8, .inl (fun _ => 0))), ((d6 0), .inr (2, [.int 4, .ref (d6 1), .ref (d6 2)])), ((d6 1), .inl (eC (kZ K) 0, 8, .inl (fun _ => 0))), ((d6 2), .inl (eC (kZ K) 0, 8, .inl (fun _ => 0))), ((d8 0), .inr (2, [.int 4, .ref (d8 1), .ref (d8 2)])), ((d8 1), .inl (eC (kZ K) 0, 8, .inl (fun _ => 0))), ((d8 2), .inl (eC (kZ K) 0, 8, .inl (fun _ => 0))), ((d10 0), .inr (2, [.int 4, .ref (d10 1), .ref (d10 2)])), ((d10 1), .inl (eC (kZ K) 0, 8, .inl (fun _ => 0))), ((d10 2), .inl (eC (kZ K) 0, 8, .inl (fun _ => 0))), ((d12 0), .inr (5, [.int 0, .int 0, .ref (d12 1), .ref (d12 2), .ref (d12 3)])), ((d12 1), .inl (eC (kZ K) 0, 8, .inl (fun _ => 0))), ((d12 2), .inl (eC (kZ K) 0, 8, .inl (fun _ => 0))), ((d12 3), .inl (eC (kZ K) 1, 8, .inr (.inl (fun _ => 0)))), ((d14 0), .inr (0, [.int 0, .int 0, .int 0, .ref (d14 1), .ref (d14 2), .ref (d14 3), .ref (d14 4)])), ((d14 1), .inl (eC (kZ K) 0, 8, .inl (fun _ => 0))), ((d14 2), .inl (eC (kZ K) 0, 64, .inl (fun _ => 0))), ((d14 3), .inl (eC (kZ K) 0, 8, .inl (fun _ => 0))), ((d14 4), .inl (eC (kZ K) 0, 8, .inl (fun _ => 0))), ((d16 0), .inr (4, [.ref (d16 1), .ref (d16 2), .ref (d16 6)])), ((d16 1), .inl (eC (kZ K) 0, 8, .inl (fun _ => 0))), ((d16 2), .inr (5, [.int 0, .int 0, .ref (d16 3), .ref (d16 4), .ref (d16 5)])), ((d16 3), .inl (eC (kZ K) 0, 8, .inl (fun _ => 0))), ((d16 4), .inl (eC (kZ K) 0, 8, .inl (fun _ => 0))), ((d16 5), .inl (eC (kZ K) 1, 8, .inr (.inl (fun _ => 0)))), ((d16 6), .inr (5, [.int 0, .int 0, .ref (d16 7), .ref (d16 8), .ref (d16 9)])), ((d16 7), .inl (eC (kZ K) 0, 8, .inl (fun _ => 0))), ((d16 8), .inl (eC (kZ K) 0, 8, .inl (fun _ => 0))), ((d16 9), .inl (eC (kZ K) 1, 8, .inr (.inl (fun _ => 0)))), ((d18 0), .inr (3, [.int (gI τ 0 0), .ref (d18 1), .ref (d18 2), .ref (d18 6)])), ((d18 1), .inl (eC (kZ K) 1, 6, .inr (.inl (τ.2 1)))), ((d18 2), .inr (1, [.int (gI τ 2 0), .int (gI τ 2 1), .int (gI τ 2 2), .ref (d18 3), .ref (d18 4), .ref (d18 5)])), ((d18 3), .inl (eC (kZ K) 0, 8, .inl (τ.1 3))), ((d18 4), .inl (eC (kZ K) 1, 28, .inr (.inl (τ.2 4)))), ((d18 5), .inl (eC (kZ K) 1, 64, .inr (.inl (τ.2 5)))), ((d18 6), .inr (1, [.int (gI τ 6 0), .int (gI τ 6 1), .int (gI τ 6 2), .ref (d18 7), .ref (d18 8), .ref (d18 9)])), ((d18 7), .inl (eC (kZ K) 0, 8, .inl (τ.1 7))), ((d18 8), .inl (eC (kZ K) 1, 28, .inr (.inl (τ.2 8)))), ((d18 9), .inl (eC (kZ K) 1, 64, .inr (.inl (τ.2 9))))])
  refine V_putF hk hin in_X7_init_CanonCote tyX7 tok_TX7 tnm_TX7 rfl 0 rfl 5 (by decide) wd_X7_init_40 rfl rfl (tok_TX7 5 (by decide)) rfl rfl (Nat.le_of_ble_eq_true rfl) (ws' := [(eA (kZ K) 0, .inr (6, [.ref q0, .ref (d10 0), .ref (d12 0), .ref (d14 0), .ref (d16 0), .ref (d18 0)])), (q0, .inl (eC (kZ K) 3, 4, .inr (.inr (.inr (.inr (va_up (va_up (va_up (va_up (fun _ => none) 0 (some (d2 0))) 1 (some (d4 0))) 2 (some (d6 0))) 3 (some (d8 0)))))))), ((d2 0), .inr (2, [.int 4, .ref (d2 1), .ref (d2 2)])), ((d2 1), .inl (eC (kZ K) 0, 8, .inl (fun _ => 0))), ((d2 2), .inl (eC (kZ K) 0, 8, .inl (fun _ => 0))), ((d4 0), .inr (2, [.int 4, .ref (d4 1), .ref (d4 2)])), ((d4 1), .inl (eC (kZ K) 0, 8, .inl (fun _ => 0))), ((d4 2), .inl (eC (kZ K) 0, 8, .inl (fun _ => 0))), ((d6 0), .inr (2, [.int 4, .ref (d6 1), .ref (d6 2)])), ((d6 1), .inl (eC (kZ K) 0, 8, .inl (fun _ => 0))), ((d6 2), .inl (eC (kZ K) 0, 8, .inl (fun _ => 0))), ((d8 0), .inr (2, [.int 4, .ref (d8 1), .ref (d8 2)])), ((d8 1), .inl (eC (kZ K) 0, 8, .inl (fun _ => 0))), ((d8 2), .inl (eC (kZ K) 0, 8, .inl (fun _ => 0))), ((d10 0), .inr (2, [.int 4, .ref (d10 1), .ref (d10 2)])), ((d10 1), .inl (eC (kZ K) 0, 8, .inl (fun _ => 0))), ((d10 2), .inl (eC (kZ K) 0, 8, .inl (fun _ => 0))), ((d12 0), .inr (5, [.int 0, .int 0, .ref (d12 1), .ref (d12 2), .ref (d12 3)])), ((d12 1), .inl (eC (kZ K) 0, 8, .inl (fun _ => 0))), ((d12 2), .inl (eC (kZ K) 0, 8, .inl (fun _ => 0))), ((d12 3), .inl (eC (kZ K) 1, 8, .inr (.inl (fun _ => 0)))), ((d14 0), .inr (0, [.int 0, .int 0, .int 0, .ref (d14 1), .ref (d14 2), .ref (d14 3), .ref (d14 4)])), ((d14 1), .inl (eC (kZ K) 0, 8, .inl (fun _ => 0))), ((d14 2), .inl (eC (kZ K) 0, 64, .inl (fun _ => 0))), ((d14 3), .inl (eC (kZ K) 0, 8, .inl (fun _ => 0))), ((d14 4), .inl (eC (kZ K) 0, 8, .inl (fun _ => 0))), ((d16 0), .inr (4, [.ref (d16 1), .ref (d16 2), .ref (d16 6)])), ((d16 1), .inl (eC (kZ K) 0, 8, .inl (fun _ => 0))), ((d16 2), .inr (5, [.int 0, .int 0, .ref (d16 3), .ref (d16 4), .ref (d16 5)])), ((d16 3), .inl (eC (kZ K) 0, 8, .inl (fun _ => 0))), ((d16 4), .inl (eC (kZ K) 0, 8, .inl (fun _ => 0))), ((d16 5), .inl (eC (kZ K) 1, 8, .inr (.inl (fun _ => 0)))), ((d16 6), .inr (5, [.int 0, .int 0, .ref (d16 7), .ref (d16 8), .ref (d16 9)])), ((d16 7), .inl (eC (kZ K) 0, 8, .inl (fun _ => 0))), ((d16 8), .inl (eC (kZ K) 0, 8, .inl (fun _ => 0))), ((d16 9), .inl (eC (kZ K) 1, 8, .inr (.inl (fun _ => 0)))), ((d18 0), .inr (3, [.int (gI τ 0 0), .ref (d18 1), .ref (d18 2), .ref (d18 6)])), ((d18 1), .inl (eC (kZ K) 1, 6, .inr (.inl (τ.2 1)))), ((d18 2), .inr (1, [.int (gI τ 2 0), .int (gI τ 2 1), .int (gI τ 2 2), .ref (d18 3), .ref (d18 4), .ref (d18 5)])), ((d18 3), .inl (eC (kZ K) 0, 8, .inl (τ.1 3))), ((d18 4), .inl (eC (kZ K) 1, 28, .inr (.inl (τ.2 4)))), ((d18 5), .inl (eC (kZ K) 1, 64, .inr (.inl (τ.2 5)))), ((d18 6), .inr (1, [.int (gI τ 6 0), .int (gI τ 6 1), .int (gI τ 6 2), .ref (d18 7), .ref (d18 8), .ref (d18 9)])), ((d18 7), .inl (eC (kZ K) 0, 8, .inl (τ.1 7))), ((d18 8), .inl (eC (kZ K) 1, 28, .inr (.inl (τ.2 8)))), ((d18 9), .inl (eC (kZ K) 1, 64, .inr (.inl (τ.2 9))))]) rfl dX7_init_90 ?_
  exact V_ret hk hq (fun j => ([eA (kZ K) 0, q0, (d2 0), (d2 1), (d2 2), (d4 0), (d4 1), (d4 2), (d6 0), (d6 1), (d6 2), (d8 0), (d8 1), (d8 2), (d10 0), (d10 1), (d10 2), (d12 0), (d12 1), (d12 2), (d12 3), (d14 0), (d14 1), (d14 2), (d14 3), (d14 4), (d16 0), (d16 1), (d16 2), (d16 3), (d16 4), (d16 5), (d16 6), (d16 7), (d16 8), (d16 9), (d18 0), (d18 1), (d18 2), (d18 3), (d18 4), (d18 5), (d18 6), (d18 7), (d18 8), (d18 9)] : List Nat).getD j 0) rfl rfl ⟨Nat.le_of_ble_eq_true rfl, Nat.le_of_ble_eq_true rfl⟩ dX7_init_93
end
