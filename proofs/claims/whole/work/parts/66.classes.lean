/-! MATHEMATICS, 17: classes, classOf, rounds -/
section
theorem RS.ss {n : Nat} {M C : Nat → Nat} {σ s : zST} {T : Nat} (h : RS 17 n M C σ T s) : Fr SS σ s := h.2.2.2.2.mono (fun p j h => by unfold SS; omega)
theorem RR.ss {n : Nat} {M C : Nat → Nat} {σ s : zST} {T : Nat} (h : RR n M C σ T s) : Fr SS σ s := h.2.2.mono (fun p j h => by unfold SS; omega)
theorem cls_both (F : Nat) (hF : 9 < F) {k n : Nat} (hk : k < 4) {M C : Nat → Nat} {σ : zST} (hG : Gr n M C) (hA : At (2 + 3 * k) n M C σ) (hR : RAt k n M C σ) : ∃ T, 1 ≤ T ∧ T ≤ 8 ∧ ∃ s1, m_X6_refine F 17 (2 + 3 * k) σ = some s1 ∧ RS 17 n M C σ T s1 ∧ ∀ x, ∃ s2, m_X8_refines F 46 (nI k) (sI (sL s1 60 0 x) 46 16 0) = some (nI (Cn n M C T), s2) ∧ RR n M C (sI (sL s1 60 0 x) 46 16 0) T s2 := by
  obtain ⟨T, a, b, c⟩ := endR_ex hG.1.1 hG.1.2 M C
  obtain ⟨s1, e1, r1⟩ := refine_cl F hF (r := 17) (p := 2 + 3 * k) (by omega) hG hA ⟨a, b, c⟩
  refine ⟨T, a, b, s1, e1, r1, fun x => ?_⟩
  have hR1 : RAt k n M C (sI (sL s1 60 0 x) 46 16 0) := hR.mv (S := fun q _ => q ≤ 46 ∨ q = 60) ((r1.2.2.2.2.mono (fun p j h => by omega)).tr ((Fr.sL (by omega)).tr (Fr.sI (by omega)))) (fun q j a b => by omega)
  exact refines_rf F hF hk hG hR1 ⟨a, b, c⟩
theorem op_classes {J : zST → Prop} (hJ : Nb J) (F : Nat) (hF : 9 < F) (x : Int32) : Op (GJ J) (m_L_classes F 1 0 x 60) (m_X8_classes F 46 x) := by
  refine Op.g hJ (cl := fun x => m_L_classes F 1 0 x 60) (rf := m_X8_classes F 46) (fun x hx σ => bL_classes F hx σ) (fun x hx σ => bX_classes F hx σ) (fun σ h k hk n M C hG hA hR => ?_) x
  obtain ⟨T, hT1, hT8, s1, e1, r1, hx⟩ := cls_both F hF hk hG hA hR
  obtain ⟨s2, e2, r2⟩ := hx (nI (Cn n M C T)).toInt64
  refine Ok1.rd hJ h (r := nI (Cn n M C T)) (σ1 := sL s1 60 0 (nI (Cn n M C T)).toInt64) (σ2 := s2) ?_ ?_ (r1.ss.tr (Fr.sL (by unfold SS; omega))) ((Fr.sI (by unfold SS; omega)).tr r2.ss) ?_ ?_
  · unfold m_L_classes m_X7_classes
    simp only [Nat.reduceAdd]
    rw [graphAt_ok F hk, bx_inr, e1, bv_some, bc_inr, out_at, r1.1]
  · unfold m_X8_classes
    rw [isGraph_ok F hk, bd_some, goes_0 F n10 n10, bd_some, if_neg n10, e2, bd_some]
  · rw [(r2.2.2 46 16 (by omega)).1, gI_same]
  · rw [(r2.2.2 60 0 (by omega)).2, gL_sI, gL_same]
theorem op_rounds {J : zST → Prop} (hJ : Nb J) (F : Nat) (hF : 9 < F) (x : Int32) : Op (GJ J) (m_L_rounds F 1 0 x 60) (m_X8_rounds F 46 x) := by
  refine Op.g hJ (cl := fun x => m_L_rounds F 1 0 x 60) (rf := m_X8_rounds F 46) (fun x hx σ => bL_rounds F hx σ) (fun x hx σ => bX_rounds F hx σ) (fun σ h k hk n M C hG hA hR => ?_) x
  obtain ⟨T, hT1, hT8, s1, e1, r1, hx⟩ := cls_both F hF hk hG hA hR
  obtain ⟨s2, e2, r2⟩ := hx (nI T).toInt64
  refine Ok1.rd hJ h (r := nI T) (σ1 := sL s1 60 0 (nI T).toInt64) (σ2 := s2) ?_ ?_ (r1.ss.tr (Fr.sL (by unfold SS; omega))) ((Fr.sI (by unfold SS; omega)).tr r2.ss) ?_ ?_
  · unfold m_L_rounds m_X7_rounds
    simp only [Nat.reduceAdd]
    rw [graphAt_ok F hk, bx_inr, e1, bv_some, bc_inr, out_at, r1.2.1 (by omega)]
  · unfold m_X8_rounds
    rw [isGraph_ok F hk, bd_some, goes_0 F n10 n10, bd_some, if_neg n10, e2, bd_some, r2.1]
  · rw [(r2.2.2 46 16 (by omega)).1, gI_same]
  · rw [(r2.2.2 60 0 (by omega)).2, gL_sI, gL_same]
theorem op_classOf {J : zST → Prop} (hJ : Nb J) (F : Nat) (hF : 9 < F) (x y : Int32) : Op (GJ J) (m_L_classOf F 1 0 x y 60) (m_X8_classOf F 46 x y) := by
  refine Op.v hJ (cl := fun x y => m_L_classOf F 1 0 x y 60) (rf := m_X8_classOf F 46) (fun x hx y σ => bL_classOf F hx y σ) (fun x hx y σ => bX_classOf F hx y σ) (fun k n hk y hy σ hg => dL_classOf F hk hy hg) (fun k n hk y hy σ hg h1 h8 => dX_classOf F hk hy hg h1 h8) (fun σ h k hk n M C hG hA hR v hv => ?_) x y
  have h8 := hG.1.2
  obtain ⟨T, hT1, hT8, s1, e1, r1, hx⟩ := cls_both F hF hk hG hA hR
  obtain ⟨s2, e2, r2⟩ := hx (nI (Rk n M C T v)).toInt64
  have hv1 : gI (sL s1 60 0 (nI (Rk n M C T v)).toInt64) 47 k = nI n := by
    rw [gI_sL, (r1.2.2.2.2 47 k (by omega)).1, hR.1]
  refine Ok1.rd hJ h (r := nI (Rk n M C T v)) (σ1 := sL s1 60 0 (nI (Rk n M C T v)).toInt64) (σ2 := s2) ?_ ?_ (r1.ss.tr (Fr.sL (by unfold SS; omega))) ((Fr.sI (by unfold SS; omega)).tr r2.ss) ?_ ?_
  · unfold m_L_classOf m_X7_classOf
    simp only [Nat.reduceAdd]
    rw [graphAt_ok F hk, bx_inr, checkV_ok F hv (by omega) hA.1, bx_inr, e1, bv_some, ldI_at (by omega) (by omega), bc_inr, out_at, r1.2.2.1 v hv]
  · unfold m_X8_classOf
    rw [isVertex_ok F hk hv1 h8 hv, bd_some, goes_0 F n10 n10, bd_some, if_neg n10, e2, bd_some, ldI_at (by omega) (by omega)]
    simp only [Nat.reduceAdd]
    rw [r2.2.1 v hv]
  · rw [(r2.2.2 46 16 (by omega)).1, gI_same]
  · rw [(r2.2.2 60 0 (by omega)).2, gL_sI, gL_same]
end
