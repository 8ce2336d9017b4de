/-! MATHEMATICS, 32: add, the whole -/
section
def KG (q p j : Nat) : Prop := (p = q ∧ j ≤ 2) ∨ p = q + 2 ∨ p = q + 3
theorem CK.sI2 {q : Nat} {b : Nat → Nat} {E : Nat → Nat → Option (Nat → Nat)} {m : Nat} {kt : Nat → Nat → Nat} {σ : zST} (h : CK q b E m kt σ) (x : Int32) : CK q b E m kt (sI σ q 2 x) := by
  obtain ⟨⟨a, a'⟩, c, d, e, f, g, i, j⟩ := h
  exact ⟨⟨fun k hk => by rw [gI_sI, if_neg (by omega), a k hk], fun k y hk hy => by rw [gL_sI, a' k y hk hy]⟩, c, by rw [gI_sI, if_neg (by omega), d], by rw [gI_sI, if_neg (by omega), e], f, fun k hk => by rw [gL_sI]; exact g k hk, i, j⟩
theorem add_outer (F : Nat) (hF : 30 < F) {q most : Nat} (hmost : most < 2 ^ 31) {b : Nat → Nat} : ∀ (d a4 n : Nat) (E : Nat → Nat → Option (Nat → Nat)) (m : Nat) (kt : Nat → Nat → Nat) (σ : zST), a4 + d = 28 → d < n → CK q b E m kt σ → a4 ≤ m → Cl b E kt most a4 → ∃ τ E' m' kt', m_X1_add_11 F n q (nI most) (nI a4) σ = some τ ∧ CK q b E' m' kt' τ ∧ gI τ q 2 = nI m' ∧ Gw E m kt E' m' kt' ∧ Qs E E' ∧ Cl b E' kt' most m' ∧ Fr (KG q) σ τ := by
  intro d
  induction d with
  | zero =>
    intro a4 n E m kt σ hd hn hC hm hP
    obtain ⟨n, rfl⟩ : ∃ k, n = k + 1 := ⟨n - 1, by omega⟩
    have h28 := hC.m28
    have : a4 = m := by omega
    subst this
    refine ⟨sI σ q 2 (nI a4), E, a4, kt, ?_, hC.sI2 _, gI_same _ _ _ _, Gw.rf, Qs.rf, hP, Fr.sI (by unfold KG; omega)⟩
    rw [m_X1_add_11]; dsimp only
    unfold m_X1_add_99
    rw [hC.2.2.2.1, if_pos (nI_le (by omega) (by omega)), nm_eq]
  | succ d ih =>
    intro a4 n E m kt σ hd hn hC hm hP
    obtain ⟨n, rfl⟩ : ∃ k, n = k + 1 := ⟨n - 1, by omega⟩
    have h28 := hC.m28
    by_cases e : m ≤ a4
    · have : a4 = m := by omega
      subst this
      refine ⟨sI σ q 2 (nI a4), E, a4, kt, ?_, hC.sI2 _, gI_same _ _ _ _, Gw.rf, Qs.rf, hP, Fr.sI (by unfold KG; omega)⟩
      rw [m_X1_add_11]; dsimp only
      unfold m_X1_add_99
      rw [hC.2.2.2.1, if_pos (nI_le (by omega) (by omega)), nm_eq]
    · obtain ⟨s1, E1, m1, kt1, e1, c1, g1, q1, l1, f1⟩ := add_inner F (by omega) hmost (a4 := a4) (m_X1_add_11 F n) (a4 + 1) 0 F E m kt σ (by omega) (by omega) hC (by omega) (by
        rcases hP with p | p
        · exact Or.inl ⟨p, fun y hy => absurd hy (by omega)⟩
        · exact Or.inr p)
      obtain ⟨τ, E', m', kt', e2, c2, z, g2, q2, l2, f2⟩ := ih (a4 + 1) n E1 m1 kt1 s1 (by omega) (by omega) c1 (Nat.le_trans (by omega) g1.2.1) l1
      refine ⟨τ, E', m', kt', ?_, c2, z, g1.tr g2, q1.tr q2, l2, (f1.mono (fun p j h => by unfold KF at h; unfold KG; omega)).tr f2⟩
      rw [m_X1_add_11]; dsimp only
      rw [hC.2.2.2.1, if_neg (nI_ge (by omega) (by omega)), l28, if_neg (nI_ge (by omega) (by omega)), l0, e1]
      exact e2
end

