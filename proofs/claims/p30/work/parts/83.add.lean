/-! MATHEMATICS, 31: add -/
section
/-- a chain that has grown -/
def Gw (E : Nat → Nat → Option (Nat → Nat)) (m : Nat) (kt : Nat → Nat → Nat) (E' : Nat → Nat → Option (Nat → Nat)) (m' : Nat) (kt' : Nat → Nat → Nat) : Prop := (∀ i x u, E i x = some u → E' i x = some u) ∧ m ≤ m' ∧ ∀ a, a < m → kt' a = kt a
theorem Gw.rf {E : Nat → Nat → Option (Nat → Nat)} {m : Nat} {kt : Nat → Nat → Nat} : Gw E m kt E m kt := ⟨fun _ _ _ h => h, Nat.le_refl _, fun _ _ => rfl⟩
theorem Gw.tr {E E1 E2 : Nat → Nat → Option (Nat → Nat)} {m m1 m2 : Nat} {kt kt1 kt2 : Nat → Nat → Nat} (h : Gw E m kt E1 m1 kt1) (g : Gw E1 m1 kt1 E2 m2 kt2) : Gw E m kt E2 m2 kt2 := ⟨fun i x u e => g.1 i x u (h.1 i x u e), Nat.le_trans h.2.1 g.2.1, fun a ha => (g.2.2 a (Nat.lt_of_lt_of_le ha h.2.1)).trans (h.2.2 a ha)⟩
/-- closed sets that hold the one hold the other -/
def Qs (E E' : Nat → Nat → Option (Nat → Nat)) : Prop := ∀ Q, Clo Q → (∀ i x u, E i x = some u → Q u) → ∀ i x u, E' i x = some u → Q u
theorem Qs.rf {E : Nat → Nat → Option (Nat → Nat)} : Qs E E := fun _ _ h => h
theorem Qs.tr {E E1 E2 : Nat → Nat → Option (Nat → Nat)} (h : Qs E E1) (g : Qs E1 E2) : Qs E E2 := fun Q hQ hE => g Q hQ (h Q hQ hE)
/-- the pair a, c of kept elements sifts, both ways -/
def Pr (b : Nat → Nat) (E : Nat → Nat → Option (Nat → Nat)) (kt : Nat → Nat → Nat) (a c : Nat) : Prop := SS8 b E 8 (fun j => kt a (kt c j)) ∧ SS8 b E 8 (fun j => kt c (kt a j))
theorem Pr.mono {b : Nat → Nat} {E E' : Nat → Nat → Option (Nat → Nat)} {m m' : Nat} {kt kt' : Nat → Nat → Nat} (hV : VE b E) (hg : Gw E m kt E' m' kt') {a c : Nat} (ha : a < m) (hc : c < m) (h : Pr b E kt a c) : Pr b E' kt' a c := by
  unfold Pr
  rw [hg.2.2 a ha, hg.2.2 c hc]
  exact ⟨SS8_mono hV hg.1 8 (Nat.le_refl _) _ h.1, SS8_mono hV hg.1 8 (Nat.le_refl _) _ h.2⟩
def KF (q p j : Nat) : Prop := (p = q ∧ (j = 0 ∨ j = 1)) ∨ p = q + 2 ∨ p = q + 3
theorem CK.kQ {q : Nat} {b : Nat → Nat} {E : Nat → Nat → Option (Nat → Nat)} {m : Nat} {kt : Nat → Nat → Nat} {σ : zST} (h : CK q b E m kt σ) {Q : (Nat → Nat) → Prop} (hQ : Clo Q) (hE : ∀ i x u, E i x = some u → Q u) {a : Nat} (ha : a < m) : Q (kt a) := by
  obtain ⟨i, x, u, hi, hx, e, ea⟩ := h.2.2.2.2.2.2.2 a ha
  rw [ea]
  exact hQ.2 u (h.2.1.2.2 i x u hi hx e).1 (hE i x u e)
theorem keep2 (F : Nat) (hF : 8 < F) {q : Nat} {b : Nat → Nat} {E : Nat → Nat → Option (Nat → Nat)} {m : Nat} {kt : Nat → Nat → Nat} {σ : zST} (h : CK q b E m kt σ) {a c : Nat} (ha : a < m) (hc : c < m) : ∃ τ E' m' kt', m_X1_keep F q (lN (en (fun j => kt c (kt a j)))) σ = some τ ∧ CK q b E' m' kt' τ ∧ Gw E m kt E' m' kt' ∧ Qs E E' ∧ SS8 b E' 8 (fun j => kt c (kt a j)) ∧ Fr (KF q) σ τ := by
  have pa := (h.2.2.2.2.2.1 a ha).2
  have pc := (h.2.2.2.2.2.1 c hc).2
  obtain ⟨τ, E', m', kt', e, g1, g2, g3, g4, g5, g6, g7⟩ := keep_eq F hF h (pa.comp pc)
  exact ⟨τ, E', m', kt', e, g1, ⟨g2, g4, g5⟩, fun Q hQ hE => g7 Q hQ hE (hQ.1 _ _ (h.kQ hQ hE hc) (h.kQ hQ hE ha)), g3, g6⟩
theorem Pr.sy {b : Nat → Nat} {E : Nat → Nat → Option (Nat → Nat)} {kt : Nat → Nat → Nat} {a c : Nat} (h : Pr b E kt a c) : Pr b E kt c a := ⟨h.2, h.1⟩
theorem prodFrom_le (E : Nat → Nat → Option (Nat → Nat)) : ∀ d, prodFrom E d ≤ 8 ^ d
  | 0 => by rw [prodFrom]; omega
  | d + 1 => by
    rw [prodFrom, Nat.pow_succ, Nat.mul_comm]
    exact Nat.mul_le_mul (prodFrom_le E d) (row_le E _)
theorem prod8 (E : Nat → Nat → Option (Nat → Nat)) : prodFrom E 8 < 2 ^ 31 := Nat.lt_of_le_of_lt (prodFrom_le E 8) (by decide)
/-- all pairs below c sift, or the chain is full -/
def Cl (b : Nat → Nat) (E : Nat → Nat → Option (Nat → Nat)) (kt : Nat → Nat → Nat) (most c : Nat) : Prop := (∀ x y, x < c → y < c → Pr b E kt x y) ∨ most ≤ prodFrom E 8
theorem add_inner (F : Nat) (hF : 8 < F) {q most a4 : Nat} (hmost : most < 2 ^ 31) {b : Nat → Nat} (k11 : Nat → Int32 → Int32 → zST → Option zST) : ∀ (d a5 n : Nat) (E : Nat → Nat → Option (Nat → Nat)) (m : Nat) (kt : Nat → Nat → Nat) (σ : zST), a5 + d = a4 + 1 → d < n → CK q b E m kt σ → a4 < m → ((∀ x y, x < a4 → y < a4 → Pr b E kt x y) ∧ (∀ y, y < a5 → Pr b E kt a4 y) ∨ most ≤ prodFrom E 8) → ∃ τ E' m' kt', m_X1_add_30 F k11 n q (nI most) (nI a4) (nI a5) σ = k11 q (nI most) (nI (a4 + 1)) τ ∧ CK q b E' m' kt' τ ∧ Gw E m kt E' m' kt' ∧ Qs E E' ∧ Cl b E' kt' most (a4 + 1) ∧ Fr (KF q) σ τ := by
  intro d
  induction d with
  | zero =>
    intro a5 n E m kt σ h5 hn hC hm hP
    obtain ⟨n, rfl⟩ : ∃ k, n = k + 1 := ⟨n - 1, by omega⟩
    have : a5 = a4 + 1 := by omega
    subst this
    have h28 := hC.m28
    refine ⟨σ, E, m, kt, ?_, hC, Gw.rf, Qs.rf, ?_, Fr.rf⟩
    · rw [m_X1_add_30]; dsimp only
      unfold m_X1_add_93
      rw [if_pos (nI_lt (by omega) (by omega)), nm_eq, nI_1]
    · rcases hP with ⟨p1, p2⟩ | p
      · left
        intro x y hx hy
        by_cases ex : x = a4
        · rw [ex]; exact p2 y hy
        · by_cases ey : y = a4
          · rw [ey]; exact (p2 x hx).sy
          · exact p1 x y (by omega) (by omega)
      · exact Or.inr p
  | succ d ih =>
    intro a5 n E m kt σ h5 hn hC hm hP
    obtain ⟨n, rfl⟩ : ∃ k, n = k + 1 := ⟨n - 1, by omega⟩
    have h28 := hC.m28
    have hp := prod8 E
    by_cases hfull : most ≤ prodFrom E 8
    · refine ⟨σ, E, m, kt, ?_, hC, Gw.rf, Qs.rf, Or.inr hfull, Fr.rf⟩
      rw [m_X1_add_30]; dsimp only
      unfold m_X1_add_93
      rw [if_neg (nI_nlt (by omega) (by omega)), hC.2.2.1, if_pos (nI_le hfull hp), nm_eq, nI_1]
    · have hP := hP.resolve_right hfull
      have ka := hC.2.2.2.2.2.1 a4 hm
      have kc := hC.2.2.2.2.2.1 a5 (by omega)
      obtain ⟨s1, E1, m1, kt1, e1, c1, g1, q1, t1, f1⟩ := keep2 F hF hC hm (show a5 < m by omega)
      have hm1 : a4 < m1 := Nat.lt_of_lt_of_le hm g1.2.1
      have hc1 : a5 < m1 := Nat.lt_of_lt_of_le (by omega) g1.2.1
      obtain ⟨s2, E2, m2, kt2, e2, c2, g2, q2, t2, f2⟩ := keep2 F hF c1 hc1 hm1
      have ka1 := c1.2.2.2.2.2.1 a4 hm1
      have kc1 := c1.2.2.2.2.2.1 a5 hc1
      have g := g1.tr g2
      have hpair : Pr b E2 kt2 a4 a5 := by
        unfold Pr
        rw [g.2.2 a4 hm, g.2.2 a5 (by omega)]
        refine ⟨?_, SS8_mono c1.2.1 g2.1 8 (Nat.le_refl _) _ t1⟩
        rw [g1.2.2 a4 hm, g1.2.2 a5 (by omega)] at t2
        exact t2
      obtain ⟨τ, E', m', kt', e3, c3, g3, q3, l3, f3⟩ := ih (a5 + 1) n E2 m2 kt2 s2 (by omega) (by omega) c2 (Nat.lt_of_lt_of_le hm1 g2.2.1) (Or.inl ⟨fun x y hx hy => (hP.1 x y hx hy).mono hC.2.1 g (by omega) (by omega), fun y hy => by
        by_cases z : y = a5
        · rw [z]; exact hpair
        · exact (hP.2 y (by omega)).mono hC.2.1 g hm (by omega)⟩)
      refine ⟨τ, E', m', kt', ?_, c3, g.tr g3, (q1.tr q2).tr q3, l3, (f1.tr f2).tr f3⟩
      rw [m_X1_add_30]; dsimp only
      rw [if_neg (nI_nlt (by omega) (by omega)), hC.2.2.1, if_neg (nI_ge (by omega) (by omega)), ldL_at (by omega) (by omega), ldL_at (by omega) (by omega), ka.1, kc.1, then_eq F hF ka.2.2.1 kc.2.2.1, bd_some, e1, bv_some, ldL_at (by omega) (by omega), ldL_at (by omega) (by omega), ka1.1, kc1.1, then_eq F hF kc1.2.2.1 ka1.2.2.1, bd_some, e2, bv_some, nm_eq, nI_1]
      exact e3
end

