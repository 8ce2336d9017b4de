/-! MATHEMATICS, 31: add -/
section
/-- a chain that has grown -/
def Gw (E : Nat → Nat → Option (Nat → Nat)) (m : Nat) (kt : Nat → Nat → Nat) (E' : Nat → Nat → Option (Nat → Nat)) (m' : Nat) (kt' : Nat → Nat → Nat) : Prop := (∀ i x u, E i x = some u → E' i x = some u) ∧ m ≤ m' ∧ ∀ a, a < m → kt' a = kt a
theorem Gw.rf {E : Nat → Nat → Option (Nat → Nat)} {m : Nat} {kt : Nat → Nat → Nat} : Gw E m kt E m kt := ⟨fun _ _ _ h => h, Nat.le_refl _, fun _ _ => rfl⟩
theorem Gw.tr {E E1 E2 : Nat → Nat → Option (Nat → Nat)} {m m1 m2 : Nat} {kt kt1 kt2 : Nat → Nat → Nat} (h : Gw E m kt E1 m1 kt1) (g : Gw E1 m1 kt1 E2 m2 kt2) : Gw E m kt E2 m2 kt2 := ⟨fun i x u e => g.1 i x u (h.1 i x u e), Nat.le_trans h.2.1 g.2.1, fun a ha => (g.2.2 a (Nat.lt_of_lt_of_le ha h.2.1)).trans (h.2.2 a ha)⟩
/-- closed sets that hold the one hold the other -/
def Qs (E E' : Nat → Nat → Option (Nat → Nat)) : Prop := ∀ Q, Clo Q → (∀ i x u, E i x = some u → Q u) → ∀ i x u, E' i x = some u → Q u
theorem Qs.rf {E : Nat → Nat → Option (Nat → Nat)} : Qs E E := fun _ _ h => h
theorem Qs.tr {E E1 E2 : Nat → Nat → Option (Nat → Nat)} (h : Qs E E1) (g : Qs E1 E2) : Qs E E2 := fun Q hQ hE => g Q hQ (h Q hQ hE)
/-- the pair a, c of kept elements sifts, both ways -/
def Pr (b : Nat → Nat) (E : Nat → Nat → Option (Nat → Nat)) (kt : Nat → Nat → Nat) (a c : Nat) : Prop := SS8 b E 8 (fun j => kt a (kt c j)) ∧ SS8 b E 8 (fun j => kt c (kt a j))
theorem Pr.mono {b : Nat → Nat} {E E' : Nat → Nat → Option (Nat → Nat)} {m m' : Nat} {kt kt' : Nat → Nat → Nat} (hV : VE b E) (hg : Gw E m kt E' m' kt') {a c : Nat} (ha : a < m) (hc : c < m) (h : Pr b E kt a c) : Pr b E' kt' a c := by
  unfold Pr
  rw [hg.2.2 a ha, hg.2.2 c hc]
  exact ⟨SS8_mono hV hg.1 8 (Nat.le_refl _) _ h.1, SS8_mono hV hg.1 8 (Nat.le_refl _) _ h.2⟩
def KF (q p j : Nat) : Prop := (p = q ∧ (j = 0 ∨ j = 1)) ∨ p = q + 2 ∨ p = q + 3
theorem CK.kQ {q : Nat} {b : Nat → Nat} {E : Nat → Nat → Option (Nat → Nat)} {m : Nat} {kt : Nat → Nat → Nat} {σ : zST} (h : CK q b E m kt σ) {Q : (Nat → Nat) → Prop} (hQ : Clo Q) (hE : ∀ i x u, E i x = some u → Q u) {a : Nat} (ha : a < m) : Q (kt a) := by
  obtain ⟨i, x, u, hi, hx, e, ea⟩ := h.2.2.2.2.2.2.2 a ha
  rw [ea]
  exact hQ.2 u (h.2.1.2.2 i x u hi hx e).1 (hE i x u e)
theorem keep2 (F : Nat) (hF : 8 < F) {q : Nat} {b : Nat → Nat} {E : Nat → Nat → Option (Nat → Nat)} {m : Nat} {kt : Nat → Nat → Nat} {σ : zST} (h : CK q b E m kt σ) {a c : Nat} (ha : a < m) (hc : c < m) : ∃ τ E' m' kt', m_X1_keep F q (lN (en (fun j => kt c (kt a j)))) σ = some τ ∧ CK q b E' m' kt' τ ∧ Gw E m kt E' m' kt' ∧ Qs E E' ∧ SS8 b E' 8 (fun j => kt c (kt a j)) ∧ Fr (KF q) σ τ := by
  have pa := (h.2.2.2.2.2.1 a ha).2
  have pc := (h.2.2.2.2.2.1 c hc).2
  obtain ⟨τ, E', m', kt', e, g1, g2, g3, g4, g5, g6, g7⟩ := keep_eq F hF h (pa.comp pc)
  exact ⟨τ, E', m', kt', e, g1, ⟨g2, g4, g5⟩, fun Q hQ hE => g7 Q hQ hE (hQ.1 _ _ (h.kQ hQ hE hc) (h.kQ hQ hE ha)), g3, g6⟩
end
