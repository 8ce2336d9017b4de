/-! MATHEMATICS, 54: the reference's codes and forms -/
section
theorem pb_ref : ∀ b, b < 8 → ∀ a, a < b → (27 - ((nI a * (15 - nI a)) / 2)) - ((nI b - nI a) - 1) = nI (pb a b) := by decide +kernel
def prb (a b : Nat) : Nat := if a < b then pb a b else pb b a
/-- the pairs gone through so far -/
def edE (n : Nat) (M q : Nat → Nat) (i j b : Nat) : Prop := ∃ v u, u < v ∧ v < n ∧ (v < i ∨ (v = i ∧ u < j)) ∧ (M v).testBit u = true ∧ b = prb (q v) (q u)
theorem edE_end {n : Nat} (hn : n ≤ 8) {M C q : Nat → Nat} (hG : Gr n M C) (hq : IsN n q) (b : Nat) : edE n M q n 0 b ↔ (ec n M (iv q)).testBit b = true := by
  rw [ec_bit]
  constructor
  · rintro ⟨v, u, h1, h2, _, h4, h5⟩
    have qv := hq.lt hn h2
    have qu := hq.lt hn (show u < n by omega)
    have hne : q v ≠ q u := fun e => by have := hq.inj e; omega
    unfold prb at h5
    by_cases z : q v < q u
    · rw [if_pos z] at h5
      obtain ⟨a1, a2, a3⟩ := pb_ok (q u) (by omega) (q v) z
      rw [h5, a2, a3, iv_l hq.1, iv_l hq.1]
      exact ⟨a1, qu, h4⟩
    · rw [if_neg z] at h5
      obtain ⟨a1, a2, a3⟩ := pb_ok (q v) (by omega) (q u) (by omega)
      rw [h5, a2, a3, iv_l hq.1, iv_l hq.1]
      exact ⟨a1, qv, by rw [hG.sy (by omega) (by omega)]; exact h4⟩
  · rintro ⟨h1, h2, h3⟩
    obtain ⟨a1, a2, a3⟩ := pb_in b h1
    have hx := hq.iv.lt hn (show PI b < n by omega)
    have hy := hq.iv.lt hn h2
    have ex := iv_r hq.1 (y := PI b)
    have ey := iv_r hq.1 (y := PJ b)
    generalize iv q (PI b) = x at *
    generalize iv q (PJ b) = y at *
    have hne : x ≠ y := fun e => by rw [e, ey] at ex; omega
    by_cases z : x < y
    · refine ⟨y, x, z, hy, Or.inl hy, by rw [hG.sy (by omega) (by omega)]; exact h3, ?_⟩
      unfold prb
      rw [ex, ey, if_neg (by omega), a3]
    · refine ⟨x, y, by omega, hx, Or.inl hx, h3, ?_⟩
      unfold prb
      rw [ex, ey, if_pos a1, a3]
theorem edE_28 {n : Nat} (hn : n ≤ 8) {M q : Nat → Nat} (hq : IsN n q) {i j b : Nat} (h : edE n M q i j b) : b < 28 := by
  obtain ⟨v, u, h1, h2, _, h4, h5⟩ := h
  have qv := hq.lt hn h2
  have qu := hq.lt hn (show u < n by omega)
  have hne : q v ≠ q u := fun e => by have := hq.inj e; omega
  rw [h5]
  unfold prb
  split
  · exact (pb_ok (q u) (by omega) (q v) (by omega)).1
  · exact (pb_ok (q v) (by omega) (q u) (by omega)).1
/-- the least code so far, and the first map that has it -/
def cdq (n : Nat) (M C q : Nat → Nat) : Nat := 2 ^ 52 * n + cod n M C (iv q)
def Best (n : Nat) (M C : Nat → Nat) (Q : (Nat → Nat) → Prop) (c : Nat) (σ : zST) : Prop := ((∀ p, IsN n p → ¬ Q p) ∧ c = 9223372036854775807) ∨ ∃ b, IsN n b ∧ Q b ∧ c = cdq n M C b ∧ (∀ p, IsN n p → Q p → cdq n M C b ≤ cdq n M C p ∧ (cdq n M C p = cdq n M C b → rv n b ≤ rv n p)) ∧ ∀ k, k < n → gI σ 52 k = nI (b k)
theorem best_bst {n : Nat} {M C b : Nat → Nat} (hb : IsN n b) (h : ∀ p, IsN n p → cdq n M C b ≤ cdq n M C p ∧ (cdq n M C p = cdq n M C b → rv n b ≤ rv n p)) : Bst n M C (iv b) := by
  have hopt : Opt n M C (iv b) := ⟨hb.iv, fun w hw => by
    have := (h (iv w) hw.iv).1
    unfold cdq at this
    rw [iv_iv hw.1] at this
    omega⟩
  refine ⟨hopt, fun w hw => ?_⟩
  rw [iv_iv hb.1]
  refine (h (iv w) hw.1.iv).2 ?_
  unfold cdq
  rw [iv_iv hw.1.1, hw.same hopt]
end

