/-! MATHEMATICS, 57: form, placeOf, symmetries, orbits, orbit -/
section
/-- a call that answers a long -/
def OpL (I : zST → Prop) (cl : zST → Option (Int32 × zST)) (rf : zST → Option (Int64 × zST)) : Prop := ∀ σ, I σ → ∃ c σ1 r σ2, cl σ = some (c, σ1) ∧ rf σ1 = some (r, σ2) ∧ gI σ2 46 16 = c ∧ (c = 0 → gL σ2 60 0 = r) ∧ I σ2
theorem cmp_pos {a : Nat} (h0 : 0 < a) (h : a < 2 ^ 63) : ¬ lg_cmp (lN a) 0 ≤ 0 := by
  intro z
  have h1 : 0 ≤ lg_cmp (lN a) 0 := (cmp_ge (a := a) (b := 0) h (by omega)).mpr (by omega)
  have h2 : lg_cmp (lN a) 0 = 0 := Int32.le_antisymm z h1
  have := (cmp_0 (a := a) (b := 0) h (by omega)).mp h2
  omega
theorem allR_len (n : Nat) : ∀ k, (allR n k).length ≤ k
  | 0 => Nat.le_refl _
  | k + 1 => by
    have := allR_len n k
    rw [allR, List.length_append]
    cases gtN n k with
    | none => show _ + 0 ≤ _; omega
    | some q => show _ + 1 ≤ _; omega
theorem cd_max (n : Nat) (p : (Nat → Nat) → Prop) : cd n p ≤ 40320 := Nat.le_trans List.countP_le_length (allR_len n 40320)
theorem cd_pos {n : Nat} {p : (Nat → Nat) → Prop} {w : Nat → Nat} (hw : IsN n w) (h : p w) : 0 < cd n p := by
  have := cd_le (n := n) (p := fun v => v = w) (q := p) (fun v => v) (fun v hv e => ⟨hv, by rw [e]; exact h⟩) (fun v v' _ _ _ _ e => e)
  rw [cd_one hw] at this
  omega
/-- the orbit of a vertex, as both sides keep it -/
theorem orb_one {n : Nat} (hn : n ≤ 8) {M C : Nat → Nat} {v m m' : Nat} (hv : v < n) (h : ∀ y, m.testBit y = true ↔ y < n ∧ ∃ f, Iso n M C M C f ∧ f v = y) (h' : ∀ y, m'.testBit y = true ↔ ∃ f, Iso n M C M C f ∧ f v = y) : m = m' := by
  apply Nat.eq_of_testBit_eq
  intro y
  rw [Bool.eq_iff_iff, h y, h' y]
  constructor
  · exact fun z => z.2
  · rintro ⟨f, hf, e⟩
    exact ⟨by rw [← e]; exact hf.1.lt hn hv, f, hf, e⟩
theorem iso_pos (n : Nat) (M C : Nat → Nat) : ¬ nI (cd n (Iso n M C M C)) ≤ 0 := by
  have h1 := cd_pos (p := Iso n M C M C) (IsN.id n) (Iso.id n M C)
  have h2 := cd_max n (Iso n M C M C)
  exact nI_nle h1 (by omega)
theorem exch_eq (F : Nat) {r n : Nat} (hn : n ≤ 8) {b : Nat → Nat} (hb : IsN n b) {τ : zST} (h1 : gI τ r 1 = nI (rv n (iv b))) {v m : Nat} (hv : v < n) (hm : gI τ (r + 4) (iv b v) = nI m) : m_X0_exchangeable F r (nI v) τ = some (nI m, τ) := by
  have := hb.iv.lt hn hv
  unfold m_X0_exchangeable
  rw [bestPlace_eq F hn hb h1 hv, bd_some, ldI_at (by omega) (by omega), hm]
end

