/-! MATHEMATICS, 16: the reference's comparisons and rounds -/
section
theorem sub_sg {a b : Nat} (ha : a < 2 ^ 30) (hb : b < 2 ^ 30) : (0 ≤ nI a - nI b ↔ b ≤ a) ∧ (nI a - nI b = 0 ↔ a = b) := by
  have h := pk_sub_toInt ha hb
  constructor
  · rw [Int32.le_iff_toInt_le, h, show (0 : Int32).toInt = 0 from by decide +kernel]; omega
  · rw [← Int32.toInt_inj, h, show (0 : Int32).toInt = 0 from by decide +kernel]; omega
/-- the difference that the reference goes by, after i classes -/
def dI (M R : Nat → Nat) (n u v : Nat) : Nat → Int32
  | 0 => nI (R u) - nI (R v)
  | i + 1 => if dI M R n u v i = 0 then nI (nbc M R n u i) - nI (nbc M R n v i) else dI M R n u v i
theorem nbc_le (M R : Nat → Nat) (n v c : Nat) : nbc M R n v c ≤ 8 := pop_le _
theorem dI_sg (M R : Nat → Nat) (n u v : Nat) (hu : R u < 8) (hv : R v < 8) : ∀ i, (0 ≤ dI M R n u v i ↔ keyT M R n v i ≤ keyT M R n u i) ∧ (dI M R n u v i = 0 ↔ keyT M R n u i = keyT M R n v i)
  | 0 => sub_sg (by omega) (by omega)
  | i + 1 => by
    obtain ⟨h1, h2⟩ := dI_sg M R n u v hu hv i
    have x := nbc_le M R n u i
    have y := nbc_le M R n v i
    rw [dI, keyT, keyT]
    by_cases e : dI M R n u v i = 0
    · rw [if_pos e]
      have := h2.mp e
      have s := sub_sg (a := nbc M R n u i) (b := nbc M R n v i) (by omega) (by omega)
      constructor
      · rw [s.1]; omega
      · rw [s.2]; omega
    · rw [if_neg e]
      have : ¬ keyT M R n u i = keyT M R n v i := fun z => e (h2.mpr z)
      constructor
      · rw [h1]; omega
      · constructor
        · intro z; exact absurd z e
        · intro z; omega
theorem memb_0 {R : Nat → Nat} {n c : Nat} (h : ∀ v, v < n → R v < n) (hc : n ≤ c) : memb R n c = 0 := by
  apply Nat.eq_of_testBit_eq
  intro i
  unfold memb
  rw [msk_bit, Nat.zero_testBit]
  by_cases hi : i < n
  · have := h i hi
    have : ¬ R i = c := by omega
    simp [this]
  · simp [hi]
theorem nbc_0 {M R : Nat → Nat} {n v c : Nat} (h : ∀ v, v < n → R v < n) (hc : n ≤ c) : nbc M R n v c = 0 := by
  unfold nbc
  rw [memb_0 h hc, Nat.and_zero]; rfl
theorem dI_n {M R : Nat → Nat} {n u v : Nat} (hl : ∀ v, v < n → R v < n) : ∀ d, n + d ≤ 8 → ∀ i, i = n + d → ((keyT M R n v i ≤ keyT M R n u i) ↔ (keyT M R n v n ≤ keyT M R n u n)) ∧ ((keyT M R n u i = keyT M R n v i) ↔ (keyT M R n u n = keyT M R n v n)) := by
  intro d
  induction d with
  | zero => intro _ i hi; subst hi; exact ⟨Iff.rfl, Iff.rfl⟩
  | succ d ih =>
    intro hd i hi
    subst hi
    obtain ⟨a, b⟩ := ih (by omega) (n + d) rfl
    rw [← a, ← b, show n + (d + 1) = (n + d) + 1 from rfl, keyT, keyT, nbc_0 hl (by omega), nbc_0 hl (by omega)]
    constructor <;> omega
/-- the reference after t rounds -/
def RR (n : Nat) (M C : Nat → Nat) (σ : zST) (t : Nat) (s : zST) : Prop := gI s 46 9 = nI t ∧ (∀ v, v < n → gI s 53 v = nI (Rk n M C t v)) ∧ Fr (fun p j => p = 53 ∨ p = 54 ∨ (p = 46 ∧ j = 9)) σ s
theorem Rk_ltn {n : Nat} (M C : Nat → Nat) (t : Nat) {v : Nat} (hv : v < n) : Rk n M C t v < n := by
  have a : Rk n M C t v < Cn n M C t := by
    cases t <;> exact rk_lt_ncl _ hv
  have := Cn_le n M C t
  omega
end

