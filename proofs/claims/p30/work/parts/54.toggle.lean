/-! MATHEMATICS, 5: toggle -/
section
/-- a bit as the methods answer it -/
def bI (b : Bool) : Int32 := if b then 1 else 0
theorem bI_01 (b : Bool) : bI b = 0 ∨ bI b = 1 := by cases b <;> simp [bI]
theorem bI_eq (a b : Bool) : (bI a = bI b) ↔ a = b := by revert a b; decide +kernel
theorem bI_0 (b : Bool) : (bI b = 0) ↔ b = false := by revert b; decide +kernel
theorem isIn_b (F : Nat) {a : Nat} (ha : a < 2 ^ 31) {i : Nat} (hi : i < 32) (σ : zST) : m_X7_isIn F (nI a) (nI i) σ = some (bI (a.testBit i), σ) := isIn_eq F ha hi σ
theorem shr_and1 {a : Nat} (ha : a < 2 ^ 31) {i : Nat} (hi : i < 32) : jshr (nI a) (nI i) &&& 1 = bI (a.testBit i) := by
  rw [b_shr ha hi, l1, b_and, tb_and1]
  unfold bI
  by_cases h : a.testBit i <;> simp [h, nI_0]
  rfl
theorem hasE_cl (F : Nat) {p a b m : Nat} (ha : a < 8) (hb : b < 32) {σ : zST} (h : gI σ (p + 1) a = nI m) (hm : m < 2 ^ 31) : m_X2_hasEdge F p (nI a) (nI b) σ = some (bI (m.testBit b), σ) := by
  unfold m_X2_hasEdge
  rw [ldI_at (by omega) (by omega), h, isIn_b F hm hb, bd_some, gd_yes (bI_01 _)]
/-- one edge flipped -/
def flipM (M : Nat → Nat) (a b u : Nat) : Nat := if u = a then M u ^^^ 2 ^ b else if u = b then M u ^^^ 2 ^ a else M u
theorem flipM_bit (M : Nat → Nat) (a b u v : Nat) : (flipM M a b u).testBit v = ((M u).testBit v != decide ((u = a ∧ v = b) ∨ (u = b ∧ u ≠ a ∧ v = a))) := by
  unfold flipM
  split
  · rename_i h
    subst h
    rw [Nat.testBit_xor, Nat.testBit_two_pow]
    by_cases h : b = v <;> simp [h, eq_comm]
  · split
    · rename_i h1 h2
      subst h2
      rw [Nat.testBit_xor, Nat.testBit_two_pow]
      by_cases h : a = v <;> simp [h, h1, eq_comm]
    · rename_i h1 h2
      simp [h1, h2]
theorem flip_Gr {n : Nat} {M C : Nat → Nat} (h : Gr n M C) {a b : Nat} (ha : a < n) (hb : b < n) (hab : a ≠ b) : Gr n (flipM M a b) C := by
  refine ⟨h.1, fun v hv => ?_⟩
  obtain ⟨h1, h2, h3, h4, h5⟩ := h.2 v hv
  refine ⟨h1, ?_, ?_, ?_, ?_⟩
  · unfold flipM
    split
    · exact Nat.xor_lt_two_pow h2 (Nat.pow_lt_pow_right (by omega) hb)
    · split
      · exact Nat.xor_lt_two_pow h2 (Nat.pow_lt_pow_right (by omega) ha)
      · exact h2
  · intro hn
    unfold flipM
    rw [if_neg (by omega), if_neg (by omega), h3 hn]
  · rw [flipM_bit, h4]
    have : ¬ ((v = a ∧ v = b) ∨ (v = b ∧ v ≠ a ∧ v = a)) := by omega
    rw [decide_eq_false this]; rfl
  · intro u hu
    rw [flipM_bit, flipM_bit, h5 u hu]
    have : ((u = a ∧ v = b) ∨ (u = b ∧ u ≠ a ∧ v = a)) ↔ ((v = a ∧ u = b) ∨ (v = b ∧ v ≠ a ∧ u = a)) := by omega
    rw [decide_eq_decide.mpr this]
theorem flip_cl (F : Nat) {p n a b : Nat} {M C : Nat → Nat} {σ : zST} (hG : Gr n M C) (hA : At p n M C σ) (ha : a < n) (hb : b < n) (hab : a ≠ b) : m_X2_flipEdge F p (nI a) (nI b) σ = some (sI (sI σ (p + 1) a (nI (flipM M a b a))) (p + 1) b (nI (flipM M a b b))) := by
  have h8 := hG.1.2
  unfold m_X2_flipEdge
  rw [ldI_at (by omega) (by omega), stI_at (by omega) (by omega), ldI_at (by omega) (by omega), stI_at (by omega) (by omega), (hA.2 a (by omega)).1, gI_sI, if_neg (by omega), (hA.2 b (by omega)).1, shl1 (by omega), shl1 (by omega), b_xor, b_xor]
  unfold flipM
  rw [if_pos rfl, if_neg (by omega), if_pos rfl]
theorem flip_At {p n a b : Nat} {M C : Nat → Nat} {σ : zST} (hA : At p n M C σ) (hab : a ≠ b) : At p n (flipM M a b) C (sI (sI σ (p + 1) a (nI (flipM M a b a))) (p + 1) b (nI (flipM M a b b))) := by
  refine ⟨by rw [gI_sI, if_neg (by omega), gI_sI, if_neg (by omega), hA.1], fun u hu => ⟨?_, by rw [gI_sI, if_neg (by omega), gI_sI, if_neg (by omega), (hA.2 u hu).2]⟩⟩
  rw [gI_sI]
  by_cases e : u = b
  · rw [if_pos ⟨rfl, e⟩, e]
  · rw [if_neg (by omega), gI_sI]
    by_cases e2 : u = a
    · rw [if_pos ⟨rfl, e2⟩, e2]
    · rw [if_neg (by omega), (hA.2 u hu).1]
      unfold flipM
      rw [if_neg e2, if_neg e]
theorem flip_RAt {k n a b : Nat} {M C : Nat → Nat} {σ : zST} (hA : RAt k n M C σ) (hab : a ≠ b) : RAt k n (flipM M a b) C (sI (sI σ 48 (8 * k + a) (nI (flipM M a b a))) 48 (8 * k + b) (nI (flipM M a b b))) := by
  refine ⟨by rw [gI_sI, if_neg (by omega), gI_sI, if_neg (by omega), hA.1], fun u hu => ⟨?_, by rw [gI_sI, if_neg (by omega), gI_sI, if_neg (by omega), (hA.2 u hu).2]⟩⟩
  rw [gI_sI]
  by_cases e : u = b
  · rw [if_pos ⟨rfl, by omega⟩, e]
  · rw [if_neg (by omega), gI_sI]
    by_cases e2 : u = a
    · rw [if_pos ⟨rfl, by omega⟩, e2]
    · rw [if_neg (by omega), (hA.2 u hu).1]
      unfold flipM
      rw [if_neg e2, if_neg e]
end

