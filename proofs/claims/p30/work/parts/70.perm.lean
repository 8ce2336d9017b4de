/-! MATHEMATICS, 18: permutations of eight, and their codes -/
section
/-- d 0 + 16 d 1 + .. -/
def enT (d : Nat → Nat) : Nat → Nat
  | 0 => 0
  | n + 1 => enT d n + d n * 16 ^ n
def en (d : Nat → Nat) : Nat := enT d 8
theorem enT_lt {d : Nat → Nat} : ∀ {n : Nat}, (∀ i, i < n → d i < 16) → enT d n < 16 ^ n
  | 0, _ => by rw [enT]; omega
  | n + 1, h => by
    have a := enT_lt (n := n) (fun i hi => h i (by omega))
    have b := h n (by omega)
    have c : d n * 16 ^ n ≤ 15 * 16 ^ n := Nat.mul_le_mul_right _ (by omega)
    rw [enT, Nat.pow_succ]
    omega
theorem enT_bit {d : Nat → Nat} (k : Nat) : ∀ {n : Nat}, (∀ i, i < n → d i < 16) → (enT d n).testBit k = (decide (k < 4 * n) && (d (k / 4)).testBit (k % 4))
  | 0, _ => by rw [enT, Nat.zero_testBit]; simp
  | n + 1, h => by
    have a := enT_lt (n := n) (fun i hi => h i (by omega))
    have e : (16 : Nat) ^ n = 2 ^ (4 * n) := by rw [show (16 : Nat) = 2 ^ 4 from rfl, ← Nat.pow_mul]
    rw [enT, Nat.add_comm, Nat.mul_comm, e, Nat.testBit_two_pow_mul_add _ (by rw [← e]; exact a)]
    by_cases hk : k < 4 * n
    · rw [if_pos hk, enT_bit k (fun i hi => h i (by omega)), decide_eq_true hk, decide_eq_true (by omega)]
    · rw [if_neg hk]
      by_cases hk2 : k < 4 * (n + 1)
      · rw [decide_eq_true hk2, Bool.true_and, show k / 4 = n from by omega, show k % 4 = k - 4 * n from by omega]
      · rw [decide_eq_false hk2, Bool.false_and]
        exact Nat.testBit_lt_two_pow (Nat.lt_of_lt_of_le (h n (by omega)) (Nat.pow_le_pow_right (n := 2) (i := 4) (by omega) (by omega)))
theorem en_lt {d : Nat → Nat} (h : ∀ i, i < 8 → d i < 16) : en d < 2 ^ 32 := enT_lt h
theorem en_lt8 {d : Nat → Nat} (h : ∀ i, i < 8 → d i < 8) : en d < 2 ^ 31 := by
  have a := enT_lt (n := 7) (d := d) (fun i hi => by have := h i (by omega); omega)
  have b := h 7 (by omega)
  show enT d 7 + d 7 * 16 ^ 7 < 2 ^ 31
  omega
/-- the i-th digit -/
theorem en_dig {d : Nat → Nat} (h : ∀ i, i < 8 → d i < 16) {i : Nat} (hi : i < 8) : en d / 2 ^ (4 * i) % 16 = d i := by
  apply Nat.eq_of_testBit_eq
  intro k
  rw [show (16 : Nat) = 2 ^ 4 from rfl, Nat.testBit_mod_two_pow, Nat.testBit_div_two_pow]
  unfold en
  rw [enT_bit _ h]
  by_cases hk : k < 4
  · rw [decide_eq_true hk, decide_eq_true (by omega), show (k + 4 * i) / 4 = i from by omega, show (k + 4 * i) % 4 = k from by omega]; rfl
  · rw [decide_eq_false hk, Bool.false_and]
    symm
    exact Nat.testBit_lt_two_pow (Nat.lt_of_lt_of_le (h i hi) (Nat.pow_le_pow_right (n := 2) (i := 4) (by omega) (by omega)))
/-- a digit set where there was none -/
theorem en_set {d : Nat → Nat} (h : ∀ i, i < 8 → d i < 16) {x v : Nat} (hx : x < 8) (hv : v < 16) (h0 : d x = 0) : en d ||| v * 2 ^ (4 * x) = en (fun i => if i = x then v else d i) := by
  have h' : ∀ i, i < 8 → (fun i => if i = x then v else d i) i < 16 := by
    intro i hi
    show (if i = x then v else d i) < 16
    split
    · exact hv
    · exact h i hi
  apply Nat.eq_of_testBit_eq
  intro k
  unfold en
  rw [Nat.testBit_or, enT_bit _ h, enT_bit _ h', Nat.mul_comm v, Nat.testBit_two_pow_mul]
  show _ = (decide (k < 4 * 8) && (if k / 4 = x then v else d (k / 4)).testBit (k % 4))
  by_cases e : k / 4 = x
  · rw [if_pos e, e, h0, Nat.zero_testBit, Bool.and_false, Bool.false_or, decide_eq_true (show k < 4 * 8 by omega), decide_eq_true (show k ≥ 4 * x by omega), show k - 4 * x = k % 4 from by omega]
  · rw [if_neg e]
    have : (decide (k ≥ 4 * x) && v.testBit (k - 4 * x)) = false := by
      by_cases q : k ≥ 4 * x
      · rw [decide_eq_true q, Bool.true_and]
        exact Nat.testBit_lt_two_pow (Nat.lt_of_lt_of_le hv (Nat.pow_le_pow_right (n := 2) (i := 4) (by omega) (by omega)))
      · rw [decide_eq_false q, Bool.false_and]
    rw [this, Bool.or_false]
/-- the number is the code of its digits -/
theorem en_of {a : Nat} (ha : a < 2 ^ 32) : a = en (fun i => a / 2 ^ (4 * i) % 16) := by
  have h' : ∀ i, i < 8 → (fun i => a / 2 ^ (4 * i) % 16) i < 16 := fun i _ => Nat.mod_lt _ (by omega)
  apply Nat.eq_of_testBit_eq
  intro k
  unfold en
  rw [enT_bit _ h']
  show _ = (decide (k < 4 * 8) && (a / 2 ^ (4 * (k / 4)) % 2 ^ 4).testBit (k % 4))
  rw [Nat.testBit_mod_two_pow, Nat.testBit_div_two_pow, show k % 4 + 4 * (k / 4) = k from by omega, decide_eq_true (show k % 4 < 4 by omega), Bool.true_and]
  by_cases hk : k < 4 * 8
  · rw [decide_eq_true hk, Bool.true_and]
  · rw [decide_eq_false hk, Bool.false_and]
    exact Nat.testBit_lt_two_pow (Nat.lt_of_lt_of_le ha (Nat.pow_le_pow_right (by omega) (by omega)))
/-- a permutation of 0..7 (it leaves the rest) -/
def IsP (p : Nat → Nat) : Prop := (∀ i, 8 ≤ i → p i = i) ∧ (∀ i, i < 8 → p i < 8) ∧ ∀ i j, i < 8 → j < 8 → p i = p j → i = j
theorem IsP.ext {p q : Nat → Nat} (hp : IsP p) (hq : IsP q) (h : ∀ i, i < 8 → p i = q i) : p = q := by
  funext i
  by_cases hi : i < 8
  · exact h i hi
  · rw [hp.1 i (by omega), hq.1 i (by omega)]
theorem IsP.id : IsP (fun i => i) := ⟨fun _ _ => rfl, fun _ h => h, fun _ _ _ _ h => h⟩
theorem IsP.comp {p q : Nat → Nat} (hp : IsP p) (hq : IsP q) : IsP (fun i => q (p i)) := ⟨fun i hi => by
  show q (p i) = i
  rw [hp.1 i hi, hq.1 i hi], fun i hi => hq.2.1 _ (hp.2.1 i hi), fun i j hi hj h => hp.2.2 i j hi hj (hq.2.2 _ _ (hp.2.1 i hi) (hp.2.1 j hj) h)⟩
theorem IsP.d16 {p : Nat → Nat} (hp : IsP p) : ∀ i, i < 8 → p i < 16 := fun i hi => by have := hp.2.1 i hi; omega
theorem IsP.en_inj {p q : Nat → Nat} (hp : IsP p) (hq : IsP q) (h : en p = en q) : p = q := hp.ext hq (fun i hi => by
  rw [← en_dig hp.d16 hi, h, en_dig hq.d16 hi])
end

