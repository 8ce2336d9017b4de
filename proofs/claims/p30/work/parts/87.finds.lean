/-! MATHEMATICS, 35: the list of a group (reference): one permutation found -/
section
/-- d 0 + 8 d 1 + .. -/
def qk (d : Nat → Nat) : Nat → Nat
  | 0 => 0
  | n + 1 => qk d n + d n * 8 ^ n
theorem qk_lt {d : Nat → Nat} : ∀ {n : Nat}, (∀ i, i < n → d i < 8) → qk d n < 8 ^ n
  | 0, _ => by rw [qk]; omega
  | n + 1, h => by
    have a := qk_lt (n := n) (fun i hi => h i (by omega))
    have b := h n (by omega)
    have c : d n * 8 ^ n ≤ 7 * 8 ^ n := Nat.mul_le_mul_right _ (by omega)
    rw [qk, Nat.pow_succ]
    omega
theorem qk_dig {d : Nat → Nat} {k : Nat} : ∀ {n : Nat}, (∀ i, i < n → d i < 8) → k < n → qk d n / 8 ^ k % 8 = d k
  | 0, _, h => absurd h (by omega)
  | n + 1, h, hk => by
    have hlt := qk_lt (n := n) (fun i hi => h i (by omega))
    have hpos : 0 < 8 ^ k := Nat.pow_pos (by omega)
    rw [qk]
    by_cases e : k = n
    · subst e
      have := h k (by omega)
      rw [Nat.add_mul_div_right _ _ hpos, Nat.div_eq_of_lt hlt, Nat.zero_add, Nat.mod_eq_of_lt this]
    · have ih := qk_dig (n := n) (fun i hi => h i (by omega)) (show k < n by omega)
      have hp : d n * 8 ^ n = (d n * 8 ^ (n - k - 1) * 8) * 8 ^ k := by
        rw [Nat.mul_assoc, Nat.mul_assoc]
        congr 1
        rw [← Nat.pow_succ', ← Nat.pow_add]
        congr 1
        omega
      rw [hp, Nat.add_mul_div_right _ _ hpos, Nat.add_mul_mod_self_right, ih]
theorem qk_or {d : Nat → Nat} {n : Nat} (h : ∀ i, i < n → d i < 8) : qk d n ||| d n * 2 ^ (3 * n) = qk d (n + 1) := by
  have e : (8 : Nat) ^ n = 2 ^ (3 * n) := by rw [show (8 : Nat) = 2 ^ 3 from rfl, ← Nat.pow_mul]
  have hlt := qk_lt h
  rw [e] at hlt
  rw [qk, e, Nat.or_comm, Nat.mul_comm, ← Nat.two_pow_add_eq_or_of_lt hlt, Nat.add_comm]
theorem qk_b {d : Nat → Nat} (h : ∀ i, i < 8 → d i < 8) {k : Nat} (hk : k < 8) : jshr (nI (qk d 8)) (3 * nI k) &&& 7 = nI (d k) := by
  have hlt := qk_lt h
  have e : (8 : Nat) ^ k = 2 ^ (3 * k) := by rw [show (8 : Nat) = 2 ^ 3 from rfl, ← Nat.pow_mul]
  have hd := qk_dig h hk
  rw [l3, pk_mul, b_shr (by omega) (by omega), l7, b_and, ← e]
  congr 1
  have := Nat.and_two_pow_sub_one_eq_mod (qk d 8 / 8 ^ k) 3
  rw [show (2 : Nat) ^ 3 - 1 = 7 from rfl, show (2 : Nat) ^ 3 = 8 from rfl] at this
  omega
/-- the list found so far -/
def FRL (N : Nat) (L : Nat → Nat → Nat) (σ : zST) : Prop := gI σ 46 14 = nI N ∧ (∀ k, k < N → IsP (L k) ∧ gI σ 57 k = nI (qk (L k) 8)) ∧ (∀ i j, i < N → j < N → L i = L j → i = j) ∧ ∀ f, IsP f → (gI σ 58 (num f 8) = 1 ∧ ∃ k, k < N ∧ L k = f) ∨ (gI σ 58 (num f 8) = 0 ∧ ∀ k, k < N → L k ≠ f)
theorem inj_40320 {N : Nat} {L : Nat → Nat → Nat} (hp : ∀ k, k < N → IsP (L k)) (hi : ∀ i j, i < N → j < N → L i = L j → i = j) : N ≤ 40320 :=
  pig 40320 N (fun i => num (L i) 8) (fun i _ => num8 (L i)) (fun i j h1 h2 e => hi i j h1 h2 (num_inj (hp i h1) (hp j h2) e))
def KL (p j : Nat) : Prop := p = 57 ∨ p = 58 ∨ (p = 46 ∧ j = 14)
end

