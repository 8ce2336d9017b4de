/-! MATHEMATICS, 35: the list of a group (reference): one permutation found -/
section
/-- d 0 + 8 d 1 + .. -/
def qk (d : Nat → Nat) : Nat → Nat
  | 0 => 0
  | n + 1 => qk d n + d n * 8 ^ n
theorem qk_lt {d : Nat → Nat} : ∀ {n : Nat}, (∀ i, i < n → d i < 8) → qk d n < 8 ^ n
  | 0, _ => by rw [qk]; omega
  | n + 1, h => by
    have a := qk_lt (n := n) (fun i hi => h i (by omega))
    have b := h n (by omega)
    have c : d n * 8 ^ n ≤ 7 * 8 ^ n := Nat.mul_le_mul_right _ (by omega)
    rw [qk, Nat.pow_succ]
    omega
theorem qk_dig {d : Nat → Nat} {k : Nat} : ∀ {n : Nat}, (∀ i, i < n → d i < 8) → k < n → qk d n / 8 ^ k % 8 = d k
  | 0, _, h => absurd h (by omega)
  | n + 1, h, hk => by
    have hlt := qk_lt (n := n) (fun i hi => h i (by omega))
    have hpos : 0 < 8 ^ k := Nat.pow_pos (by omega)
    rw [qk]
    by_cases e : k = n
    · subst e
      have := h k (by omega)
      rw [Nat.add_mul_div_right _ _ hpos, Nat.div_eq_of_lt hlt, Nat.zero_add, Nat.mod_eq_of_lt this]
    · have ih := qk_dig (n := n) (fun i hi => h i (by omega)) (show k < n by omega)
      have hp : d n * 8 ^ n = (d n * 8 ^ (n - k - 1) * 8) * 8 ^ k := by
        rw [Nat.mul_assoc, Nat.mul_assoc]
        congr 1
        rw [← Nat.pow_succ', ← Nat.pow_add]
        congr 1
        omega
      rw [hp, Nat.add_mul_div_right _ _ hpos, Nat.add_mul_mod_self_right, ih]
theorem qk_or {d : Nat → Nat} {n : Nat} (h : ∀ i, i < n → d i < 8) : qk d n ||| d n * 2 ^ (3 * n) = qk d (n + 1) := by
  have e : (8 : Nat) ^ n = 2 ^ (3 * n) := by rw [show (8 : Nat) = 2 ^ 3 from rfl, ← Nat.pow_mul]
  have hlt := qk_lt h
  rw [e] at hlt
  rw [qk, e, Nat.or_comm, Nat.mul_comm, ← Nat.two_pow_add_eq_or_of_lt hlt, Nat.add_comm]
theorem qk_b {d : Nat → Nat} (h : ∀ i, i < 8 → d i < 8) {k : Nat} (hk : k < 8) : jshr (nI (qk d 8)) (3 * nI k) &&& 7 = nI (d k) := by
  have hlt := qk_lt h
  have e : (8 : Nat) ^ k = 2 ^ (3 * k) := by rw [show (8 : Nat) = 2 ^ 3 from rfl, ← Nat.pow_mul]
  have hd := qk_dig h hk
  rw [l3, pk_mul, b_shr (by omega) (by omega), l7, b_and, ← e]
  congr 1
  have := Nat.and_two_pow_sub_one_eq_mod (qk d 8 / 8 ^ k) 3
  rw [show (2 : Nat) ^ 3 - 1 = 7 from rfl, show (2 : Nat) ^ 3 = 8 from rfl] at this
  omega
/-- the list found so far -/
def FRL (N : Nat) (L : Nat → Nat → Nat) (σ : zST) : Prop := gI σ 46 14 = nI N ∧ (∀ k, k < N → IsP (L k) ∧ gI σ 57 k = nI (qk (L k) 8)) ∧ (∀ i j, i < N → j < N → L i = L j → i = j) ∧ ∀ f, IsP f → (gI σ 58 (num f 8) = 1 ∧ ∃ k, k < N ∧ L k = f) ∨ (gI σ 58 (num f 8) = 0 ∧ ∀ k, k < N → L k ≠ f)
theorem inj_40320 {N : Nat} {L : Nat → Nat → Nat} (hp : ∀ k, k < N → IsP (L k)) (hi : ∀ i j, i < N → j < N → L i = L j → i = j) : N ≤ 40320 :=
  pig 40320 N (fun i => num (L i) 8) (fun i _ => num8 (L i)) (fun i j h1 h2 e => hi i j h1 h2 (num_inj (hp i h1) (hp j h2) e))
def KL (p j : Nat) : Prop := p = 57 ∨ p = 58 ∨ (p = 46 ∧ j = 14)
theorem finds_eq (F : Nat) (hF : 8 < F) {N : Nat} {L : Nat → Nat → Nat} {σ : zST} (h : FRL N L σ) {p : Nat → Nat} (hp : IsP p) (hi : ∀ j, j < 8 → gI σ 59 j = nI (p j)) : ∃ τ N' L', m_X8_finds F 46 σ = some τ ∧ FRL N' L' τ ∧ N ≤ N' ∧ (∀ k, k < N → L' k = L k) ∧ (∃ k, k < N' ∧ L' k = p) ∧ (∀ k, k < N' → N ≤ k → L' k = p) ∧ Fr KL σ τ := by
  obtain ⟨h1, h2, h3, h4⟩ := h
  have hn8 := num8 p
  have hN := inj_40320 (fun k hk => (h2 k hk).1) h3
  unfold m_X8_finds
  rw [numbered_eq F hF hp.2.1 hi, bd_some, ldI_at hn8 (by omega)]
  rcases h4 p hp with ⟨e, k, hk, ek⟩ | ⟨e, hno⟩
  · refine ⟨σ, N, L, ?_, ⟨h1, h2, h3, h4⟩, Nat.le_refl _, fun _ _ => rfl, ⟨k, hk, ek⟩, fun k h5 h6 => absurd h5 (by omega), Fr.rf⟩
    rw [e, if_neg (by decide +kernel)]
  · have hi' : ∀ i j, i < N + 1 → j < N + 1 → (fun k => if k = N then p else L k) i = (fun k => if k = N then p else L k) j → i = j := by
      intro i j hin hjn e
      have e : (if i = N then p else L i) = (if j = N then p else L j) := e
      by_cases a : i = N
      · by_cases b : j = N
        · omega
        · rw [if_pos a, if_neg b] at e
          exact absurd e.symm (hno j (by omega))
      · by_cases b : j = N
        · rw [if_neg a, if_pos b] at e
          exact absurd e (hno i (by omega))
        · rw [if_neg a, if_neg b] at e
          exact h3 i j (by omega) (by omega) e
    have hN' := inj_40320 (N := N + 1) (L := fun k => if k = N then p else L k) (fun k hk => by
      show IsP (if k = N then p else L k)
      split
      · exact hp
      · exact (h2 k (by omega)).1) hi'
    generalize hs1 : sI σ 58 (num p 8) 1 = s1
    have hi1 : ∀ j, j < 8 → gI s1 59 j = nI (p j) := by
      intro j hj
      subst hs1
      rw [gI_sI, if_neg (by omega), hi j hj]
    have h14 : gI s1 46 14 = nI N := by
      subst hs1
      rw [gI_sI, if_neg (by omega), h1]
    have hl := up_loop0 (fun n (i : Int32) (s : Int32) => m_X8_finds_25 F n 46 s i s1) 8 (fun i => nI (qk p i)) (some (sI (sI s1 57 N (nI (qk p 8))) 46 14 (nI (N + 1))))
      (fun n i hin => by
        show m_X8_finds_25 F (n + 1) 46 (nI (qk p i)) (nI i) s1 = m_X8_finds_25 F n 46 (nI (qk p (i + 1))) (nI (i + 1)) s1
        rw [m_X8_finds_25]; dsimp only
        rw [l8, if_neg (nI_ge hin (by omega)), ldI_at hin (by omega), hi1 i hin, l3, pk_mul, b_shl _ (by omega), b_or, nm_eq, nI_1, nm_eq, qk_or (fun j hj => hp.2.1 j (by omega))])
      (fun n => by
        show m_X8_finds_25 F (n + 1) 46 (nI (qk p 8)) (nI 8) s1 = _
        rw [m_X8_finds_25]; dsimp only
        rw [l8, if_pos (nI_le (by omega) (by omega)), h14, stI_at (by omega) (by omega), gI_sI, if_neg (by omega), h14, nI_1]; try rfl) hF
    refine ⟨sI (sI s1 57 N (nI (qk p 8))) 46 14 (nI (N + 1)), N + 1, fun k => if k = N then p else L k, ?_, ⟨gI_same _ _ _ _, ?_, hi', ?_⟩, by omega, fun k hk => if_neg (by omega), ⟨N, by omega, if_pos rfl⟩, fun k h5 h6 => if_pos (by omega), ?_⟩
    · rw [e, if_pos rfl, stI_at hn8 (by omega), hs1, l0]
      exact hl
    · intro k hk
      show IsP (if k = N then p else L k) ∧ gI _ 57 k = nI (qk (if k = N then p else L k) 8)
      have e0 : gI (sI (sI s1 57 N (nI (qk p 8))) 46 14 (nI (N + 1))) 57 k = if k = N then nI (qk p 8) else gI σ 57 k := by
        rw [gI_sI, if_neg (by omega), gI_sI]
        by_cases z : k = N
        · rw [if_pos z, if_pos ⟨rfl, z⟩]
        · rw [if_neg z, if_neg (fun w => z w.2)]
          subst hs1
          rw [gI_sI, if_neg (by omega)]
      rw [e0]
      by_cases z : k = N
      · rw [if_pos z, if_pos z]; exact ⟨hp, rfl⟩
      · rw [if_neg z, if_neg z]
        exact h2 k (by omega)
    · intro f hf
      rw [gI_sI, if_neg (by omega), gI_sI, if_neg (by omega)]
      subst hs1
      rw [gI_sI]
      by_cases z : f = p
      · left
        subst z
        exact ⟨if_pos ⟨rfl, rfl⟩, N, by omega, if_pos rfl⟩
      · rw [if_neg (fun w => z (num_inj hf hp w.2))]
        rcases h4 f hf with ⟨e1, k, hk, ek⟩ | ⟨e1, hk⟩
        · left
          refine ⟨e1, k, by omega, ?_⟩
          show (if k = N then p else L k) = f
          rw [if_neg (by omega)]; exact ek
        · right
          refine ⟨e1, fun k hkn => ?_⟩
          show (if k = N then p else L k) ≠ f
          by_cases y : k = N
          · rw [if_pos y]; exact fun w => z w.symm
          · rw [if_neg y]; exact hk k (by omega)
    · subst hs1
      exact ((Fr.sI (by unfold KL; omega)).tr (Fr.sI (by unfold KL; omega))).tr (Fr.sI (by unfold KL; omega))
end
