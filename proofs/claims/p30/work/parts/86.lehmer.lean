/-! MATHEMATICS, 34: the number of a permutation (reference) -/
section
/-- how many behind k have a lower image -/
def les (p : Nat → Nat) (k : Nat) : Nat := cnt (fun j => decide (k < j) && decide (p j < p k)) 8
def num (p : Nat → Nat) : Nat → Nat
  | 0 => 0
  | k + 1 => num p k * (8 - k) + les p k
def fc : Nat → Nat
  | 0 => 1
  | k + 1 => fc k * (8 - k)
theorem cnt_gt (k : Nat) : ∀ c, cnt (fun j => decide (k < j)) c = c - (k + 1)
  | 0 => by rw [cnt_0]; omega
  | c + 1 => by
    rw [cnt_s, cnt_gt k c]
    by_cases q : k < c
    · rw [decide_eq_true q]; show c - (k + 1) + 1 = _; omega
    · rw [decide_eq_false q]; show c - (k + 1) + 0 = _; omega
theorem les_lt (p : Nat → Nat) {k : Nat} (hk : k < 8) : les p k < 8 - k := by
  have h : les p k ≤ cnt (fun j => decide (k < j)) 8 := cnt_mono (fun j _ h => by
    rw [Bool.and_eq_true] at h; exact h.1)
  rw [cnt_gt] at h
  omega
theorem num_lt (p : Nat → Nat) : ∀ k, k ≤ 8 → num p k < fc k
  | 0, _ => by rw [num, fc]; omega
  | k + 1, hk => by
    have h1 := num_lt p k (by omega)
    have h2 := les_lt p (show k < 8 by omega)
    rw [num, fc]
    have h3 : (num p k + 1) * (8 - k) ≤ fc k * (8 - k) := Nat.mul_le_mul_right _ h1
    rw [Nat.add_mul, Nat.one_mul] at h3
    omega
theorem num8 (p : Nat → Nat) : num p 8 < 40320 := num_lt p 8 (Nat.le_refl _)
theorem mix {a b m x y : Nat} (hx : x < m) (hy : y < m) (h : a * m + x = b * m + y) : a = b ∧ x = y := by
  have hm : 0 < m := by omega
  have h1 : (a * m + x) / m = a := by
    rw [Nat.mul_comm, Nat.mul_add_div hm, Nat.div_eq_of_lt hx, Nat.add_zero]
  have h2 : (b * m + y) / m = b := by
    rw [Nat.mul_comm, Nat.mul_add_div hm, Nat.div_eq_of_lt hy, Nat.add_zero]
  have : a = b := by rw [← h1, h, h2]
  subst this
  exact ⟨rfl, by omega⟩
theorem num_les {p q : Nat → Nat} : ∀ k, k ≤ 8 → num p k = num q k → ∀ i, i < k → les p i = les q i
  | 0, _, _, i, hi => absurd hi (by omega)
  | k + 1, hk, h, i, hi => by
    rw [num, num] at h
    obtain ⟨h1, h2⟩ := mix (les_lt p (by omega)) (les_lt q (by omega)) h
    by_cases e : i = k
    · rw [e]; exact h2
    · exact num_les k (by omega) h1 i (by omega)
/-- the value y is none of the first k images -/
def nous (p : Nat → Nat) (k y : Nat) : Bool := (List.range k).all (fun i => p i != y)
theorem nous_iff (p : Nat → Nat) (k y : Nat) : nous p k y = true ↔ ∀ i, i < k → p i ≠ y := by
  unfold nous
  rw [List.all_eq_true]
  constructor
  · intro h i hi
    have := h i (List.mem_range.mpr hi)
    simpa using this
  · intro h i hi
    have := h i (List.mem_range.mp hi)
    simpa using this
theorem les_eq {p : Nat → Nat} (hp : IsP p) {k : Nat} (hk : k < 8) : les p k = cnt (fun y => decide (y < p k) && nous p k y) 8 := by
  rw [← cnt_bij (P := fun y => decide (y < p k) && nous p k y) hp]
  unfold les
  refine cnt_cong (fun j hj => ?_)
  rw [Bool.eq_iff_iff, Bool.and_eq_true, Bool.and_eq_true, nous_iff, decide_eq_true_iff, decide_eq_true_iff]
  constructor
  · rintro ⟨h1, h2⟩
    exact ⟨h2, fun i hi e => by have := hp.2.2 i j (by omega) hj e; omega⟩
  · rintro ⟨h1, h2⟩
    refine ⟨?_, h1⟩
    rcases Nat.lt_trichotomy k j with h | h | h
    · exact h
    · subst h; exact absurd h1 (by omega)
    · exact absurd rfl (h2 j h)
theorem les_less {p q : Nat → Nat} (hp : IsP p) (hq : IsP q) {k : Nat} (hk : k < 8) (h : ∀ i, i < k → p i = q i) (hl : p k < q k) : les p k < les q k := by
  rw [les_eq hp hk, les_eq hq hk]
  have h1 : cnt (fun y => (decide (y < p k) && nous p k y) || decide (y = p k)) 8 ≤ cnt (fun y => decide (y < q k) && nous q k y) 8 := by
    refine cnt_mono (fun y hy z => ?_)
    rw [Bool.or_eq_true, Bool.and_eq_true, nous_iff, decide_eq_true_iff, decide_eq_true_iff] at z
    rw [Bool.and_eq_true, nous_iff, decide_eq_true_iff]
    rcases z with ⟨z1, z2⟩ | z
    · exact ⟨by omega, fun i hi => by rw [← h i hi]; exact z2 i hi⟩
    · subst z
      exact ⟨hl, fun i hi e => by rw [← h i hi] at e; have := hp.2.2 i k (by omega) hk e; omega⟩
  rw [cnt_or (fun y hy z => by
    rw [Bool.and_eq_true, nous_iff, decide_eq_true_iff, decide_eq_true_iff] at z
    omega), cnt_one (j := p k) (hp.2.1 k hk) (decide_eq_true rfl) (fun y _ hne => decide_eq_false hne)] at h1
  omega
theorem num_inj {p q : Nat → Nat} (hp : IsP p) (hq : IsP q) (h : num p 8 = num q 8) : p = q := by
  have hl := num_les 8 (Nat.le_refl _) h
  have : ∀ k, k ≤ 8 → ∀ i, i < k → p i = q i := by
    intro k
    induction k with
    | zero => intro _ i hi; omega
    | succ k ih =>
      intro hk i hi
      by_cases e : i = k
      · subst e
        have hh := ih (by omega)
        have := hl i (by omega)
        rcases Nat.lt_trichotomy (p i) (q i) with z | z | z
        · have := les_less hp hq (by omega) hh z; omega
        · exact z
        · have := les_less hq hp (by omega) (fun j hj => (hh j hj).symm) z; omega
      · exact ih (by omega) i (by omega)
  exact hp.ext hq (this 8 (Nat.le_refl _))
end

