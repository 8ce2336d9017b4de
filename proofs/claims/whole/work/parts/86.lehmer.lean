/-! MATHEMATICS, 34: the number of a permutation (reference) -/
section
/-- how many behind k have a lower image -/
def les (p : Nat → Nat) (k : Nat) : Nat := cnt (fun j => decide (k < j) && decide (p j < p k)) 8
def num (p : Nat → Nat) : Nat → Nat
  | 0 => 0
  | k + 1 => num p k * (8 - k) + les p k
def fc : Nat → Nat
  | 0 => 1
  | k + 1 => fc k * (8 - k)
theorem cnt_gt (k : Nat) : ∀ c, cnt (fun j => decide (k < j)) c = c - (k + 1)
  | 0 => by rw [cnt_0]; omega
  | c + 1 => by
    rw [cnt_s, cnt_gt k c]
    by_cases q : k < c
    · rw [decide_eq_true q]; show c - (k + 1) + 1 = _; omega
    · rw [decide_eq_false q]; show c - (k + 1) + 0 = _; omega
theorem les_lt (p : Nat → Nat) {k : Nat} (hk : k < 8) : les p k < 8 - k := by
  have h : les p k ≤ cnt (fun j => decide (k < j)) 8 := cnt_mono (fun j _ h => by
    rw [Bool.and_eq_true] at h; exact h.1)
  rw [cnt_gt] at h
  omega
theorem num_lt (p : Nat → Nat) : ∀ k, k ≤ 8 → num p k < fc k
  | 0, _ => by rw [num, fc]; omega
  | k + 1, hk => by
    have h1 := num_lt p k (by omega)
    have h2 := les_lt p (show k < 8 by omega)
    rw [num, fc]
    have h3 : (num p k + 1) * (8 - k) ≤ fc k * (8 - k) := Nat.mul_le_mul_right _ h1
    rw [Nat.add_mul, Nat.one_mul] at h3
    omega
theorem num8 (p : Nat → Nat) : num p 8 < 40320 := num_lt p 8 (Nat.le_refl _)
theorem mix {a b m x y : Nat} (hx : x < m) (hy : y < m) (h : a * m + x = b * m + y) : a = b ∧ x = y := by
  have hm : 0 < m := by omega
  have h1 : (a * m + x) / m = a := by
    rw [Nat.mul_comm, Nat.mul_add_div hm, Nat.div_eq_of_lt hx, Nat.add_zero]
  have h2 : (b * m + y) / m = b := by
    rw [Nat.mul_comm, Nat.mul_add_div hm, Nat.div_eq_of_lt hy, Nat.add_zero]
  have : a = b := by rw [← h1, h, h2]
  subst this
  exact ⟨rfl, by omega⟩
theorem num_les {p q : Nat → Nat} : ∀ k, k ≤ 8 → num p k = num q k → ∀ i, i < k → les p i = les q i
  | 0, _, _, i, hi => absurd hi (by omega)
  | k + 1, hk, h, i, hi => by
    rw [num, num] at h
    obtain ⟨h1, h2⟩ := mix (les_lt p (by omega)) (les_lt q (by omega)) h
    by_cases e : i = k
    · rw [e]; exact h2
    · exact num_les k (by omega) h1 i (by omega)
/-- the value y is none of the first k images -/
def nous (p : Nat → Nat) (k y : Nat) : Bool := (List.range k).all (fun i => p i != y)
theorem nous_iff (p : Nat → Nat) (k y : Nat) : nous p k y = true ↔ ∀ i, i < k → p i ≠ y := by
  unfold nous
  rw [List.all_eq_true]
  constructor
  · intro h i hi
    have := h i (List.mem_range.mpr hi)
    simpa using this
  · intro h i hi
    have := h i (List.mem_range.mp hi)
    simpa using this
theorem les_eq {p : Nat → Nat} (hp : IsP p) {k : Nat} (hk : k < 8) : les p k = cnt (fun y => decide (y < p k) && nous p k y) 8 := by
  rw [← cnt_bij (P := fun y => decide (y < p k) && nous p k y) hp]
  unfold les
  refine cnt_cong (fun j hj => ?_)
  rw [Bool.eq_iff_iff, Bool.and_eq_true, Bool.and_eq_true, nous_iff, decide_eq_true_iff, decide_eq_true_iff]
  constructor
  · rintro ⟨h1, h2⟩
    exact ⟨h2, fun i hi e => by have := hp.2.2 i j (by omega) hj e; omega⟩
  · rintro ⟨h1, h2⟩
    refine ⟨?_, h1⟩
    rcases Nat.lt_trichotomy k j with h | h | h
    · exact h
    · subst h; exact absurd h1 (by omega)
    · exact absurd rfl (h2 j h)
theorem les_less {p q : Nat → Nat} (hp : IsP p) (hq : IsP q) {k : Nat} (hk : k < 8) (h : ∀ i, i < k → p i = q i) (hl : p k < q k) : les p k < les q k := by
  rw [les_eq hp hk, les_eq hq hk]
  have h1 : cnt (fun y => (decide (y < p k) && nous p k y) || decide (y = p k)) 8 ≤ cnt (fun y => decide (y < q k) && nous q k y) 8 := by
    refine cnt_mono (fun y hy z => ?_)
    rw [Bool.or_eq_true, Bool.and_eq_true, nous_iff, decide_eq_true_iff, decide_eq_true_iff] at z
    rw [Bool.and_eq_true, nous_iff, decide_eq_true_iff]
    rcases z with ⟨z1, z2⟩ | z
    · exact ⟨by omega, fun i hi => by rw [← h i hi]; exact z2 i hi⟩
    · subst z
      exact ⟨hl, fun i hi e => by rw [← h i hi] at e; have := hp.2.2 i k (by omega) hk e; omega⟩
  rw [cnt_or (fun y hy z => by
    rw [Bool.and_eq_true, nous_iff, decide_eq_true_iff, decide_eq_true_iff] at z
    omega), cnt_one (j := p k) (hp.2.1 k hk) (decide_eq_true rfl) (fun y _ hne => decide_eq_false hne)] at h1
  omega
theorem num_inj {p q : Nat → Nat} (hp : IsP p) (hq : IsP q) (h : num p 8 = num q 8) : p = q := by
  have hl := num_les 8 (Nat.le_refl _) h
  have : ∀ k, k ≤ 8 → ∀ i, i < k → p i = q i := by
    intro k
    induction k with
    | zero => intro _ i hi; omega
    | succ k ih =>
      intro hk i hi
      by_cases e : i = k
      · subst e
        have hh := ih (by omega)
        have := hl i (by omega)
        rcases Nat.lt_trichotomy (p i) (q i) with z | z | z
        · have := les_less hp hq (by omega) hh z; omega
        · exact z
        · have := les_less hq hp (by omega) (fun j hj => (hh j hj).symm) z; omega
      · exact ih (by omega) i (by omega)
  exact hp.ext hq (this 8 (Nat.le_refl _))
theorem numbered_in (F : Nat) {p : Nat → Nat} (hp : ∀ i, i < 8 → p i < 8) {σ : zST} (hi : ∀ j, j < 8 → gI σ 59 j = nI (p j)) (k4 : Nat → Int32 → Int32 → zST → Option (Int32 × zST)) {k a1 : Nat} (hk : k < 8) : ∀ (d i n : Nat), i + d = 8 → d < n → k < i → m_X8_numbered_17 F k4 n 46 (nI a1) (nI k) (nI (cnt (fun j => decide (k < j) && decide (p j < p k)) i)) (nI i) σ = k4 46 (nI (a1 * (8 - k) + les p k)) (nI (k + 1)) σ := by
  intro d
  induction d with
  | zero =>
    intro i n h1 h2 h3
    obtain ⟨n, rfl⟩ : ∃ k, n = k + 1 := ⟨n - 1, by omega⟩
    have : i = 8 := by omega
    subst this
    rw [m_X8_numbered_17]; dsimp only
    rw [l8, if_pos (nI_le (by omega) (by omega)), b_sub (by omega), pk_mul, nI_add, nm_eq, nI_1, nm_eq]
    rfl
  | succ d ih =>
    intro i n h1 h2 h3
    obtain ⟨n, rfl⟩ : ∃ k, n = k + 1 := ⟨n - 1, by omega⟩
    have hi8 : i < 8 := by omega
    have e1 := hi i hi8
    have e2 := hi k hk
    have b1 := hp i hi8
    have b2 := hp k hk
    rw [m_X8_numbered_17]; dsimp only
    unfold m_X8_numbered_46
    rw [l8, if_neg (nI_ge hi8 (by omega)), ldI_at hi8 (by omega), ldI_at hk (by omega), e1, e2]
    have hs := cnt_s (fun j => decide (k < j) && decide (p j < p k)) i
    by_cases q : p i < p k
    · rw [if_neg (nI_ge q (by omega)), nm_eq, nm_eq, nI_1, nI_1]
      have : (decide (k < i) && decide (p i < p k)) = true := by
        rw [decide_eq_true h3, decide_eq_true q]; rfl
      rw [this] at hs
      have hs : cnt (fun j => decide (k < j) && decide (p j < p k)) (i + 1) = cnt (fun j => decide (k < j) && decide (p j < p k)) i + 1 := hs
      rw [← hs]
      exact ih (i + 1) n (by omega) (by omega) (by omega)
    · rw [if_pos (nI_le (by omega) (by omega)), nm_eq, nm_eq, nI_1]
      have : (decide (k < i) && decide (p i < p k)) = false := by
        rw [decide_eq_false q, Bool.and_false]
      rw [this] at hs
      have hs : cnt (fun j => decide (k < j) && decide (p j < p k)) (i + 1) = cnt (fun j => decide (k < j) && decide (p j < p k)) i := hs
      rw [l0, nI_add, Nat.add_zero, ← hs]
      exact ih (i + 1) n (by omega) (by omega) (by omega)
theorem numbered_eq (F : Nat) (hF : 8 < F) {p : Nat → Nat} (hp : ∀ i, i < 8 → p i < 8) {σ : zST} (hi : ∀ j, j < 8 → gI σ 59 j = nI (p j)) : m_X8_numbered F 46 σ = some (nI (num p 8), σ) := by
  unfold m_X8_numbered
  refine up_loop0 (fun n (i : Int32) (s : Int32) => m_X8_numbered_4 F n 46 s i σ) 8 (fun i => nI (num p i)) (some (nI (num p 8), σ)) (fun n k hk => ?_) (fun n => ?_) hF
  · show m_X8_numbered_4 F (n + 1) 46 (nI (num p k)) (nI k) σ = m_X8_numbered_4 F n 46 (nI (num p (k + 1))) (nI (k + 1)) σ
    rw [m_X8_numbered_4]; dsimp only
    have h0 : cnt (fun j => decide (k < j) && decide (p j < p k)) (k + 1) = 0 := cnt_none (fun j hj => by
      rw [decide_eq_false (by omega), Bool.false_and])
    have h := numbered_in F hp hi (m_X8_numbered_4 F n) (a1 := num p k) hk (8 - (k + 1)) (k + 1) F (by omega) (by omega) (by omega)
    rw [h0] at h
    rw [l8, if_neg (nI_ge hk (by omega)), nm_eq, nI_1, l0, h]
    rfl
  · show m_X8_numbered_4 F (n + 1) 46 (nI (num p 8)) (nI 8) σ = _
    rw [m_X8_numbered_4]; dsimp only
    rw [l8, if_pos (nI_le (by omega) (by omega))]
end
