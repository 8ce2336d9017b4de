/-! MATHEMATICS, 11: numbering by keys -/
section
def cnt (P : Nat → Bool) (n : Nat) : Nat := (List.range n).countP P
theorem cnt_0 (P : Nat → Bool) : cnt P 0 = 0 := rfl
theorem cnt_s (P : Nat → Bool) (n : Nat) : cnt P (n + 1) = cnt P n + (P n).toNat := by
  unfold cnt
  rw [List.range_succ, List.countP_append, List.countP_singleton]
  cases P n <;> rfl
theorem cnt_le (P : Nat → Bool) (n : Nat) : cnt P n ≤ n := by
  have := List.countP_le_length (p := P) (l := List.range n)
  rwa [List.length_range] at this
theorem cnt_cong {P Q : Nat → Bool} {n : Nat} (h : ∀ i, i < n → P i = Q i) : cnt P n = cnt Q n := by
  unfold cnt
  exact List.countP_congr (fun x hx => by rw [h x (List.mem_range.mp hx)])
theorem cnt_mono {P Q : Nat → Bool} {n : Nat} (h : ∀ i, i < n → P i = true → Q i = true) : cnt P n ≤ cnt Q n := by
  unfold cnt
  exact List.countP_mono_left (fun x hx => h x (List.mem_range.mp hx))
theorem cnt_or {P Q : Nat → Bool} : ∀ {n : Nat}, (∀ i, i < n → ¬ (P i = true ∧ Q i = true)) → cnt (fun i => P i || Q i) n = cnt P n + cnt Q n
  | 0, _ => rfl
  | n + 1, h => by
    rw [cnt_s, cnt_s, cnt_s, cnt_or (fun i hi => h i (by omega))]
    have := h n (by omega)
    revert this
    cases P n <;> cases Q n <;> simp <;> omega
theorem cnt_none {P : Nat → Bool} : ∀ {n : Nat}, (∀ i, i < n → P i = false) → cnt P n = 0
  | 0, _ => rfl
  | n + 1, h => by rw [cnt_s, cnt_none (fun i hi => h i (by omega)), h n (by omega)]; rfl
theorem cnt_one {P : Nat → Bool} {j : Nat} : ∀ {n : Nat}, j < n → P j = true → (∀ i, i < n → i ≠ j → P i = false) → cnt P n = 1
  | 0, h, _, _ => absurd h (by omega)
  | n + 1, h, hj, ho => by
    rw [cnt_s]
    by_cases e : j = n
    · subst e
      rw [cnt_none (fun i hi => ho i (by omega) (by omega)), hj]; rfl
    · rw [cnt_one (j := j) (by omega) hj (fun i hi hn => ho i (by omega) hn), ho n (by omega) (fun z => e z.symm)]; rfl
/-- no earlier vertex has the same key -/
def fstK (K : Nat → Nat) (u : Nat) : Bool := (List.range u).all (fun w => K w != K u)
theorem fstK_iff (K : Nat → Nat) (u : Nat) : fstK K u = true ↔ ∀ w, w < u → K w ≠ K u := by
  unfold fstK
  rw [List.all_eq_true]
  constructor
  · intro h w hw
    have := h w (List.mem_range.mpr hw)
    simpa using this
  · intro h w hw
    have := h w (List.mem_range.mp hw)
    simpa using this
/-- the class number by keys; the number of classes -/
def rk (K : Nat → Nat) (n v : Nat) : Nat := cnt (fun u => fstK K u && decide (K u < K v)) n
def ncl (K : Nat → Nat) (n : Nat) : Nat := cnt (fstK K) n
theorem rk_cong {K L : Nat → Nat} {n v : Nat} (h : ∀ i, i < n → K i = L i) (hv : v < n) : rk K n v = rk L n v := by
  unfold rk
  refine cnt_cong (fun i hi => ?_)
  have e : fstK K i = fstK L i := by
    rw [Bool.eq_iff_iff, fstK_iff, fstK_iff]
    constructor
    · intro z w hw; rw [← h w (by omega), ← h i hi]; exact z w hw
    · intro z w hw; rw [h w (by omega), h i hi]; exact z w hw
  rw [e, h i hi, h v hv]
theorem ncl_cong {K L : Nat → Nat} {n : Nat} (h : ∀ i, i < n → K i = L i) : ncl K n = ncl L n := by
  unfold ncl
  refine cnt_cong (fun i hi => ?_)
  rw [Bool.eq_iff_iff, fstK_iff, fstK_iff]
  constructor
  · intro z w hw; rw [← h w (by omega), ← h i hi]; exact z w hw
  · intro z w hw; rw [h w (by omega), h i hi]; exact z w hw
theorem least_of {P : Nat → Prop} : ∀ {n : Nat}, P n → ∃ m, m ≤ n ∧ P m ∧ ∀ k, k < m → ¬ P k := by
  intro n
  induction n using Nat.strongRecOn with
  | ind n ih =>
    intro h
    by_cases e : ∃ k, k < n ∧ P k
    · obtain ⟨k, hk, hp⟩ := e
      obtain ⟨m, hm, h1, h2⟩ := ih k hk hp
      exact ⟨m, by omega, h1, h2⟩
    · exact ⟨n, Nat.le_refl n, h, fun k hk hp => e ⟨k, hk, hp⟩⟩
/-- there is one first vertex of each key -/
theorem fst_ex (K : Nat → Nat) {n v : Nat} (hv : v < n) : ∃ u, u < n ∧ K u = K v ∧ fstK K u = true := by
  obtain ⟨u, hu, h1, h2⟩ := least_of (P := fun u => K u = K v) (n := v) rfl
  exact ⟨u, by omega, h1, (fstK_iff K u).mpr (fun w hw e => h2 w hw (e.trans h1))⟩
theorem fst_one {K : Nat → Nat} {u w : Nat} (hu : fstK K u = true) (hw : fstK K w = true) (e : K u = K w) : u = w := by
  rw [fstK_iff] at hu hw
  rcases Nat.lt_trichotomy u w with h | h | h
  · exact absurd e (hw u h)
  · exact h
  · exact absurd e.symm (hu w h)
theorem rk_lt_ncl (K : Nat → Nat) {n v : Nat} (hv : v < n) : rk K n v < ncl K n := by
  obtain ⟨u, hu, e, hf⟩ := fst_ex K hv
  have h1 : cnt (fun w => fstK K w && decide (K w = K v)) n = 1 := by
    refine cnt_one hu (by simp [hf, e]) (fun w hw hne => ?_)
    cases h : fstK K w
    · rfl
    · have : ¬ K w = K v := fun z => hne (fst_one h hf (z.trans e.symm))
      simp [this]
  have h2 : cnt (fun w => (fstK K w && decide (K w < K v)) || (fstK K w && decide (K w = K v))) n = rk K n v + 1 := by
    rw [cnt_or, h1]; rfl
    intro i hi
    simp
    omega
  have h3 : cnt (fun w => (fstK K w && decide (K w < K v)) || (fstK K w && decide (K w = K v))) n ≤ ncl K n := cnt_mono (fun i hi h => by
    cases e : fstK K i
    · simp [e] at h
    · rfl)
  omega
/-- a greatest key -/
theorem max_ex (K : Nat → Nat) : ∀ {n : Nat}, 0 < n → ∃ v, v < n ∧ ∀ u, u < n → K u ≤ K v
  | 0, h => absurd h (by omega)
  | 1, _ => ⟨0, by omega, fun u hu => by rw [show u = 0 from by omega]; exact Nat.le_refl _⟩
  | n + 2, _ => by
    obtain ⟨v, hv, h⟩ := max_ex K (n := n + 1) (by omega)
    by_cases e : K v ≤ K (n + 1)
    · exact ⟨n + 1, by omega, fun u hu => by
        by_cases z : u = n + 1
        · subst z; exact Nat.le_refl _
        · exact Nat.le_trans (h u (by omega)) e⟩
    · exact ⟨v, by omega, fun u hu => by
        by_cases z : u = n + 1
        · subst z; omega
        · exact h u (by omega)⟩
theorem ncl_max (K : Nat → Nat) {n : Nat} (hn : 0 < n) : ∃ v, v < n ∧ ncl K n = rk K n v + 1 := by
  obtain ⟨v, hv, h⟩ := max_ex K hn
  refine ⟨v, hv, ?_⟩
  obtain ⟨u, hu, e, hf⟩ := fst_ex K hv
  have h1 : cnt (fun w => fstK K w && decide (K w = K v)) n = 1 := by
    refine cnt_one hu (by simp [hf, e]) (fun w hw hne => ?_)
    cases h : fstK K w
    · rfl
    · have : ¬ K w = K v := fun z => hne (fst_one h hf (z.trans e.symm))
      simp [this]
  have h2 : ncl K n = cnt (fun w => (fstK K w && decide (K w < K v)) || (fstK K w && decide (K w = K v))) n := by
    unfold ncl
    refine cnt_cong (fun i hi => ?_)
    have := h i hi
    have : K i < K v ∨ K i = K v := by omega
    rcases this with z | z
    · simp only [decide_eq_true z, Bool.and_true]
      cases fstK K i <;> simp
    · simp [z]
  rw [h2, cnt_or, h1]; rfl
  intro i hi
  simp
  omega
/-- maximum of numbers below n -/
def maxTo (f : Nat → Nat) : Nat → Nat
  | 0 => 0
  | n + 1 => if f n ≤ maxTo f n then maxTo f n else f n
theorem maxTo_eq {f : Nat → Nat} {m : Nat} : ∀ {n : Nat}, (∀ i, i < n → f i ≤ m) → (∃ i, i < n ∧ f i = m) → maxTo f n = m
  | 0, _, ⟨i, hi, _⟩ => absurd hi (by omega)
  | n + 1, h, ⟨i, hi, e⟩ => by
    have hle : ∀ k, k ≤ n → maxTo f k ≤ m := by
      intro k
      induction k with
      | zero => intro _; exact Nat.zero_le _
      | succ k ih =>
        intro hk
        rw [maxTo]
        split
        · exact ih (by omega)
        · exact h k (by omega)
    rw [maxTo]
    by_cases z : i = n
    · subst z
      have := hle i (Nat.le_refl i)
      split <;> omega
    · rw [maxTo_eq (n := n) (fun j hj => h j (by omega)) ⟨i, by omega, e⟩, if_pos (h n (by omega))]
theorem ncl_maxTo (K : Nat → Nat) {n : Nat} (hn : 0 < n) : maxTo (rk K n) n + 1 = ncl K n := by
  obtain ⟨v, hv, e⟩ := ncl_max K hn
  rw [maxTo_eq (m := rk K n v) (fun i hi => by have := rk_lt_ncl K hi; omega) ⟨v, hv, rfl⟩, e]
/-- the set of numbers below n with P, as bits -/
def msk (P : Nat → Bool) : Nat → Nat
  | 0 => 0
  | n + 1 => if P n then msk P n ||| 2 ^ n else msk P n
theorem msk_bit (P : Nat → Bool) (i : Nat) : ∀ n, (msk P n).testBit i = (decide (i < n) && P i)
  | 0 => by rw [msk, Nat.zero_testBit]; simp
  | n + 1 => by
    rw [msk]
    split
    · rename_i h
      rw [Nat.testBit_or, msk_bit P i n, Nat.testBit_two_pow]
      by_cases e : n = i
      · subst e; simp [h]
      · have : (i < n + 1) ↔ i < n := by omega
        simp [e, this]
    · rename_i h
      rw [msk_bit P i n]
      by_cases e : n = i
      · subst e; simp [h]
      · have : (i < n + 1) ↔ i < n := by omega
        simp [this]
theorem msk_lt (P : Nat → Bool) (n : Nat) : msk P n < 2 ^ n := by
  apply Nat.lt_pow_two_of_testBit
  intro i hi
  rw [msk_bit]
  have : ¬ i < n := by omega
  simp [this]
theorem pop_cnt (a : Nat) : pop a = cnt (fun i => a.testBit i) 8 := rfl
theorem msk_pop {P : Nat → Bool} {n : Nat} (h8 : n ≤ 8) : pop (msk P n) = cnt P n := by
  rw [pop_cnt]
  have h : ∀ d, n + d ≤ 8 → cnt (fun i => (msk P n).testBit i) (n + d) = cnt P n := by
    intro d
    induction d with
    | zero =>
      intro _
      refine cnt_cong (fun i hi => ?_)
      rw [msk_bit]; simp only [Nat.add_zero] at hi; simp [hi]
    | succ d ih =>
      intro hd
      rw [Nat.add_succ, cnt_s, ih (by omega), msk_bit, decide_eq_false (by omega)]
      rfl
  have := h (8 - n) (by omega)
  rwa [show n + (8 - n) = 8 from by omega] at this
end

