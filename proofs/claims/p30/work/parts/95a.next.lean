/-! MATHEMATICS, 53: the reference's next map -/
section
def Mp (n : Nat) (q : Nat → Nat) (σ : zST) : Prop := ∀ k, k < n → gI σ 50 k = nI (q k)
theorem rem_val {n : Nat} (hn : n ≤ 8) {p q : Nat → Nat} (hp : IsN n p) (hq : IsN n q) {i : Nat} (hi : i < n) (h : ∀ k, k < i → p k = q k) : ∃ j, i ≤ j ∧ j < n ∧ p i = q j := by
  obtain ⟨j, hj, e⟩ := hq.onto hn (hp.lt hn hi)
  refine ⟨j, ?_, hj, e.symm⟩
  apply Classical.byContradiction
  intro z
  have h1 := h j (by omega)
  have := hp.inj (h1.trans e)
  omega
/-- descending from a on -/
def Dsc (n : Nat) (q : Nat → Nat) (a : Nat) : Prop := ∀ k, a ≤ k → k + 1 < n → q (k + 1) < q k
theorem Dsc.le {n : Nat} {q : Nat → Nat} {a : Nat} (h : Dsc n q a) {i : Nat} (hi : a ≤ i) : ∀ d, i + d < n → q (i + d) ≤ q i
  | 0, _ => Nat.le_refl _
  | d + 1, hd => by
    have h1 := h.le hi d (by omega)
    have h2 := h (i + d) (by omega) (by omega)
    have e : i + (d + 1) = i + d + 1 := rfl
    rw [e]
    omega
theorem Dsc.lead {n : Nat} (hn : n ≤ 8) {p q : Nat → Nat} (hp : IsN n p) (hq : IsN n q) {a i : Nat} (h : Dsc n q a) (ha : a ≤ i) (hi : i < n) (he : ∀ k, k < i → p k = q k) : p i ≤ q i := by
  obtain ⟨j, h1, h2, e⟩ := rem_val hn hp hq hi he
  have := h.le ha (j - i) (by omega)
  rw [show i + (j - i) = j from by omega] at this
  omega
theorem dsc_last {n : Nat} (hn : n ≤ 8) {q : Nat → Nat} (hq : IsN n q) (h : Dsc n q 0) {p : Nat → Nat} (hp : IsN n p) : rv n p ≤ rv n q := by
  rcases first_diff (f := p) (g := q) (n := n) with e | ⟨i, hi, hne, he⟩
  · rw [rv_cong e]; exact Nat.le_refl _
  · have := h.lead hn hp hq (Nat.zero_le i) hi he
    exact Nat.le_of_lt (rv_first hn (hp.l8 hn) hi (by omega) he)
def rev (a n k : Nat) : Nat := if a < k ∧ k < n then n + a - k else k
theorem rev_rev (a n k : Nat) : rev a n (rev a n k) = k := by
  unfold rev
  by_cases h : a < k ∧ k < n
  · rw [if_pos h, if_pos (by omega)]; omega
  · rw [if_neg h, if_neg h]
theorem rev_N {n : Nat} (hn : n ≤ 8) {a : Nat} : IsN n (rev a n) := by
  refine IsN.mk hn (fun i hi => ?_) (fun i j _ _ e => ?_) (fun i hi => ?_)
  · unfold rev
    split <;> omega
  · have := congrArg (rev a n) e
    rwa [rev_rev, rev_rev] at this
  · unfold rev
    rw [if_neg (by omega)]
/-- the successor -/
def nxt (n : Nat) (q : Nat → Nat) (a b k : Nat) : Nat := q (sw a b (rev a n k))
theorem nxt_N {n : Nat} (hn : n ≤ 8) {q : Nat → Nat} (hq : IsN n q) {a b : Nat} (ha : a < n) (hb : b < n) : IsN n (nxt n q a b) := ((rev_N hn).comp (sw_N hn ha hb)).comp hq
theorem nxt_next {n : Nat} (hn : n ≤ 8) {q : Nat → Nat} (hq : IsN n q) {a b : Nat} (hab : a < b) (hb : b < n) (hd : Dsc n q (a + 1)) (h1 : q a < q b) (h2 : ∀ k, b < k → k < n → q k < q a) : rv n q < rv n (nxt n q a b) ∧ ∀ p, IsN n p → rv n p ≤ rv n q ∨ rv n (nxt n q a b) ≤ rv n p := by
  have hN := nxt_N hn hq (show a < n by omega) hb
  have e1 : ∀ k, k < a → nxt n q a b k = q k := fun k hk => by
    unfold nxt rev
    rw [if_neg (by omega), sw_o (by omega) (by omega)]
  have e2 : nxt n q a b a = q b := by
    unfold nxt rev
    rw [if_neg (by omega), sw_a]
  have hdl : ∀ i j, a < i → i ≤ j → j < n → q j ≤ q i := fun i j h3 h4 h5 => by
    have := hd.le (show a + 1 ≤ i by omega) (j - i) (by omega)
    rwa [show i + (j - i) = j from by omega] at this
  have hdl2 : ∀ i j, a < i → i < j → j < n → q j < q i := fun i j h3 h4 h5 => by
    have h6 := hdl i j h3 (by omega) h5
    have h7 : q j ≠ q i := fun e => by have := hq.inj e; omega
    omega
  -- ascending behind a
  have hasc : ∀ k j, a < k → k ≤ j → j < n → nxt n q a b k ≤ nxt n q a b j := by
    intro k j h3 h4 h5
    by_cases z : k = j
    · rw [z]; exact Nat.le_refl _
    · unfold nxt
      have r1 : rev a n k = n + a - k := by unfold rev; rw [if_pos (by omega)]
      have r2 : rev a n j = n + a - j := by unfold rev; rw [if_pos (by omega)]
      rw [r1, r2]
      generalize hx : n + a - k = x
      generalize hy : n + a - j = y
      have hxy : y < x ∧ a < y ∧ x < n := by omega
      unfold sw
      rw [if_neg (show ¬ x = a by omega), if_neg (show ¬ y = a by omega)]
      by_cases x1 : x = b
      · rw [if_pos x1, if_neg (by omega)]
        have := hdl2 y b (by omega) (by omega) hb
        omega
      · rw [if_neg x1]
        by_cases y1 : y = b
        · rw [if_pos y1]
          have := h2 x (by omega) (by omega)
          omega
        · rw [if_neg y1]
          exact hdl y x (by omega) (by omega) (by omega)
  refine ⟨rv_first hn (hq.l8 hn) (show a < n by omega) (by rw [e2]; exact h1) (fun k hk => (e1 k hk).symm), fun p hp => ?_⟩
  rcases first_diff (f := p) (g := q) (n := n) with e | ⟨i, hi, hne, he⟩
  · left; rw [rv_cong e]; exact Nat.le_refl _
  · by_cases hlt : p i < q i
    · left; exact Nat.le_of_lt (rv_first hn (hp.l8 hn) hi hlt he)
    · right
      have hgt : q i < p i := by omega
      by_cases h3 : a < i
      · have := hd.lead hn hp hq (show a + 1 ≤ i by omega) hi he
        omega
      · by_cases h4 : i = a
        · subst h4
          obtain ⟨j, j1, j2, j3⟩ := rem_val hn hp hq hi he
          have hj : j ≠ i := fun z => by rw [z] at j3; omega
          have hjb : j ≤ b := by
            apply Classical.byContradiction
            intro z
            have := h2 j (by omega) j2
            omega
          have hqb := hdl j b (by omega) hjb hb
          by_cases h5 : p i = q b
          · -- compare behind a
            rcases first_diff (f := nxt n q i b) (g := p) (n := n) with e | ⟨x, hx, hne2, he2⟩
            · rw [rv_cong e]; exact Nat.le_refl _
            · have hxi : i < x := by
                apply Classical.byContradiction
                intro z
                by_cases y : x = i
                · exact hne2 (by rw [y, e2, h5])
                · exact hne2 (by rw [e1 x (by omega), he x (by omega)])
              obtain ⟨y, y1, y2, y3⟩ := rem_val hn hp hN hx (fun k hk => (he2 k hk).symm)
              have := hasc x y hxi y1 y2
              exact Nat.le_of_lt (rv_first hn (hN.l8 hn) hx (by omega) he2)
          · refine Nat.le_of_lt (rv_first hn (hN.l8 hn) hi (by rw [e2]; omega) (fun k hk => by rw [e1 k hk, he k hk]))
        · refine Nat.le_of_lt (rv_first hn (hN.l8 hn) hi (by rw [e1 i (by omega)]; exact hgt) (fun k hk => by rw [e1 k (by omega), he k hk]))
/-- the identity comes first -/
theorem id_first {n : Nat} (hn : n ≤ 8) {p : Nat → Nat} (hp : IsN n p) : rv n (fun k => k) ≤ rv n p := by
  rcases first_diff (f := fun k => k) (g := p) (n := n) with e | ⟨i, hi, hne, he⟩
  · rw [rv_cong e]; exact Nat.le_refl _
  · have : i ≤ p i := by
      obtain ⟨j, h1, h2, h3⟩ := rem_val hn hp (IsN.id n) hi (fun k hk => (he k hk).symm)
      have h3 : p i = j := h3
      omega
    have hne : i ≠ p i := hne
    exact Nat.le_of_lt (rv_first hn (fun k hk => by show k < 8; omega) hi (show i < p i by omega) he)
end

