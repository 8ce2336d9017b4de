/-! MATHEMATICS, 53: the reference's next map -/
section
def Mp (n : Nat) (q : Nat → Nat) (σ : zST) : Prop := ∀ k, k < n → gI σ 50 k = nI (q k)
theorem rem_val {n : Nat} (hn : n ≤ 8) {p q : Nat → Nat} (hp : IsN n p) (hq : IsN n q) {i : Nat} (hi : i < n) (h : ∀ k, k < i → p k = q k) : ∃ j, i ≤ j ∧ j < n ∧ p i = q j := by
  obtain ⟨j, hj, e⟩ := hq.onto hn (hp.lt hn hi)
  refine ⟨j, ?_, hj, e.symm⟩
  apply Classical.byContradiction
  intro z
  have h1 := h j (by omega)
  have := hp.inj (h1.trans e)
  omega
/-- descending from a on -/
def Dsc (n : Nat) (q : Nat → Nat) (a : Nat) : Prop := ∀ k, a ≤ k → k + 1 < n → q (k + 1) < q k
theorem Dsc.le {n : Nat} {q : Nat → Nat} {a : Nat} (h : Dsc n q a) {i : Nat} (hi : a ≤ i) : ∀ d, i + d < n → q (i + d) ≤ q i
  | 0, _ => Nat.le_refl _
  | d + 1, hd => by
    have h1 := h.le hi d (by omega)
    have h2 := h (i + d) (by omega) (by omega)
    have e : i + (d + 1) = i + d + 1 := rfl
    rw [e]
    omega
theorem Dsc.lead {n : Nat} (hn : n ≤ 8) {p q : Nat → Nat} (hp : IsN n p) (hq : IsN n q) {a i : Nat} (h : Dsc n q a) (ha : a ≤ i) (hi : i < n) (he : ∀ k, k < i → p k = q k) : p i ≤ q i := by
  obtain ⟨j, h1, h2, e⟩ := rem_val hn hp hq hi he
  have := h.le ha (j - i) (by omega)
  rw [show i + (j - i) = j from by omega] at this
  omega
theorem dsc_last {n : Nat} (hn : n ≤ 8) {q : Nat → Nat} (hq : IsN n q) (h : Dsc n q 0) {p : Nat → Nat} (hp : IsN n p) : rv n p ≤ rv n q := by
  rcases first_diff (f := p) (g := q) (n := n) with e | ⟨i, hi, hne, he⟩
  · rw [rv_cong e]; exact Nat.le_refl _
  · have := h.lead hn hp hq (Nat.zero_le i) hi he
    exact Nat.le_of_lt (rv_first hn (hp.l8 hn) hi (by omega) he)
def rev (a n k : Nat) : Nat := if a < k ∧ k < n then n + a - k else k
theorem rev_rev (a n k : Nat) : rev a n (rev a n k) = k := by
  unfold rev
  by_cases h : a < k ∧ k < n
  · rw [if_pos h, if_pos (by omega)]; omega
  · rw [if_neg h, if_neg h]
theorem rev_N {n : Nat} (hn : n ≤ 8) {a : Nat} : IsN n (rev a n) := by
  refine IsN.mk hn (fun i hi => ?_) (fun i j _ _ e => ?_) (fun i hi => ?_)
  · unfold rev
    split <;> omega
  · have := congrArg (rev a n) e
    rwa [rev_rev, rev_rev] at this
  · unfold rev
    rw [if_neg (by omega)]
/-- the successor -/
def nxt (n : Nat) (q : Nat → Nat) (a b k : Nat) : Nat := q (sw a b (rev a n k))
theorem nxt_N {n : Nat} (hn : n ≤ 8) {q : Nat → Nat} (hq : IsN n q) {a b : Nat} (ha : a < n) (hb : b < n) : IsN n (nxt n q a b) := ((rev_N hn).comp (sw_N hn ha hb)).comp hq
theorem nxt_next {n : Nat} (hn : n ≤ 8) {q : Nat → Nat} (hq : IsN n q) {a b : Nat} (hab : a < b) (hb : b < n) (hd : Dsc n q (a + 1)) (h1 : q a < q b) (h2 : ∀ k, b < k → k < n → q k < q a) : rv n q < rv n (nxt n q a b) ∧ ∀ p, IsN n p → rv n p ≤ rv n q ∨ rv n (nxt n q a b) ≤ rv n p := by
  have hN := nxt_N hn hq (show a < n by omega) hb
  have e1 : ∀ k, k < a → nxt n q a b k = q k := fun k hk => by
    unfold nxt rev
    rw [if_neg (by omega), sw_o (by omega) (by omega)]
  have e2 : nxt n q a b a = q b := by
    unfold nxt rev
    rw [if_neg (by omega), sw_a]
  have hdl : ∀ i j, a < i → i ≤ j → j < n → q j ≤ q i := fun i j h3 h4 h5 => by
    have := hd.le (show a + 1 ≤ i by omega) (j - i) (by omega)
    rwa [show i + (j - i) = j from by omega] at this
  have hdl2 : ∀ i j, a < i → i < j → j < n → q j < q i := fun i j h3 h4 h5 => by
    have h6 := hdl i j h3 (by omega) h5
    have h7 : q j ≠ q i := fun e => by have := hq.inj e; omega
    omega
  -- ascending behind a
  have hasc : ∀ k j, a < k → k ≤ j → j < n → nxt n q a b k ≤ nxt n q a b j := by
    intro k j h3 h4 h5
    by_cases z : k = j
    · rw [z]; exact Nat.le_refl _
    · unfold nxt
      have r1 : rev a n k = n + a - k := by unfold rev; rw [if_pos (by omega)]
      have r2 : rev a n j = n + a - j := by unfold rev; rw [if_pos (by omega)]
      rw [r1, r2]
      generalize hx : n + a - k = x
      generalize hy : n + a - j = y
      have hxy : y < x ∧ a < y ∧ x < n := by omega
      unfold sw
      rw [if_neg (show ¬ x = a by omega), if_neg (show ¬ y = a by omega)]
      by_cases x1 : x = b
      · rw [if_pos x1, if_neg (by omega)]
        have := hdl2 y b (by omega) (by omega) hb
        omega
      · rw [if_neg x1]
        by_cases y1 : y = b
        · rw [if_pos y1]
          have := h2 x (by omega) (by omega)
          omega
        · rw [if_neg y1]
          exact hdl y x (by omega) (by omega) (by omega)
  refine ⟨rv_first hn (hq.l8 hn) (show a < n by omega) (by rw [e2]; exact h1) (fun k hk => (e1 k hk).symm), fun p hp => ?_⟩
  rcases first_diff (f := p) (g := q) (n := n) with e | ⟨i, hi, hne, he⟩
  · left; rw [rv_cong e]; exact Nat.le_refl _
  · by_cases hlt : p i < q i
    · left; exact Nat.le_of_lt (rv_first hn (hp.l8 hn) hi hlt he)
    · right
      have hgt : q i < p i := by omega
      by_cases h3 : a < i
      · have := hd.lead hn hp hq (show a + 1 ≤ i by omega) hi he
        omega
      · by_cases h4 : i = a
        · subst h4
          obtain ⟨j, j1, j2, j3⟩ := rem_val hn hp hq hi he
          have hj : j ≠ i := fun z => by rw [z] at j3; omega
          have hjb : j ≤ b := by
            apply Classical.byContradiction
            intro z
            have := h2 j (by omega) j2
            omega
          have hqb := hdl j b (by omega) hjb hb
          by_cases h5 : p i = q b
          · -- compare behind a
            rcases first_diff (f := nxt n q i b) (g := p) (n := n) with e | ⟨x, hx, hne2, he2⟩
            · rw [rv_cong e]; exact Nat.le_refl _
            · have hxi : i < x := by
                apply Classical.byContradiction
                intro z
                by_cases y : x = i
                · exact hne2 (by rw [y, e2, h5])
                · exact hne2 (by rw [e1 x (by omega), he x (by omega)])
              obtain ⟨y, y1, y2, y3⟩ := rem_val hn hp hN hx (fun k hk => (he2 k hk).symm)
              have := hasc x y hxi y1 y2
              exact Nat.le_of_lt (rv_first hn (hN.l8 hn) hx (by omega) he2)
          · refine Nat.le_of_lt (rv_first hn (hN.l8 hn) hi (by rw [e2]; omega) (fun k hk => by rw [e1 k hk, he k hk]))
        · refine Nat.le_of_lt (rv_first hn (hN.l8 hn) hi (by rw [e1 i (by omega)]; exact hgt) (fun k hk => by rw [e1 k (by omega), he k hk]))
/-- turning round the rest -/
theorem turn_eq (F : Nat) {n a : Nat} (hn : n ≤ 8) {r : Nat → Nat} : ∀ (d l h m : Nat) (σ s : zST), h - l = d → d < m → a < l → l ≤ n → l + h = n + a → h < n → (∀ k, k < n → gI s 50 k = nI (if (a < k ∧ k < l) ∨ (h < k ∧ k < n) then r (n + a - k) else r k)) → Fr (fun p _ => p = 50) σ s → ∃ τ, m_X8_nextMap_100 F m 46 (nI l) (nI h) s = some (1, τ) ∧ (∀ k, k < n → gI τ 50 k = nI (r (rev a n k))) ∧ Fr (fun p _ => p = 50) σ τ := by
  intro d
  induction d using Nat.strongRecOn with
  | ind d ih =>
    intro l h m σ s h1 h2 h3 hln h4 h5 h6 h7
    obtain ⟨m, rfl⟩ : ∃ k, m = k + 1 := ⟨m - 1, by omega⟩
    by_cases z : h ≤ l
    · refine ⟨s, ?_, fun k hk => ?_, h7⟩
      · rw [m_X8_nextMap_100]; dsimp only
        rw [if_pos (nI_le z (by omega))]
      · rw [h6 k hk]
        unfold rev
        by_cases q : a < k
        · rw [if_pos (show a < k ∧ k < n from ⟨q, hk⟩)]
          by_cases y : (a < k ∧ k < l) ∨ (h < k ∧ k < n)
          · rw [if_pos y]
          · rw [if_neg y, show n + a - k = k from by omega]
        · rw [if_neg (by omega), if_neg (fun w => q w.1)]
    · obtain ⟨τ, e1, e2, e3⟩ := ih (h - 1 - (l + 1)) (by omega) (l + 1) (h - 1) m σ (sI (sI s 50 l (nI (r h))) 50 h (nI (r l))) rfl (by omega) (by omega) (by omega) (by omega) (by omega) (fun k hk => by
        rw [gI_sI, gI_sI]
        by_cases k1 : k = h
        · rw [if_pos ⟨rfl, k1⟩, k1, if_pos (by omega), show n + a - h = l from by omega]
        · rw [if_neg (fun w => k1 w.2)]
          by_cases k2 : k = l
          · rw [if_pos ⟨rfl, k2⟩, k2, if_pos (by omega), show n + a - l = h from by omega]
          · rw [if_neg (fun w => k2 w.2), h6 k hk]
            by_cases y : (a < k ∧ k < l) ∨ (h < k ∧ k < n)
            · rw [if_pos y, if_pos (by omega)]
            · rw [if_neg y, if_neg (by omega)]) (h7.tr ((Fr.sI (S := fun p _ => p = 50) rfl).tr (Fr.sI rfl)))
      refine ⟨τ, ?_, e2, e3⟩
      have g1 := h6 l (by omega)
      have g2 := h6 h (by omega)
      rw [if_neg (by omega)] at g1 g2
      rw [m_X8_nextMap_100]; dsimp only
      obtain ⟨h', rfl⟩ : ∃ x, h = x + 1 := ⟨h - 1, by omega⟩
      rw [if_neg (nI_ge (show l < h' + 1 by omega) (by omega)), ldI_at (by omega) (by omega), ldI_at (by omega) (by omega), g1, g2, stI_at (by omega) (by omega), stI_at (by omega) (by omega), nI_1, nm_eq, pk_m1, nm_eq]
      rw [Nat.add_sub_cancel] at e1
      exact e1
theorem with_eq (F : Nat) (hF : 8 < F) {n : Nat} (hn : n ≤ 8) {q : Nat → Nat} (hq : IsN n q) {σ : zST} (hM : Mp n q σ) {a : Nat} (ha : a + 1 < n) (hd : Dsc n q (a + 1)) (h1 : q a < q (a + 1)) : ∀ (d b m : Nat), b = a + 1 + d → b < n → d < m → (∀ k, b < k → k < n → q k < q a) → ∃ q' τ, m_X8_nextMap_41 F m 46 (nI n) (nI a) (nI b) σ = some (1, τ) ∧ IsN n q' ∧ Mp n q' τ ∧ rv n q < rv n q' ∧ (∀ p, IsN n p → rv n p ≤ rv n q ∨ rv n q' ≤ rv n p) ∧ Fr (fun p _ => p = 50) σ τ := by
  intro d
  induction d with
  | zero =>
    intro b m hb hbn hm hgt
    obtain ⟨m, rfl⟩ : ∃ k, m = k + 1 := ⟨m - 1, by omega⟩
    have hb : b = a + 1 := by omega
    subst hb
    obtain ⟨c1, c2⟩ := nxt_next hn hq (show a < a + 1 by omega) hbn hd h1 hgt
    have qa := hq.lt hn (show a < n by omega)
    have qb := hq.lt hn hbn
    obtain ⟨τ, e1, e2, e3⟩ := turn_eq F (a := a) hn (r := fun k => q (sw a (a + 1) k)) (n - 1 - (a + 1)) (a + 1) (n - 1) F σ (sI (sI σ 50 a (nI (q (a + 1)))) 50 (a + 1) (nI (q a))) rfl (by omega) (by omega) (by omega) (by omega) (by omega) (fun k hk => by
      rw [if_neg (by omega), gI_sI, gI_sI]
      by_cases k1 : k = a + 1
      · rw [if_pos ⟨rfl, k1⟩, k1, sw_b]
      · rw [if_neg (fun w => k1 w.2)]
        by_cases k2 : k = a
        · rw [if_pos ⟨rfl, k2⟩, k2, sw_a]
        · rw [if_neg (fun w => k2 w.2), sw_o k2 k1, hM k hk]) ((Fr.sI (S := fun p _ => p = 50) rfl).tr (Fr.sI rfl))
    refine ⟨nxt n q a (a + 1), τ, ?_, nxt_N hn hq (by omega) hbn, e2, c1, c2, e3⟩
    rw [m_X8_nextMap_41]; dsimp only
    rw [ldI_at (by omega) (by omega), ldI_at (by omega) (by omega), hM _ hbn, hM a (by omega), if_pos (nI_le (by omega) (by omega)), ldI_at (by omega) (by omega), ldI_at (by omega) (by omega), hM _ hbn, hM a (by omega), stI_at (by omega) (by omega), stI_at (by omega) (by omega), nI_1, nm_eq, l1, b_sub (by omega), nm_eq]
    exact e1
  | succ d ih =>
    intro b m hb hbn hm hgt
    obtain ⟨m, rfl⟩ : ∃ k, m = k + 1 := ⟨m - 1, by omega⟩
    have qa := hq.lt hn (show a < n by omega)
    have qb := hq.lt hn hbn
    by_cases z : q a < q b
    · obtain ⟨c1, c2⟩ := nxt_next hn hq (show a < b by omega) hbn hd z hgt
      obtain ⟨τ, e1, e2, e3⟩ := turn_eq F (a := a) hn (r := fun k => q (sw a b k)) (n - 1 - (a + 1)) (a + 1) (n - 1) F σ (sI (sI σ 50 a (nI (q b))) 50 b (nI (q a))) rfl (by omega) (by omega) (by omega) (by omega) (by omega) (fun k hk => by
        rw [if_neg (by omega), gI_sI, gI_sI]
        by_cases k1 : k = b
        · rw [if_pos ⟨rfl, k1⟩, k1, sw_b]
        · rw [if_neg (fun w => k1 w.2)]
          by_cases k2 : k = a
          · rw [if_pos ⟨rfl, k2⟩, k2, sw_a]
          · rw [if_neg (fun w => k2 w.2), sw_o k2 k1, hM k hk]) ((Fr.sI (S := fun p _ => p = 50) rfl).tr (Fr.sI rfl))
      refine ⟨nxt n q a b, τ, ?_, nxt_N hn hq (by omega) hbn, e2, c1, c2, e3⟩
      rw [m_X8_nextMap_41]; dsimp only
      rw [ldI_at (by omega) (by omega), ldI_at (by omega) (by omega), hM _ hbn, hM a (by omega), if_pos (nI_le (by omega) (by omega)), ldI_at (by omega) (by omega), ldI_at (by omega) (by omega), hM _ hbn, hM a (by omega), stI_at (by omega) (by omega), stI_at (by omega) (by omega), nI_1, nm_eq, l1, b_sub (by omega), nm_eq]
      exact e1
    · have hne : q b ≠ q a := fun e => by have := hq.inj e; omega
      obtain ⟨q', τ, e1, e2⟩ := ih (b - 1) m (by omega) (by omega) (by omega) (fun k hk hkn => by
        by_cases y : k = b
        · rw [y]; omega
        · exact hgt k (by omega) hkn)
      refine ⟨q', τ, ?_, e2⟩
      rw [m_X8_nextMap_41]; dsimp only
      obtain ⟨b', rfl⟩ : ∃ x, b = x + 1 := ⟨b - 1, by omega⟩
      rw [ldI_at (by omega) (by omega), ldI_at (by omega) (by omega), hM _ hbn, hM a (by omega), if_neg (nI_ge (show q (b' + 1) < q a by omega) (by omega)), pk_m1, nm_eq]
      rw [Nat.add_sub_cancel] at e1
      exact e1
theorem nextMap_eq (F : Nat) (hF : 9 < F) {n : Nat} (h1 : 1 ≤ n) (hn : n ≤ 8) {q : Nat → Nat} (hq : IsN n q) {σ : zST} (hM : Mp n q σ) : (∃ q' τ, m_X8_nextMap F 46 (nI n) σ = some (1, τ) ∧ IsN n q' ∧ Mp n q' τ ∧ rv n q < rv n q' ∧ (∀ p, IsN n p → rv n p ≤ rv n q ∨ rv n q' ≤ rv n p) ∧ Fr (fun p _ => p = 50) σ τ) ∨ (m_X8_nextMap F 46 (nI n) σ = some (0, σ) ∧ ∀ p, IsN n p → rv n p ≤ rv n q) := by
  have neg : ∀ m, m_X8_nextMap_4 F (m + 1) 46 (nI n) (-1) σ = some (0, σ) := fun m => by
    rw [m_X8_nextMap_4]; dsimp only
    unfold m_X8_nextMap_31
    rw [if_pos (by decide +kernel), if_neg (by decide +kernel)]
  have loop : ∀ (a m : Nat), a + 1 < n → a + 1 < m → Dsc n q (a + 1) → (∃ q' τ, m_X8_nextMap_4 F m 46 (nI n) (nI a) σ = some (1, τ) ∧ IsN n q' ∧ Mp n q' τ ∧ rv n q < rv n q' ∧ (∀ p, IsN n p → rv n p ≤ rv n q ∨ rv n q' ≤ rv n p) ∧ Fr (fun p _ => p = 50) σ τ) ∨ (m_X8_nextMap_4 F m 46 (nI n) (nI a) σ = some (0, σ) ∧ ∀ p, IsN n p → rv n p ≤ rv n q) := by
    intro a
    induction a with
    | zero =>
      intro m ha hm hd
      obtain ⟨m, rfl⟩ : ∃ k, m = k + 1 := ⟨m - 1, by omega⟩
      have q0 := hq.lt hn (show 0 < n by omega)
      have q1 := hq.lt hn ha
      by_cases z : q 0 < q (0 + 1)
      · left
        obtain ⟨q', τ, e1, e2⟩ := with_eq F (by omega) hn hq hM ha hd z (n - 1 - (0 + 1)) (n - 1) F (by omega) (by omega) (by omega) (fun k h1 h2 => by omega)
        refine ⟨q', τ, ?_, e2⟩
        rw [m_X8_nextMap_4]; dsimp only
        unfold m_X8_nextMap_31
        rw [if_neg (nI_pos (by omega)), ldI_at (by omega) (by omega), nI_1, ldI_at (by omega) (by omega), hM 0 (by omega), hM _ ha, if_pos (nI_le (by omega) (by omega)), if_pos (nI_pos' (by omega)), l1, b_sub (by omega), nm_eq]
        exact e1
      · right
        have hne : q 0 ≠ q (0 + 1) := fun e => by have := hq.inj e; omega
        refine ⟨?_, fun p hp => dsc_last hn hq (fun k hk hk2 => ?_) hp⟩
        · rw [m_X8_nextMap_4]; dsimp only
          obtain ⟨m, rfl⟩ : ∃ k, m = k + 1 := ⟨m - 1, by omega⟩
          rw [if_neg (nI_pos (by omega)), ldI_at (by omega) (by omega), nI_1, ldI_at (by omega) (by omega), hM 0 (by omega), hM _ ha, if_neg (nI_ge (show q (0 + 1) < q 0 by omega) (by omega)), show nI 0 + (-1) = -1 from by decide +kernel, nm_eq]
          exact neg m
        · by_cases y : k = 0
          · rw [y]; omega
          · exact hd k (by omega) hk2
    | succ a ih =>
      intro m ha hm hd
      obtain ⟨m, rfl⟩ : ∃ k, m = k + 1 := ⟨m - 1, by omega⟩
      have q0 := hq.lt hn (show a + 1 < n by omega)
      have q1 := hq.lt hn ha
      by_cases z : q (a + 1) < q (a + 1 + 1)
      · left
        obtain ⟨q', τ, e1, e2⟩ := with_eq F (by omega) hn hq hM ha hd z (n - 1 - (a + 1 + 1)) (n - 1) F (by omega) (by omega) (by omega) (fun k h1 h2 => by omega)
        refine ⟨q', τ, ?_, e2⟩
        rw [m_X8_nextMap_4]; dsimp only
        unfold m_X8_nextMap_31
        rw [if_neg (nI_pos (by omega)), ldI_at (by omega) (by omega), nI_1, ldI_at (by omega) (by omega), hM _ (by omega), hM _ ha, if_pos (nI_le (by omega) (by omega)), if_pos (nI_pos' (by omega)), l1, b_sub (by omega), nm_eq]
        exact e1
      · have hne : q (a + 1) ≠ q (a + 1 + 1) := fun e => by have := hq.inj e; omega
        have step : m_X8_nextMap_4 F (m + 1) 46 (nI n) (nI (a + 1)) σ = m_X8_nextMap_4 F m 46 (nI n) (nI a) σ := by
          rw [m_X8_nextMap_4]; dsimp only
          rw [if_neg (nI_pos (by omega)), ldI_at (by omega) (by omega), nI_1, ldI_at (by omega) (by omega), hM _ (by omega), hM _ ha, if_neg (nI_ge (show q (a + 1 + 1) < q (a + 1) by omega) (by omega)), pk_m1, nm_eq]
        rw [step]
        exact ih m (by omega) (by omega) (fun k hk hk2 => by
          by_cases y : k = a + 1
          · rw [y]; omega
          · exact hd k (by omega) hk2)
  unfold m_X8_nextMap
  by_cases z : n = 1
  · subst z
    right
    obtain ⟨F', rfl⟩ : ∃ k, F = k + 1 := ⟨F - 1, by omega⟩
    refine ⟨?_, fun p hp => dsc_last hn hq (fun k hk hk2 => by omega) hp⟩
    rw [show nI 1 - 2 = -1 from by decide +kernel, nm_eq]
    exact neg F'
  · rw [l2, b_sub (by omega), nm_eq]
    exact loop (n - 2) F (by omega) (by omega) (fun k hk hk2 => by omega)
theorem begins_eq (F : Nat) (hF : 8 < F) {n : Nat} (hn : n ≤ 8) (σ : zST) : ∃ τ, m_X8_beginsMaps F 46 (nI n) σ = some τ ∧ Mp n (fun k => k) τ ∧ Fr (fun p _ => p = 50) σ τ := by
  unfold m_X8_beginsMaps
  refine up_inv0 (fun m (i : Int32) (s : zST) => m_X8_beginsMaps_2 F m 46 (nI n) i s) n
    (fun i s => Mp i (fun k => k) s ∧ Fr (fun p _ => p = 50) σ s)
    (fun o => ∃ τ, o = some τ ∧ Mp n (fun k => k) τ ∧ Fr (fun p _ => p = 50) σ τ) ?_ ?_ (show n < F by omega) (s := σ) ⟨fun k hk => absurd hk (by omega), Fr.rf⟩
  · rintro m i s hi ⟨a1, a2⟩
    refine ⟨sI s 50 i (nI i), ⟨fun k hk => ?_, a2.tr (Fr.sI rfl)⟩, ?_⟩
    · rw [gI_sI]
      by_cases e : k = i
      · rw [if_pos ⟨rfl, e⟩, e]
      · rw [if_neg (fun z => e z.2), a1 k (by omega)]
    · show m_X8_beginsMaps_2 F (m + 1) 46 (nI n) (nI i) s = _
      rw [m_X8_beginsMaps_2]; dsimp only
      rw [if_neg (nI_ge hi (by omega)), stI_at (by omega) (by omega), nm_eq, nI_1]
  · rintro m s ⟨a1, a2⟩
    refine ⟨s, ?_, a1, a2⟩
    show m_X8_beginsMaps_2 F (m + 1) 46 (nI n) (nI n) s = _
    rw [m_X8_beginsMaps_2]; dsimp only
    rw [if_pos (nI_le (Nat.le_refl _) (by omega))]
/-- the identity comes first -/
theorem id_first {n : Nat} (hn : n ≤ 8) {p : Nat → Nat} (hp : IsN n p) : rv n (fun k => k) ≤ rv n p := by
  rcases first_diff (f := fun k => k) (g := p) (n := n) with e | ⟨i, hi, hne, he⟩
  · rw [rv_cong e]; exact Nat.le_refl _
  · have : i ≤ p i := by
      obtain ⟨j, h1, h2, h3⟩ := rem_val hn hp (IsN.id n) hi (fun k hk => (he k hk).symm)
      have h3 : p i = j := h3
      omega
    have hne : i ≠ p i := hne
    exact Nat.le_of_lt (rv_first hn (fun k hk => by show k < 8; omega) hi (show i < p i by omega) he)
end
