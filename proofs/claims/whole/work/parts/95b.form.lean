/-! MATHEMATICS, 54: the reference's codes and forms -/
section
theorem pb_ref : ∀ b, b < 8 → ∀ a, a < b → (27 - ((nI a * (15 - nI a)) / 2)) - ((nI b - nI a) - 1) = nI (pb a b) := by decide +kernel
def prb (a b : Nat) : Nat := if a < b then pb a b else pb b a
theorem bitOf_eq (F : Nat) {a b : Nat} (ha : a < 8) (hb : b < 8) (hne : a ≠ b) (σ : zST) : m_X8_bitOf F (nI a) (nI b) σ = some (nI (prb a b), σ) := by
  unfold m_X8_bitOf m_X8_bitOf_10 m_X8_bitOf_21 prb
  by_cases h : a < b
  · rw [if_neg (nI_ge h (by omega)), if_neg (nI_ge h (by omega)), if_pos h, pb_ref b hb a h]
  · rw [if_pos (nI_le (by omega) (by omega)), if_pos (nI_le (by omega) (by omega)), if_neg h, pb_ref a ha b (by omega)]
/-- the pairs gone through so far -/
def edE (n : Nat) (M q : Nat → Nat) (i j b : Nat) : Prop := ∃ v u, u < v ∧ v < n ∧ (v < i ∨ (v = i ∧ u < j)) ∧ (M v).testBit u = true ∧ b = prb (q v) (q u)
theorem edE_end {n : Nat} (hn : n ≤ 8) {M C q : Nat → Nat} (hG : Gr n M C) (hq : IsN n q) (b : Nat) : edE n M q n 0 b ↔ (ec n M (iv q)).testBit b = true := by
  rw [ec_bit]
  constructor
  · rintro ⟨v, u, h1, h2, _, h4, h5⟩
    have qv := hq.lt hn h2
    have qu := hq.lt hn (show u < n by omega)
    have hne : q v ≠ q u := fun e => by have := hq.inj e; omega
    unfold prb at h5
    by_cases z : q v < q u
    · rw [if_pos z] at h5
      obtain ⟨a1, a2, a3⟩ := pb_ok (q u) (by omega) (q v) z
      rw [h5, a2, a3, iv_l hq.1, iv_l hq.1]
      exact ⟨a1, qu, h4⟩
    · rw [if_neg z] at h5
      obtain ⟨a1, a2, a3⟩ := pb_ok (q v) (by omega) (q u) (by omega)
      rw [h5, a2, a3, iv_l hq.1, iv_l hq.1]
      exact ⟨a1, qv, by rw [hG.sy (by omega) (by omega)]; exact h4⟩
  · rintro ⟨h1, h2, h3⟩
    obtain ⟨a1, a2, a3⟩ := pb_in b h1
    have hx := hq.iv.lt hn (show PI b < n by omega)
    have hy := hq.iv.lt hn h2
    have ex := iv_r hq.1 (y := PI b)
    have ey := iv_r hq.1 (y := PJ b)
    generalize iv q (PI b) = x at *
    generalize iv q (PJ b) = y at *
    have hne : x ≠ y := fun e => by rw [e, ey] at ex; omega
    by_cases z : x < y
    · refine ⟨y, x, z, hy, Or.inl hy, by rw [hG.sy (by omega) (by omega)]; exact h3, ?_⟩
      unfold prb
      rw [ex, ey, if_neg (by omega), a3]
    · refine ⟨x, y, by omega, hx, Or.inl hx, h3, ?_⟩
      unfold prb
      rw [ex, ey, if_pos a1, a3]
theorem edE_28 {n : Nat} (hn : n ≤ 8) {M q : Nat → Nat} (hq : IsN n q) {i j b : Nat} (h : edE n M q i j b) : b < 28 := by
  obtain ⟨v, u, h1, h2, _, h4, h5⟩ := h
  have qv := hq.lt hn h2
  have qu := hq.lt hn (show u < n by omega)
  have hne : q v ≠ q u := fun e => by have := hq.inj e; omega
  rw [h5]
  unfold prb
  split
  · exact (pb_ok (q u) (by omega) (q v) (by omega)).1
  · exact (pb_ok (q v) (by omega) (q u) (by omega)).1
theorem codeOf_eq (F : Nat) (hF : 8 < F) {k n : Nat} (hk : k < 4) {M C q : Nat → Nat} {σ : zST} (hG : Gr n M C) (hR : RAt k n M C σ) (hq : IsN n q) (hM : Mp n q σ) : m_X8_codeOf F 46 (nI k) σ = some (lN (2 ^ 52 * n + cod n M C (iv q)), σ) := by
  have h8 := hG.1.2
  have hC : ∀ i, i < n → (fun i => C (iv q i)) i < 8 := fun i hi => (hG.2 (iv q i) (by have := hq.iv.lt h8 hi; omega)).1
  have inner : ∀ (k8 : Nat → Int32 → Int64 → Int64 → Int32 → zST → Option (Int64 × zST)) (its : Int64) (i : Nat), i < n → ∀ (d j m E : Nat), j + d = i → d < m → (∀ b, E.testBit b = true ↔ edE n M q i j b) → ∃ E', (∀ b, E'.testBit b = true ↔ edE n M q (i + 1) 0 b) ∧ m_X8_codeOf_53 F k8 m 46 (nI k) (lN E) its (nI i) (nI j) σ = k8 46 (nI k) (lN E') its (nI (i + 1)) σ := by
    intro k8 its i hi d
    induction d with
    | zero =>
      intro j m E h1 h2 h3
      obtain ⟨m, rfl⟩ : ∃ k, m = k + 1 := ⟨m - 1, by omega⟩
      have : j = i := by omega
      subst this
      refine ⟨E, fun b => ?_, ?_⟩
      · rw [h3]
        constructor
        · rintro ⟨v, u, q1, q2, q3, q4⟩; exact ⟨v, u, q1, q2, by omega, q4⟩
        · rintro ⟨v, u, q1, q2, q3, q4⟩; exact ⟨v, u, q1, q2, by omega, q4⟩
      · rw [m_X8_codeOf_53]; dsimp only
        rw [if_pos (nI_le (Nat.le_refl _) (by omega)), nm_eq, nI_1]
    | succ d ih =>
      intro j m E h1 h2 h3
      obtain ⟨m, rfl⟩ : ∃ k, m = k + 1 := ⟨m - 1, by omega⟩
      have hMi := hG.lt (show i < 8 by omega)
      cases e : (M i).testBit j
      · obtain ⟨E', g1, g2⟩ := ih (j + 1) m E (by omega) (by omega) (fun b => by
          rw [h3]
          constructor
          · rintro ⟨v, u, q1, q2, q3, q4⟩; exact ⟨v, u, q1, q2, by omega, q4⟩
          · rintro ⟨v, u, q1, q2, q3, q4, q5⟩
            refine ⟨v, u, q1, q2, ?_, q4, q5⟩
            rcases q3 with q3 | ⟨q3, q6⟩
            · exact Or.inl q3
            · have : u ≠ j := fun z => by rw [z, q3, e] at q4; exact absurd q4 (by decide)
              exact Or.inr ⟨q3, by omega⟩)
        refine ⟨E', g1, ?_⟩
        rw [m_X8_codeOf_53]; dsimp only
        unfold m_X8_codeOf_96
        rw [if_neg (nI_ge (show j < i by omega) (by omega)), hasE_ref F hk (by omega) (by omega) (hR.2 i (by omega)).1 (by omega), bd_some, e, if_pos (by decide +kernel), show (0 : Int64) = lN 0 from rfl, L_or, Nat.or_zero, nm_eq, nm_eq, nI_1]
        exact g2
      · have qi := hq.lt h8 hi
        have qj := hq.lt h8 (show j < n by omega)
        have hne : q i ≠ q j := fun z => by have := hq.inj z; omega
        obtain ⟨E', g1, g2⟩ := ih (j + 1) m (E ||| 2 ^ prb (q i) (q j)) (by omega) (by omega) (fun b => by
          rw [Nat.testBit_or, Bool.or_eq_true, h3, Nat.testBit_two_pow, decide_eq_true_iff]
          constructor
          · rintro (⟨v, u, q1, q2, q3, q4⟩ | z)
            · exact ⟨v, u, q1, q2, by omega, q4⟩
            · exact ⟨i, j, by omega, hi, Or.inr ⟨rfl, by omega⟩, e, z.symm⟩
          · rintro ⟨v, u, q1, q2, q3, q4, q5⟩
            by_cases y : v = i ∧ u = j
            · right; rw [q5, y.1, y.2]
            · exact Or.inl ⟨v, u, q1, q2, by omega, q4, q5⟩)
        refine ⟨E', g1, ?_⟩
        have hb : prb (q i) (q j) < 28 := edE_28 h8 hq (i := i) (j := j + 1) ⟨i, j, by omega, hi, Or.inr ⟨rfl, by omega⟩, e, rfl⟩
        rw [m_X8_codeOf_53]; dsimp only
        unfold m_X8_codeOf_96
        rw [if_neg (nI_ge (show j < i by omega) (by omega)), hasE_ref F hk (by omega) (by omega) (hR.2 i (by omega)).1 (by omega), bd_some, e, if_neg (by decide +kernel), ldI_at (by omega) (by omega), ldI_at (by omega) (by omega), hM i hi, hM j (by omega), bitOf_eq F (by omega) (by omega) hne, bd_some, show (1 : Int64) = lN 1 from rfl, L_shl _ (by omega), Nat.one_mul, L_or, nm_eq, nm_eq, nI_1]
        exact g2
  have outer : ∀ (d i m E : Nat), i + d = n → d < m → (∀ b, E.testBit b = true ↔ edE n M q i 0 b) → m_X8_codeOf_8 F m 46 (nI k) (lN E) (lN (dgT n (iv q) (fun i => C (iv q i)) i)) (nI i) σ = some (lN (2 ^ 52 * n + cod n M C (iv q)), σ) := by
    intro d
    induction d with
    | zero =>
      intro i m E h1 h2 h3
      obtain ⟨m, rfl⟩ : ∃ k, m = k + 1 := ⟨m - 1, by omega⟩
      have : i = n := by omega
      subst this
      have he : E = ec i M (iv q) := by
        apply Nat.eq_of_testBit_eq
        intro b
        rw [Bool.eq_iff_iff, h3, edE_end h8 hG hq]
      have he2 : ec i M (iv q) < 2 ^ 28 := eb_lt _ _
      rw [m_X8_codeOf_8]; dsimp only
      rw [ldI_at hk (by omega), hR.1, if_pos (nI_le (Nat.le_refl _) (by omega)), ldI_at hk (by omega), hR.1, nI_l (by omega), show (52 : Int32) = nI 52 from rfl, l28, L_shl _ (by omega), L_shl _ (by omega), L_or, L_or, he, dgT_n h8 hq.iv, pk5_of (rv_lt24 hC) he2]
      exact congrArg (fun x => some (lN x, σ)) (pk5_cod i M C (iv q))
    | succ d ih =>
      intro i m E h1 h2 h3
      obtain ⟨m, rfl⟩ : ∃ k, m = k + 1 := ⟨m - 1, by omega⟩
      have hi : i < n := by omega
      have qi := hq.lt h8 hi
      have hci := (hG.2 i (by omega)).1
      obtain ⟨E', g1, g2⟩ := inner (m_X8_codeOf_8 F m) (lN (dgT n (iv q) (fun i => C (iv q i)) (i + 1))) i hi i 0 F E (by omega) (by omega) h3
      have e1 := dgT_s h8 hq.iv (f := fun i => C (iv q i)) hC hi
      rw [iv_iv hq.1] at e1
      have e1 : dgT n (iv q) (fun i => C (iv q i)) i ||| C (iv q (q i)) * 2 ^ (3 * (7 - q i)) = dgT n (iv q) (fun i => C (iv q i)) (i + 1) := e1
      rw [iv_l hq.1] at e1
      rw [m_X8_codeOf_8]; dsimp only
      rw [ldI_at hk (by omega), hR.1, if_neg (nI_ge hi (by omega)), l8, pk_mul, nI_add, ldI_at (by omega) (by omega), (hR.2 i (by omega)).2, ldI_at (by omega) (by omega), hM i hi, l7, b_sub (by omega), l3, pk_mul, nI_l (by omega), L_shl _ (by omega), L_or, e1, nm_eq, l0, g2]
      exact ih (i + 1) m E' (by omega) (by omega) g1
  unfold m_X8_codeOf
  have := outer n 0 F 0 (by omega) (by omega) (fun b => by
    rw [Nat.zero_testBit]
    constructor
    · intro z; exact absurd z (by decide)
    · rintro ⟨v, u, q1, q2, q3, _⟩; omega)
  rw [dgT_0] at this
  exact this
/-- the least code so far, and the first map that has it -/
def cdq (n : Nat) (M C q : Nat → Nat) : Nat := 2 ^ 52 * n + cod n M C (iv q)
def Best (n : Nat) (M C : Nat → Nat) (Q : (Nat → Nat) → Prop) (c : Nat) (σ : zST) : Prop := ((∀ p, IsN n p → ¬ Q p) ∧ c = 9223372036854775807) ∨ ∃ b, IsN n b ∧ Q b ∧ c = cdq n M C b ∧ (∀ p, IsN n p → Q p → cdq n M C b ≤ cdq n M C p ∧ (cdq n M C p = cdq n M C b → rv n b ≤ rv n p)) ∧ ∀ k, k < n → gI σ 52 k = nI (b k)
theorem best_bst {n : Nat} {M C b : Nat → Nat} (hb : IsN n b) (h : ∀ p, IsN n p → cdq n M C b ≤ cdq n M C p ∧ (cdq n M C p = cdq n M C b → rv n b ≤ rv n p)) : Bst n M C (iv b) := by
  have hopt : Opt n M C (iv b) := ⟨hb.iv, fun w hw => by
    have := (h (iv w) hw.iv).1
    unfold cdq at this
    rw [iv_iv hw.1] at this
    omega⟩
  refine ⟨hopt, fun w hw => ?_⟩
  rw [iv_iv hb.1]
  refine (h (iv w) hw.1.iv).2 ?_
  unfold cdq
  rw [iv_iv hw.1.1, hw.same hopt]
theorem copy_best (F : Nat) {k n : Nat} (hk : k < 4) (hn : n ≤ 8) {M C q : Nat → Nat} {s : zST} (hR : RAt k n M C s) (hM : Mp n q s) (k17 : Nat → Int32 → Int64 → Int32 → zST → Option (Int64 × zST)) (x : Int64) (hF : 8 < F) : ∃ s', m_X8_formOf_42 F k17 F 46 (nI k) x 0 s = m_X8_formOf_73 F k17 46 (nI k) x s' ∧ (∀ j, j < n → gI s' 52 j = nI (q j)) ∧ Fr (fun p _ => p = 52) s s' := by
  refine up_inv0 (fun m (i : Int32) (t : zST) => m_X8_formOf_42 F k17 m 46 (nI k) x i t) n
    (fun i t => (∀ j, j < i → gI t 52 j = nI (q j)) ∧ Fr (fun p _ => p = 52) s t)
    (fun o => ∃ s', o = m_X8_formOf_73 F k17 46 (nI k) x s' ∧ (∀ j, j < n → gI s' 52 j = nI (q j)) ∧ Fr (fun p _ => p = 52) s s') ?_ ?_ (show n < F by omega) (s := s) ⟨fun j hj => absurd hj (by omega), Fr.rf⟩
  · rintro m i t hi ⟨a1, a2⟩
    refine ⟨sI t 52 i (nI (q i)), ⟨fun j hj => ?_, a2.tr (Fr.sI rfl)⟩, ?_⟩
    · rw [gI_sI]
      by_cases e : j = i
      · rw [if_pos ⟨rfl, e⟩, e]
      · rw [if_neg (fun z => e z.2), a1 j (by omega)]
    · show m_X8_formOf_42 F k17 (m + 1) 46 (nI k) x (nI i) t = _
      rw [m_X8_formOf_42]; dsimp only
      rw [ldI_at hk (by omega), (a2 47 k (by omega)).1, hR.1, if_neg (nI_ge hi (by omega)), ldI_at (by omega) (by omega), (a2 50 i (by omega)).1, hM i hi, stI_at (by omega) (by omega), nm_eq, nI_1]
  · rintro m t ⟨a1, a2⟩
    refine ⟨t, ?_, a1, a2⟩
    show m_X8_formOf_42 F k17 (m + 1) 46 (nI k) x (nI n) t = _
    rw [m_X8_formOf_42]; dsimp only
    rw [ldI_at hk (by omega), (a2 47 k (by omega)).1, hR.1, if_pos (nI_le (Nat.le_refl _) (by omega))]
theorem formOf_eq (F : Nat) (hF : 16777300 < F) {k n : Nat} (hk : k < 4) {M C : Nat → Nat} {σ : zST} (hG : Gr n M C) (hR : RAt k n M C σ) : ∃ τ b, m_X8_formOf F 46 (nI k) σ = some (lN (cdq n M C b), τ) ∧ IsN n b ∧ Bst n M C (iv b) ∧ (∀ j, j < n → gI τ 52 j = nI (b j)) ∧ Fr (fun p _ => p = 50 ∨ p = 52) σ τ := by
  have h8 := hG.1.2
  have hcl : ∀ q, IsN n q → cdq n M C q < 2 ^ 62 := fun q hq => by
    have h1 : cw n C (iv q) < 2 ^ 24 := rv_lt24 (fun i hi => (hG.2 (iv q i) (by have := hq.iv.lt h8 hi; omega)).1)
    have h2 : ec n M (iv q) < 2 ^ 28 := eb_lt _ _
    unfold cdq cod
    omega
  -- the end
  have fin : ∀ m c s, Best n M C (fun _ => True) c s → Fr (fun p _ => p = 50 ∨ p = 52) σ s → ∃ τ b, m_X8_formOf_17 F (m + 1) 46 (nI k) (lN c) 0 s = some (lN (cdq n M C b), τ) ∧ IsN n b ∧ Bst n M C (iv b) ∧ (∀ j, j < n → gI τ 52 j = nI (b j)) ∧ Fr (fun p _ => p = 50 ∨ p = 52) σ τ := by
    intro m c s hB hf
    rcases hB with ⟨a, _⟩ | ⟨b, b1, _, b3, b4, b5⟩
    · exact absurd trivial (a _ (IsN.id n))
    · refine ⟨s, b, ?_, b1, best_bst b1 (fun p hp => b4 p hp trivial), b5, hf⟩
      rw [m_X8_formOf_17]; dsimp only
      rw [if_pos rfl, b3]
  -- behind one map
  have next : ∀ (k17 : Nat → Int32 → Int64 → Int32 → zST → Option (Int64 × zST)) (q : Nat → Nat) (c : Nat) (s : zST), IsN n q → Mp n q s → Best n M C (fun p => rv n p ≤ rv n q) c s → Fr (fun p _ => p = 50 ∨ p = 52) σ s → (∃ q' s', m_X8_formOf_73 F k17 46 (nI k) (lN c) s = k17 46 (nI k) (lN c) 1 s' ∧ IsN n q' ∧ Mp n q' s' ∧ rv n q < rv n q' ∧ Best n M C (fun p => rv n p < rv n q') c s' ∧ Fr (fun p _ => p = 50 ∨ p = 52) σ s') ∨ (m_X8_formOf_73 F k17 46 (nI k) (lN c) s = k17 46 (nI k) (lN c) 0 s ∧ Best n M C (fun _ => True) c s) := by
    intro k17 q c s hq hM hB hf
    have hRs := hR.mv hf (fun q j _ _ => by omega)
    unfold m_X8_formOf_73
    rw [ldI_at hk (by omega), hRs.1]
    rcases nextMap_eq F (by omega) hG.1.1 h8 hq hM with ⟨q', s', e1, e2, e3, e4, e5, e6⟩ | ⟨e1, e2⟩
    · left
      refine ⟨q', s', by rw [e1, bd_some], e2, e3, e4, ?_, hf.tr (e6.mono (fun _ _ z => Or.inl z))⟩
      have hiff : ∀ p, IsN n p → (rv n p ≤ rv n q ↔ rv n p < rv n q') := fun p hp => by
        have := e5 p hp
        omega
      rcases hB with ⟨a, b⟩ | ⟨b, b1, b2, b3, b4, b5⟩
      · exact Or.inl ⟨fun p hp z => a p hp ((hiff p hp).mpr z), b⟩
      · exact Or.inr ⟨b, b1, (hiff b b1).mp b2, b3, fun p hp z => b4 p hp ((hiff p hp).mpr z), fun j hj => by rw [(e6 52 j (by omega)).1, b5 j hj]⟩
    · right
      refine ⟨by rw [e1, bd_some], ?_⟩
      rcases hB with ⟨a, b⟩ | ⟨b, b1, b2, b3, b4, b5⟩
      · exact absurd (Nat.le_refl _) (a q hq)
      · exact Or.inr ⟨b, b1, trivial, b3, fun p hp _ => b4 p hp (e2 p hp), b5⟩
  have loop : ∀ (d m : Nat) (q : Nat → Nat) (c : Nat) (s : zST), 16777216 - rv n q ≤ d → d + 1 < m → IsN n q → Mp n q s → Best n M C (fun p => rv n p < rv n q) c s → Fr (fun p _ => p = 50 ∨ p = 52) σ s → ∃ τ b, m_X8_formOf_17 F m 46 (nI k) (lN c) 1 s = some (lN (cdq n M C b), τ) ∧ IsN n b ∧ Bst n M C (iv b) ∧ (∀ j, j < n → gI τ 52 j = nI (b j)) ∧ Fr (fun p _ => p = 50 ∨ p = 52) σ τ := by
    intro d
    induction d with
    | zero =>
      intro m q c s h1 h2 hq _ _ _
      have := rv_lt24 (hq.l8 h8)
      omega
    | succ d ih =>
      intro m q c s h1 h2 hq hM hB hf
      obtain ⟨m, rfl⟩ : ∃ k, m = k + 1 := ⟨m - 1, by omega⟩
      have hr := rv_lt24 (hq.l8 h8)
      have hRs := hR.mv hf (fun q j _ _ => by omega)
      have hcq := hcl q hq
      have hcode := codeOf_eq F (by omega) hk hG hRs hq hM
      have hc : c < 2 ^ 63 := by
        rcases hB with ⟨_, b⟩ | ⟨b, b1, _, b3, _⟩
        · rw [b]; omega
        · rw [b3]; have := hcl b b1; omega
      have hmem : ∀ p, IsN n p → rv n p ≤ rv n q → rv n p < rv n q ∨ p = q := fun p hp z => by
        by_cases y : rv n p = rv n q
        · exact Or.inr (val_inj h8 hp hq y)
        · left; omega
      have go : ∀ c s', Best n M C (fun p => rv n p ≤ rv n q) c s' → Mp n q s' → Fr (fun p _ => p = 50 ∨ p = 52) σ s' → ∃ τ b, m_X8_formOf_73 F (m_X8_formOf_17 F m) 46 (nI k) (lN c) s' = some (lN (cdq n M C b), τ) ∧ IsN n b ∧ Bst n M C (iv b) ∧ (∀ j, j < n → gI τ 52 j = nI (b j)) ∧ Fr (fun p _ => p = 50 ∨ p = 52) σ τ := by
        intro c s' hB' hM' hf'
        rcases next (m_X8_formOf_17 F m) q c s' hq hM' hB' hf' with ⟨q', s2, e1, e2, e3, e4, e5, e6⟩ | ⟨e1, e2⟩
        · rw [e1]
          exact ih m q' c s2 (by omega) (by omega) e2 e3 e5 e6
        · rw [e1]
          obtain ⟨m', rfl⟩ : ∃ k, m = k + 1 := ⟨m - 1, by omega⟩
          exact fin m' c s' e2 hf'
      rw [m_X8_formOf_17]; dsimp only
      rw [if_neg n10, hcode, bd_some]
      have hcmp := cmp_ge (a := cdq n M C q) (b := c) (by omega) hc
      by_cases z : c ≤ cdq n M C q
      · rw [if_pos (show 0 ≤ lg_cmp (lN (2 ^ 52 * n + cod n M C (iv q))) (lN c) from hcmp.mpr z)]
        refine go c s ?_ hM hf
        rcases hB with ⟨a, b⟩ | ⟨b, b1, b2, b3, b4, b5⟩
        · omega
        · refine Or.inr ⟨b, b1, by omega, b3, fun p hp y => ?_, b5⟩
          rcases hmem p hp y with y | y
          · exact b4 p hp y
          · rw [y]
            exact ⟨by omega, fun _ => by omega⟩
      · rw [if_neg (show ¬ 0 ≤ lg_cmp (lN (2 ^ 52 * n + cod n M C (iv q))) (lN c) from fun y => z (hcmp.mp y))]
        obtain ⟨s', e1, e2, e3⟩ := copy_best F hk h8 hRs hM (m_X8_formOf_17 F m) (lN (2 ^ 52 * n + cod n M C (iv q))) (by omega)
        rw [e1]
        refine go (cdq n M C q) s' (Or.inr ⟨q, hq, Nat.le_refl _, rfl, fun p hp y => ?_, e2⟩) (fun j hj => by rw [(e3 50 j (by omega)).1, hM j hj]) (hf.tr (e3.mono (fun _ _ y => Or.inr y)))
        rcases hmem p hp y with y | y
        · rcases hB with ⟨a, b⟩ | ⟨b, b1, b2, b3, b4, b5⟩
          · exact absurd y (a p hp)
          · have := (b4 p hp y).1
            constructor <;> omega
        · rw [y]; exact ⟨Nat.le_refl _, fun _ => Nat.le_refl _⟩
  obtain ⟨s1, e1, e2, e3⟩ := begins_eq F (by omega) h8 σ
  unfold m_X8_formOf
  rw [ldI_at hk (by omega), hR.1, e1, bv_some]
  exact loop 16777216 F (fun k => k) 9223372036854775807 s1 (by omega) (by omega) (IsN.id n) e2 (Or.inl ⟨fun p hp z => by have := id_first h8 hp; omega, rfl⟩) (e3.mono (fun _ _ z => Or.inl z))
end
