/-! MATHEMATICS, 48: the class finds twins -/
section
/-- the graph lies at place p; what stands behind its vertices is free -/
def AN (p n : Nat) (M C : Nat → Nat) (σ : zST) : Prop := gI σ p 0 = nI n ∧ ∀ v, v < n → gI σ (p + 1) v = nI (M v) ∧ gI σ (p + 2) v = nI (C v)
theorem At.an {p n : Nat} {M C : Nat → Nat} {σ : zST} (h : At p n M C σ) (hn : n ≤ 8) : AN p n M C σ := ⟨h.1, fun v hv => h.2 v (by omega)⟩
theorem AN.mv {p n : Nat} {M C : Nat → Nat} {σ τ : zST} (h : AN p n M C σ) {S : Nat → Nat → Prop} (hf : Fr S σ τ) (h0 : ∀ q j, p ≤ q → q ≤ p + 2 → ¬ S q j) : AN p n M C τ := ⟨by
  rw [(hf p 0 (h0 p 0 (by omega) (by omega))).1, h.1], fun v hv => ⟨by
  rw [(hf (p + 1) v (h0 _ _ (by omega) (by omega))).1, (h.2 v hv).1], by
  rw [(hf (p + 2) v (h0 _ _ (by omega) (by omega))).1, (h.2 v hv).2]⟩⟩
noncomputable def twm (n : Nat) (M C : Nat → Nat) (v : Nat) : Nat := msk (fun o => dc (Twn M C v o)) n
theorem twm_lt {n : Nat} (hn : n ≤ 8) (M C : Nat → Nat) (v : Nat) : twm n M C v < 256 := Nat.lt_of_lt_of_le (msk_lt _ n) (pow8 hn)
theorem twm_bit (n : Nat) (M C : Nat → Nat) (v y : Nat) : (twm n M C v).testBit y = true ↔ y < n ∧ Twn M C v y := by
  unfold twm
  rw [msk_bit, Bool.and_eq_true, decide_eq_true_iff, dc_iff]
theorem or_both {a b u v : Nat} : a ||| (2 ^ u ||| 2 ^ v) = b ||| (2 ^ u ||| 2 ^ v) ↔ ∀ x, x ≠ u → x ≠ v → a.testBit x = b.testBit x := by
  constructor
  · intro h x h1 h2
    have := congrArg (fun z => z.testBit x) h
    simp only [Nat.testBit_or, Nat.testBit_two_pow] at this
    rw [decide_eq_false (fun e => h1 e.symm), decide_eq_false (fun e => h2 e.symm)] at this
    simpa using this
  · intro h
    apply Nat.eq_of_testBit_eq
    intro x
    simp only [Nat.testBit_or, Nat.testBit_two_pow]
    by_cases h1 : u = x
    · rw [decide_eq_true h1]; simp
    · by_cases h2 : v = x
      · rw [decide_eq_true h2]; simp
      · rw [h x (fun e => h1 e.symm) (fun e => h2 e.symm)]
theorem areTwins_eq (F : Nat) {p n : Nat} {M C : Nat → Nat} {σ : zST} (hG : Gr n M C) (hA : AN p n M C σ) {u v : Nat} (hun : u < n) (hvn : v < n) : m_X2_areTwins F p (nI u) (nI v) σ = some (bI (dc (Twn M C u v)), σ) := by
  have h8 := hG.1.2
  have hu : u < 8 := by omega
  have hv : v < 8 := by omega
  unfold m_X2_areTwins m_X2_areTwins_46
  have cu := (hG.2 u hu).1
  have cv := (hG.2 v hv).1
  have mu := hG.lt hu
  have mv := hG.lt hv
  have pu : 2 ^ u < 256 := Nat.pow_lt_pow_right (n := 8) (by omega) hu
  have pv : 2 ^ v < 256 := Nat.pow_lt_pow_right (n := 8) (by omega) hv
  have pp := or_lt pu pv
  have a1 := or_lt mu pp
  have a2 := or_lt mv pp
  rw [shl1 (by omega), shl1 (by omega), b_or, nm_eq, ldI_at hu (by omega), ldI_at hv (by omega), (hA.2 u hun).2, (hA.2 v hvn).2]
  by_cases e1 : C u = C v
  · rw [if_pos (by rw [e1]), ldI_at hu (by omega), ldI_at hv (by omega), (hA.2 u hun).1, (hA.2 v hvn).1, b_or, b_or]
    by_cases e2 : M u ||| (2 ^ u ||| 2 ^ v) = M v ||| (2 ^ u ||| 2 ^ v)
    · rw [if_pos (by rw [e2]), dc_yes ⟨e1, or_both.mp e2⟩]; rfl
    · rw [if_neg (fun z => e2 ((nI_eq (by omega) (by omega)).mp z)), dc_no (fun z => e2 (or_both.mpr z.2))]; rfl
  · rw [if_neg (fun z => e1 ((nI_eq (by omega) (by omega)).mp z)), dc_no (fun z => e1 z.1)]; rfl
theorem findTwins_eq (F : Nat) (hF : 8 < F) {r p n : Nat} (hp : p + 2 < r) {M C : Nat → Nat} {σ : zST} (hG : Gr n M C) (hA : AN p n M C σ) : ∃ τ, m_X0_findTwins F r p σ = some τ ∧ (∀ v, v < n → gI τ (r + 1) v = nI (twm n M C v)) ∧ Fr (fun q _ => q = r + 1) σ τ := by
  have h8 := hG.1.2
  unfold m_X0_findTwins
  refine up_inv0 (fun m (i : Int32) (s : zST) => m_X0_findTwins_2 F m r p i s) n
    (fun i s => (∀ v, v < i → gI s (r + 1) v = nI (twm n M C v)) ∧ Fr (fun q _ => q = r + 1) σ s)
    (fun o => ∃ τ, o = some τ ∧ (∀ v, v < n → gI τ (r + 1) v = nI (twm n M C v)) ∧ Fr (fun q _ => q = r + 1) σ τ) ?_ ?_ (show n < F by omega) (s := σ) ⟨fun v hv => absurd hv (by omega), Fr.rf⟩
  · rintro m i s hi ⟨h1, h2⟩
    have inner : ∀ (k2 : Nat → Nat → Int32 → zST → Option zST), ∃ s', ((∀ v, v < i + 1 → gI s' (r + 1) v = nI (twm n M C v)) ∧ Fr (fun q _ => q = r + 1) σ s') ∧ m_X0_findTwins_19 F k2 F r p (nI i) 0 (sI s (r + 1) i 0) = k2 r p (nI (i + 1)) s' := by
      intro k2
      refine up_inv0 (fun m (j : Int32) (s : zST) => m_X0_findTwins_19 F k2 m r p (nI i) j s) n
        (fun j s => (∀ v, v < i → gI s (r + 1) v = nI (twm n M C v)) ∧ gI s (r + 1) i = nI (msk (fun o => dc (Twn M C i o)) j) ∧ Fr (fun q _ => q = r + 1) σ s)
        (fun o => ∃ s', ((∀ v, v < i + 1 → gI s' (r + 1) v = nI (twm n M C v)) ∧ Fr (fun q _ => q = r + 1) σ s') ∧ o = k2 r p (nI (i + 1)) s') ?_ ?_ (show n < F by omega) (s := sI s (r + 1) i 0) ⟨fun v hv => by rw [gI_sI, if_neg (by omega), h1 v hv], by rw [gI_same]; rfl, h2.tr (Fr.sI rfl)⟩
      · rintro m j s hj ⟨a1, a2, a3⟩
        have hAs := hA.mv a3 (fun q j _ _ => by omega)
        cases e : dc (Twn M C i j)
        · refine ⟨s, ⟨a1, ?_, a3⟩, ?_⟩
          · rw [a2, msk, if_neg (by rw [e]; decide)]
          · show m_X0_findTwins_19 F k2 (m + 1) r p (nI i) (nI j) s = _
            rw [m_X0_findTwins_19]; dsimp only
            unfold m_X0_findTwins_48
            rw [hAs.1, if_neg (nI_ge hj (by omega)), areTwins_eq F hG hAs (by omega) (by omega), bd_some, e, if_pos (by decide +kernel), nm_eq, nI_1]
        · refine ⟨sI s (r + 1) i (nI (msk (fun o => dc (Twn M C i o)) (j + 1))), ⟨fun v hv => by rw [gI_sI, if_neg (by omega), a1 v hv], gI_same _ _ _ _, a3.tr (Fr.sI rfl)⟩, ?_⟩
          show m_X0_findTwins_19 F k2 (m + 1) r p (nI i) (nI j) s = _
          rw [m_X0_findTwins_19]; dsimp only
          unfold m_X0_findTwins_48
          rw [hAs.1, if_neg (nI_ge hj (by omega)), areTwins_eq F hG hAs (by omega) (by omega), bd_some, e, if_neg (by decide +kernel), ldI_at (by omega) (by omega), a2, shl1 (by omega), b_or, stI_at (by omega) (by omega), nm_eq, nI_1]
          have : msk (fun o => dc (Twn M C i o)) (j + 1) = msk (fun o => dc (Twn M C i o)) j ||| 2 ^ j := by rw [msk, if_pos e]
          rw [this]
      · rintro m s ⟨a1, a2, a3⟩
        have hAs := hA.mv a3 (fun q j _ _ => by omega)
        refine ⟨s, ⟨fun v hv => ?_, a3⟩, ?_⟩
        · by_cases e : v = i
          · rw [e]; exact a2
          · exact a1 v (by omega)
        · show m_X0_findTwins_19 F k2 (m + 1) r p (nI i) (nI n) s = _
          rw [m_X0_findTwins_19]; dsimp only
          rw [hAs.1, if_pos (nI_le (by omega) (by omega)), nm_eq, nI_1]
    obtain ⟨s', a, b⟩ := inner (m_X0_findTwins_2 F m)
    refine ⟨s', a, ?_⟩
    have hAs := hA.mv h2 (fun q j _ _ => by omega)
    show m_X0_findTwins_2 F (m + 1) r p (nI i) s = _
    rw [m_X0_findTwins_2]; dsimp only
    rw [hAs.1, if_neg (nI_ge hi (by omega)), stI_at (by omega) (by omega), b]
  · rintro m s ⟨h1, h2⟩
    have hAs := hA.mv h2 (fun q j _ _ => by omega)
    refine ⟨s, ?_, h1, h2⟩
    show m_X0_findTwins_2 F (m + 1) r p (nI n) s = _
    rw [m_X0_findTwins_2]; dsimp only
    rw [hAs.1, if_pos (nI_le (by omega) (by omega))]
/-- the cells of a row -/
def KRow (r n : Nat) (M C w : Nat → Nat) (i : Nat) (σ : zST) : Prop := ∀ j, i ≤ j → j < n → gI σ (r + 2) (8 * i + j) = nI (msk (inK n M C w i j) n)
theorem inK_0 {n : Nat} {M C w : Nat → Nat} {j v : Nat} : inK n M C w 0 j v = true ↔ cnt (fun u => decide (C u < C v)) n ≤ j ∧ j < cnt (fun u => decide (C u < C v + 1)) n := by
  have e : ∀ s, low n M C w 0 s = cnt (fun u => decide (C u < s)) n := fun s => by
    unfold low
    refine cnt_cong (fun u _ => ?_)
    rw [(nous_iff w 0 u).mpr (fun x hx => absurd hx (by omega)), Bool.true_and]; rfl
  rw [inK_iff, e, e, Nat.zero_add, Nat.zero_add]
  exact ⟨fun h => h.2, fun h => ⟨(nous_iff w 0 v).mpr (fun x hx => absurd hx (by omega)), h⟩⟩
theorem share_eq (F : Nat) (hF : 8 < F) {r p n : Nat} (hp : p + 2 < r) {M C : Nat → Nat} {σ : zST} (hG : Gr n M C) (hA : AN p n M C σ) (w : Nat → Nat) : ∃ τ, m_X0_shareOutByColours F r p σ = some τ ∧ KRow r n M C w 0 τ ∧ Fr (fun q _ => q = r + 2) σ τ := by
  have h8 := hG.1.2
  have lm : ∀ {a b}, a ≤ b → cnt (fun u => decide (C u < a)) n ≤ cnt (fun u => decide (C u < b)) n := fun hab => cnt_mono (fun u _ z => by
    rw [decide_eq_true_iff] at z ⊢; omega)
  have ln : ∀ a, cnt (fun u => decide (C u < a)) n ≤ n := fun a => cnt_le _ _
  have ls : ∀ c, cnt (fun u => decide (C u < c + 1)) n = cnt (fun u => decide (C u < c)) n + cnt (fun u => decide (C u = c)) n := fun c => by
    rw [← cnt_or (fun u _ z => by simp only [decide_eq_true_iff] at z; omega)]
    refine cnt_cong (fun u _ => ?_)
    rw [Bool.eq_iff_iff, Bool.or_eq_true, decide_eq_true_iff, decide_eq_true_iff, decide_eq_true_iff]
    omega
  have cellj : ∀ c j, cnt (fun u => decide (C u < c)) n ≤ j → j < cnt (fun u => decide (C u < c + 1)) n → msk (inK n M C w 0 j) n = msk (fun v => decide (C v = c)) n := by
    intro c j h1 h2
    apply Nat.eq_of_testBit_eq
    intro v
    rw [msk_bit, msk_bit]
    congr 1
    rw [Bool.eq_iff_iff, inK_0, decide_eq_true_iff]
    constructor
    · rintro ⟨h3, h4⟩
      rcases Nat.lt_trichotomy (C v) c with z | z | z
      · have := lm (show C v + 1 ≤ c by omega); omega
      · exact z
      · have := lm (show c + 1 ≤ C v by omega); omega
    · intro z; rw [z]; exact ⟨h1, h2⟩
  have fin : cnt (fun u => decide (C u < 8)) n = n := cnt_all (fun u hu => decide_eq_true (hG.2 u (by omega)).1)
  have zer : cnt (fun u => decide (C u < 0)) n = 0 := cnt_none (fun u _ => decide_eq_false (by omega))
  -- one colour
  have col : ∀ (k4 : Nat → Nat → Int32 → Int32 → zST → Option zST) (c : Nat) (s : zST), c < 8 → (∀ j, j < cnt (fun u => decide (C u < c)) n → gI s (r + 2) j = nI (msk (inK n M C w 0 j) n)) → Fr (fun q _ => q = r + 2) σ s → ∃ s', ((∀ j, j < cnt (fun u => decide (C u < c + 1)) n → gI s' (r + 2) j = nI (msk (inK n M C w 0 j) n)) ∧ Fr (fun q _ => q = r + 2) σ s') ∧ m_X0_shareOutByColours_16 F k4 F r p (nI (cnt (fun u => decide (C u < c)) n)) (nI c) 0 0 s = k4 r p (nI (cnt (fun u => decide (C u < c + 1)) n)) (nI (c + 1)) s' := by
    intro k4 c s hc h1 h2
    have hAs := hA.mv h2 (fun q j _ _ => by omega)
    have hm : msk (fun v => decide (C v = c)) n < 256 := Nat.lt_of_lt_of_le (msk_lt _ n) (pow8 h8)
    -- filling
    have fill : ∀ (d pl m : Nat) (s : zST), pl + d = cnt (fun u => decide (C u < c + 1)) n → d < m → cnt (fun u => decide (C u < c)) n ≤ pl → (∀ j, j < pl → gI s (r + 2) j = nI (msk (inK n M C w 0 j) n)) → Fr (fun q _ => q = r + 2) σ s → ∃ s', ((∀ j, j < cnt (fun u => decide (C u < c + 1)) n → gI s' (r + 2) j = nI (msk (inK n M C w 0 j) n)) ∧ Fr (fun q _ => q = r + 2) σ s') ∧ m_X0_shareOutByColours_60 F k4 m r p (nI pl) (nI c) (nI (msk (fun v => decide (C v = c)) n)) (nI (cnt (fun u => decide (C u < c + 1)) n)) s = k4 r p (nI (cnt (fun u => decide (C u < c + 1)) n)) (nI (c + 1)) s' := by
      intro d
      induction d with
      | zero =>
        intro pl m s h3 h4 h5 h6 h7
        obtain ⟨m, rfl⟩ : ∃ k, m = k + 1 := ⟨m - 1, by omega⟩
        have hl := ln (c + 1)
        have e : pl = cnt (fun u => decide (C u < c + 1)) n := by omega
        rw [← e] at *
        refine ⟨s, ⟨h6, h7⟩, ?_⟩
        rw [m_X0_shareOutByColours_60]; dsimp only
        unfold m_X0_shareOutByColours_86
        rw [if_pos (nI_le (by omega) (by omega)), nm_eq, nI_1]
      | succ d ih =>
        intro pl m s h3 h4 h5 h6 h7
        obtain ⟨m, rfl⟩ : ∃ k, m = k + 1 := ⟨m - 1, by omega⟩
        have hl := ln (c + 1)
        obtain ⟨s', a, b⟩ := ih (pl + 1) m (sI s (r + 2) pl (nI (msk (fun v => decide (C v = c)) n))) (by omega) (by omega) (by omega) (fun j hj => by
          rw [gI_sI]
          by_cases e : j = pl
          · rw [if_pos ⟨rfl, e⟩, e, cellj c pl h5 (by omega)]
          · rw [if_neg (fun z => e z.2), h6 j (by omega)]) (h7.tr (Fr.sI rfl))
        refine ⟨s', a, ?_⟩
        rw [m_X0_shareOutByColours_60]; dsimp only
        rw [if_neg (nI_ge (show pl < cnt (fun u => decide (C u < c + 1)) n by omega) (by omega)), l8, if_neg (nI_ge (show pl < 8 by omega) (by omega)), stI_at (by omega) (by omega), nm_eq, nI_1]
        exact b
    -- gathering
    refine up_inv0 (fun m (j : Int32) (a : Int32) => m_X0_shareOutByColours_16 F k4 m r p (nI (cnt (fun u => decide (C u < c)) n)) (nI c) a j s) n
      (fun j a => a = nI (msk (fun v => decide (C v = c)) j))
      (fun o => ∃ s', ((∀ j, j < cnt (fun u => decide (C u < c + 1)) n → gI s' (r + 2) j = nI (msk (inK n M C w 0 j) n)) ∧ Fr (fun q _ => q = r + 2) σ s') ∧ o = k4 r p (nI (cnt (fun u => decide (C u < c + 1)) n)) (nI (c + 1)) s') ?_ ?_ (show n < F by omega) (s := 0) rfl
    · rintro m j a hj rfl
      have cj := (hG.2 j (by omega)).1
      refine ⟨_, rfl, ?_⟩
      show m_X0_shareOutByColours_16 F k4 (m + 1) r p _ (nI c) (nI (msk (fun v => decide (C v = c)) j)) (nI j) s = _
      rw [m_X0_shareOutByColours_16]; dsimp only
      unfold m_X0_shareOutByColours_45
      rw [hAs.1, if_neg (nI_ge hj (by omega)), ldI_at (by omega) (by omega), (hAs.2 j (by omega)).2]
      by_cases e : C j = c
      · rw [if_pos (by rw [e]), shl1 (by omega), b_or, nm_eq, nm_eq, nI_1, msk, if_pos (decide_eq_true e)]
      · rw [if_neg (fun z => e ((nI_eq (by omega) (by omega)).mp z)), nm_eq, nI_1, msk, if_neg (by rw [decide_eq_false e]; decide)]
    · rintro m a rfl
      have hl := ln (c + 1)
      have hp := msk_pop (P := fun v => decide (C v = c)) h8
      obtain ⟨s', a, b⟩ := fill (cnt (fun u => decide (C u = c)) n) (cnt (fun u => decide (C u < c)) n) F s (by rw [ls]) (by have := cnt_le (fun u => decide (C u = c)) n; omega) (Nat.le_refl _) h1 h2
      refine ⟨s', a, ?_⟩
      show m_X0_shareOutByColours_16 F k4 (m + 1) r p _ (nI c) (nI (msk (fun v => decide (C v = c)) n)) (nI n) s = _
      rw [m_X0_shareOutByColours_16]; dsimp only
      rw [hAs.1, if_pos (nI_le (by omega) (by omega)), bitCount_eq F hm, bd_some, hp, nI_add, nm_eq, ← ls]
      exact b
  unfold m_X0_shareOutByColours
  have := up_inv0 (fun m (c : Int32) (st : Int32 × zST) => m_X0_shareOutByColours_4 F m r p st.1 c st.2) 8
    (fun c st => st.1 = nI (cnt (fun u => decide (C u < c)) n) ∧ (∀ j, j < cnt (fun u => decide (C u < c)) n → gI st.2 (r + 2) j = nI (msk (inK n M C w 0 j) n)) ∧ Fr (fun q _ => q = r + 2) σ st.2)
    (fun o => ∃ τ, o = some τ ∧ KRow r n M C w 0 τ ∧ Fr (fun q _ => q = r + 2) σ τ) ?_ ?_ hF (s := (0, σ)) ⟨by rw [zer]; rfl, fun j hj => absurd hj (by omega), Fr.rf⟩
  · exact this
  · rintro m c ⟨a, s⟩ hc ⟨h1, h2, h3⟩
    dsimp only at h1 h2 h3
    subst h1
    obtain ⟨s', a, b⟩ := col (m_X0_shareOutByColours_4 F m) c s hc h2 h3
    refine ⟨(nI (cnt (fun u => decide (C u < c + 1)) n), s'), ⟨rfl, a⟩, ?_⟩
    show m_X0_shareOutByColours_4 F (m + 1) r p _ (nI c) s = _
    rw [m_X0_shareOutByColours_4]; dsimp only
    rw [l8, if_neg (nI_ge hc (by omega)), b]
  · rintro m ⟨a, s⟩ ⟨h1, h2, h3⟩
    dsimp only at h1 h2 h3
    refine ⟨s, ?_, fun j _ hj => ?_, h3⟩
    · show m_X0_shareOutByColours_4 F (m + 1) r p a (nI 8) s = _
      rw [m_X0_shareOutByColours_4]; dsimp only
      rw [l8, if_pos (nI_le (by omega) (by omega))]
    · have := h2 j (by rw [fin]; exact hj)
      rw [← this]
      congr 1
      omega
end

