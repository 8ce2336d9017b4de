/-! MATHEMATICS, 49: the class splits cells -/
section
def celm (n : Nat) (M C w : Nat → Nat) (i j y : Nat) : Bool := inK n M C w i j y && decide (y ≠ w i)
theorem celm_iff {n : Nat} {M C w : Nat → Nat} {i j y : Nat} : celm n M C w i j y = true ↔ inK n M C w i j y = true ∧ y ≠ w i := by
  unfold celm
  rw [Bool.and_eq_true, decide_eq_true_iff]
theorem celm_ex {n : Nat} {M C w : Nat → Nat} {i j : Nat} (h : Pf n M C w (i + 1)) (hij : i < j) (hj : j < n) : ∃ u, u < n ∧ celm n M C w i j u = true ∧ inK n M C w (i + 1) j u = true := by
  obtain ⟨u, hu, hk⟩ := inK_ex h (show i + 1 ≤ j by omega) hj
  have := (inK_next (h i (by omega)) hu hij).mp hk
  exact ⟨u, hu, celm_iff.mpr this.1, hk⟩
/-- where a new cell begins -/
theorem stt_new {n : Nat} {M C w : Nat → Nat} {i j u : Nat} (h : Pf n M C w (i + 1)) (hu : u < n) (hij : i < j) (hc : celm n M C w i j u = true) (hne : j = i + 1 ∨ inK n M C w i (j - 1) u = false) : stt n M C w i (w i) (sg M C w i u) = j := by
  obtain ⟨hk, hne2⟩ := celm_iff.mp hc
  obtain ⟨a, b, c⟩ := inK_iff.mp hk
  obtain ⟨hv, hvn, hvl, _⟩ := h i (by omega)
  have hle := hvl u hu a
  unfold stt
  by_cases e : sg M C w i u = sg M C w i (w i)
  · rw [if_pos e]
    rcases hne with z | z
    · exact z.symm
    · -- the whole interval from i to j is one cell
      have h0 : inK n M C w i i u = true := (inK_first hu).mpr ⟨a, fun x hx hn => by rw [e]; exact hvl x hx hn⟩
      obtain ⟨_, b0, _⟩ := inK_iff.mp h0
      by_cases y : j = i + 1
      · exact y.symm
      · have : inK n M C w i (j - 1) u = true := inK_iff.mpr ⟨a, by omega, by omega⟩
        rw [this] at z
        exact absurd z (by decide)
  · rw [if_neg e]
    have hlow : low n M C w i (sg M C w i u) ≥ 1 := by
      have h1 : low n M C w i (sg M C w i u) ≥ cnt (fun x => decide (x = w i)) n := cnt_mono (fun x _ hx => by
        rw [decide_eq_true_iff] at hx
        rw [hx, hvn, Bool.true_and]
        exact decide_eq_true (by omega))
      rw [cnt_one (j := w i) hv (decide_eq_true rfl) (fun x _ hne => decide_eq_false hne)] at h1
      omega
    rcases hne with z | z
    · omega
    · apply Classical.byContradiction
      intro y
      have : inK n M C w i (j - 1) u = true := inK_iff.mpr ⟨a, by omega, by omega⟩
      rw [this] at z
      exact absurd z (by decide)
/-- whether a place's new cell is near -/
noncomputable def nrb (n : Nat) (M C w : Nat → Nat) (i j : Nat) : Bool := dc (∃ x, x < n ∧ inK n M C w (i + 1) j x = true ∧ (M (w i)).testBit x = true)
theorem split_eq (F : Nat) (hF : 8 < F) {r p n : Nat} (hp : p + 2 < r) {M C w : Nat → Nat} {σ : zST} (hG : Gr n M C) (hA : AN p n M C σ) {i : Nat} (hi : i < n) (hP : Pf n M C w (i + 1)) (hK : KRow r n M C w i σ) : ∃ E τ, m_X0_splitCells F r p (nI i) (nI (w i)) σ = some (nI E, τ) ∧ KRow r n M C w (i + 1) τ ∧ E < 256 ∧ (∀ d, E.testBit d = true ↔ ∃ j, i < j ∧ j < n ∧ d + j = 7 ∧ nrb n M C w i j = true) ∧ Fr (fun q j => q = r + 2 ∧ 8 * i + 8 ≤ j) σ τ := by
  have h8 := hG.1.2
  have hv := (hP i (by omega)).1
  have hml : ∀ (P : Nat → Bool), msk P n < 256 := fun P => Nat.lt_of_lt_of_le (msk_lt P n) (pow8 h8)
  have hMv := hG.lt (show w i < 8 by omega)
  have loop : ∀ (d j m : Nat) (st bf E : Nat) (s : zST), j + d = n → d < m → i < j → (∀ j', i < j' → j' < j → gI s (r + 2) (8 * i + 8 + j') = nI (msk (inK n M C w (i + 1) j') n)) → E < 256 → (∀ d, E.testBit d = true ↔ ∃ j', i < j' ∧ j' < j ∧ d + j' = 7 ∧ nrb n M C w i j' = true) → ((j = i + 1 ∧ bf = 0 ∧ st = i + 1) ∨ (i + 1 < j ∧ bf = msk (celm n M C w i (j - 1)) n ∧ ∃ x, x < n ∧ celm n M C w i (j - 1) x = true ∧ st = stt n M C w i (w i) (sg M C w i x))) → Fr (fun q j => q = r + 2 ∧ 8 * i + 8 ≤ j) σ s → ∃ E' τ, m_X0_splitCells_22 F m r p (nI (w i)) (nI (i * 8)) (nI st) (nI bf) (nI E) (nI j) s = some (nI E', τ) ∧ (∀ j', i < j' → j' < n → gI τ (r + 2) (8 * i + 8 + j') = nI (msk (inK n M C w (i + 1) j') n)) ∧ E' < 256 ∧ (∀ d, E'.testBit d = true ↔ ∃ j', i < j' ∧ j' < n ∧ d + j' = 7 ∧ nrb n M C w i j' = true) ∧ Fr (fun q j => q = r + 2 ∧ 8 * i + 8 ≤ j) σ τ := by
    intro d
    induction d with
    | zero =>
      intro j m st bf E s h1 h2 h3 h4 h5 h6 h7 h9
      obtain ⟨m, rfl⟩ : ∃ k, m = k + 1 := ⟨m - 1, by omega⟩
      have : j = n := by omega
      subst this
      have hAs := hA.mv h9 (fun q j _ _ => by omega)
      refine ⟨E, s, ?_, h4, h5, h6, h9⟩
      rw [m_X0_splitCells_22]; dsimp only
      rw [hAs.1, if_pos (nI_le (by omega) (by omega))]
    | succ d ih =>
      intro j m st bf E s h1 h2 h3 h4 h5 h6 h7 h9
      obtain ⟨m, rfl⟩ : ∃ k, m = k + 1 := ⟨m - 1, by omega⟩
      have hj : j < n := by omega
      have hAs := hA.mv h9 (fun q j _ _ => by omega)
      obtain ⟨u, hu, hcu, hku⟩ := celm_ex hP h3 hj
      obtain ⟨hku1, hune⟩ := celm_iff.mp hcu
      have hcm := hml (celm n M C w i j)
      -- the cell without the chosen vertex
      have ecell : gI s (r + 2) (8 * i + j) = nI (msk (inK n M C w i j) n) := by
        rw [(h9 (r + 2) (8 * i + j) (by omega)).1]; exact hK j (by omega) hj
      have e11 : nI (msk (inK n M C w i j) n) &&& (jshl 1 (nI (w i)) ^^^ (-1)) = nI (msk (celm n M C w i j) n) := by
        rw [shl1 (by omega), b_not]
        congr 1
        apply Nat.eq_of_testBit_eq
        intro y
        rw [Nat.testBit_xor, Nat.testBit_and, msk_bit, msk_bit, Nat.testBit_two_pow]
        unfold celm
        by_cases z : y = w i
        · rw [decide_eq_true (show w i = y from z.symm), decide_eq_false (show ¬ y ≠ w i from fun q => q z)]
          cases decide (y < n) <;> cases inK n M C w i j y <;> rfl
        · rw [decide_eq_false (show ¬ w i = y from fun q => z q.symm), decide_eq_true z]
          cases decide (y < n) <;> cases inK n M C w i j y <;> rfl
      -- cells are told by signatures
      have hin : ∀ y, inK n M C w i j y = true ↔ nous w i y = true ∧ sg M C w i y = sg M C w i u := fun y => ⟨fun q => ⟨(inK_iff.mp q).1, inK_sg q hku1⟩, fun q => inK_of hku1 q.1 q.2⟩
      generalize hst : stt n M C w i (w i) (sg M C w i u) = sj
      -- the start
      have hstart : (if nI (msk (celm n M C w i j) n) = nI bf then (st, bf) else (j, msk (celm n M C w i j) n)) = (sj, msk (celm n M C w i j) n) := by
        have hub : (msk (celm n M C w i j) n).testBit u = true := by
          rw [msk_bit, hcu, decide_eq_true hu]; rfl
        rcases h7 with ⟨a1, a2, a3⟩ | ⟨a1, a2, x, hx, a3, a4⟩
        · have hne : ¬ nI (msk (celm n M C w i j) n) = nI bf := fun z => by
            have := (nI_eq (by omega) (by omega)).mp z
            rw [this, a2, Nat.zero_testBit] at hub
            exact absurd hub (by decide)
          rw [if_neg hne, ← hst, stt_new hP hu h3 hcu (Or.inl a1)]
        · have hb := hml (celm n M C w i (j - 1))
          obtain ⟨x1, x2⟩ := celm_iff.mp a3
          by_cases z : inK n M C w i (j - 1) u = true
          · have hsg := inK_sg z x1
            have heq : msk (celm n M C w i j) n = bf := by
              rw [a2]
              apply Nat.eq_of_testBit_eq
              intro y
              rw [msk_bit, msk_bit]
              congr 1
              rw [Bool.eq_iff_iff, celm_iff, celm_iff, hin y]
              constructor
              · rintro ⟨⟨q1, q2⟩, q3⟩; exact ⟨inK_of z q1 q2, q3⟩
              · rintro ⟨q1, q3⟩; exact ⟨⟨(inK_iff.mp q1).1, inK_sg q1 z⟩, q3⟩
            rw [if_pos (by rw [heq]), heq, a4, ← hsg, hst]
          · have hne : ¬ nI (msk (celm n M C w i j) n) = nI bf := fun q => by
              have := (nI_eq (by omega) (by rw [a2]; omega)).mp q
              rw [this, a2, msk_bit, Bool.and_eq_true] at hub
              exact z (celm_iff.mp hub.2).1
            rw [if_neg hne, ← hst, stt_new hP hu h3 hcu (Or.inr (by cases q : inK n M C w i (j - 1) u; rfl; exact absurd q z))]
      have hsj : sj ≤ j := by
        rw [← hst]
        unfold stt
        split
        · omega
        · exact (inK_iff.mp hku1).2.1
      -- how many are far
      have efar : msk (celm n M C w i j) n ^^^ (msk (celm n M C w i j) n &&& M (w i)) = msk (fun y => celm n M C w i j y && !(M (w i)).testBit y) n := by
        apply Nat.eq_of_testBit_eq
        intro y
        rw [Nat.testBit_xor, Nat.testBit_and, msk_bit, msk_bit]
        cases decide (y < n) <;> cases celm n M C w i j y <;> cases (M (w i)).testBit y <;> rfl
      have epop : pop (msk (fun y => celm n M C w i j y && !(M (w i)).testBit y) n) = farn n M C w i (w i) (sg M C w i u) := by
        rw [msk_pop h8]
        unfold farn
        refine cnt_cong (fun y _ => ?_)
        rw [Bool.eq_iff_iff]
        unfold celm
        simp only [Bool.and_eq_true, decide_eq_true_iff]
        rw [hin y]
        constructor
        · rintro ⟨⟨⟨q1, q2⟩, q3⟩, q4⟩; exact ⟨⟨q1, q3⟩, q2, q4⟩
        · rintro ⟨⟨q1, q3⟩, q2, q4⟩; exact ⟨⟨⟨q1, q2⟩, q3⟩, q4⟩
      generalize hf : farn n M C w i (w i) (sg M C w i u) = f at *
      have hf8 : f ≤ 8 := by
        rw [← epop]; exact pop_le _
      -- members of the new cell
      have hnew : ∀ y, y < n → (inK n M C w (i + 1) j y = true ↔ celm n M C w i j y = true ∧ ((M (w i)).testBit y = true ↔ f ≤ j - sj)) := by
        intro y hy
        rw [inK_next (hP i (by omega)) hy h3, celm_iff]
        constructor
        · rintro ⟨q1, q2⟩
          rw [((hin y).mp q1.1).2, hf, hst] at q2
          exact ⟨q1, q2⟩
        · rintro ⟨q1, q2⟩
          refine ⟨q1, ?_⟩
          rw [((hin y).mp q1.1).2, hf, hst]
          exact q2
      have hnr : nrb n M C w i j = decide (f ≤ j - sj) := by
        unfold nrb
        rw [Bool.eq_iff_iff, dc_iff, decide_eq_true_iff]
        constructor
        · rintro ⟨x, hx, q1, q2⟩
          exact ((hnew x hx).mp q1).2.mp q2
        · intro q
          exact ⟨u, hu, hku, ((hnew u hu).mp hku).2.mpr q⟩
      -- one turn
      have step : m_X0_splitCells_22 F (m + 1) r p (nI (w i)) (nI (i * 8)) (nI st) (nI bf) (nI E) (nI j) s = m_X0_splitCells_64 F (m_X0_splitCells_22 F m) r p (nI (w i)) (nI (i * 8)) (nI sj) (nI (msk (celm n M C w i j) n)) (nI E) (nI j) (nI (msk (celm n M C w i j) n)) s := by
        rw [m_X0_splitCells_22]; dsimp only
        rw [hAs.1, if_neg (nI_ge hj (by omega)), nI_add, ldI_at (by omega) (by omega), show i * 8 + j = 8 * i + j from by omega, ecell, e11, nm_eq]
        by_cases z : nI (msk (celm n M C w i j) n) = nI bf
        · rw [if_pos z] at hstart
          rw [if_pos z, (Prod.mk.inj hstart).1, (Prod.mk.inj hstart).2]
        · rw [if_neg z] at hstart
          rw [if_neg z, (Prod.mk.inj hstart).1]
      rw [step]
      unfold m_X0_splitCells_64 m_X0_splitCells_142
      rw [ldI_at (by omega) (by omega), (hAs.2 (w i) (by omega)).1, b_not, efar, nm_eq, bitCount_eq F (hml _), bd_some, epop, b_sub hsj]
      by_cases z : f ≤ j - sj
      · have em : msk (celm n M C w i j) n &&& M (w i) = msk (inK n M C w (i + 1) j) n := by
          apply Nat.eq_of_testBit_eq
          intro y
          rw [Nat.testBit_and, msk_bit, msk_bit]
          by_cases hy : y < n
          · rw [decide_eq_true hy, Bool.true_and, Bool.true_and, Bool.eq_iff_iff, Bool.and_eq_true, hnew y hy]
            exact ⟨fun q => ⟨q.1, fun _ => z, fun _ => q.2⟩, fun q => ⟨q.1, q.2.mpr z⟩⟩
          · rw [decide_eq_false hy, Bool.false_and, Bool.false_and, Bool.false_and]
        have hE2 : E ||| 2 ^ (7 - j) < 256 := or_lt h5 (Nat.pow_lt_pow_right (n := 8) (by omega) (by omega))
        obtain ⟨E', τ, b1, b2, b3, b4, b5⟩ := ih (j + 1) m sj (msk (celm n M C w i j) n) (E ||| 2 ^ (7 - j)) (sI s (r + 2) (8 * i + 8 + j) (nI (msk (inK n M C w (i + 1) j) n))) (by omega) (by omega) (by omega) (fun j' hj1 hj2 => by
          rw [gI_sI]
          by_cases y : j' = j
          · rw [if_pos ⟨rfl, by omega⟩, y]
          · rw [if_neg (by omega), h4 j' hj1 (by omega)]) hE2 (fun d => by
          rw [Nat.testBit_or, Bool.or_eq_true, h6 d, Nat.testBit_two_pow, decide_eq_true_iff]
          constructor
          · rintro (⟨j', q1, q2, q3, q4⟩ | q)
            · exact ⟨j', q1, by omega, q3, q4⟩
            · exact ⟨j, h3, by omega, by omega, by rw [hnr]; exact decide_eq_true z⟩
          · rintro ⟨j', q1, q2, q3, q4⟩
            by_cases y : j' = j
            · right; omega
            · exact Or.inl ⟨j', q1, by omega, q3, q4⟩) (Or.inr ⟨by omega, by rw [Nat.add_sub_cancel], u, hu, by rw [Nat.add_sub_cancel]; exact hcu, hst.symm⟩) (h9.tr (Fr.sI (by omega)))
        refine ⟨E', τ, ?_, b2, b3, b4, b5⟩
        rw [if_pos (nI_le z (by omega)), ldI_at (by omega) (by omega), (hAs.2 (w i) (by omega)).1, b_and, em, l8, nI_add, nI_add, stI_at (by omega) (by omega), l7, b_sub (by omega), shl1 (by omega), b_or, nm_eq, nm_eq, nI_1, show i * 8 + 8 + j = 8 * i + 8 + j from by omega]
        exact b1
      · have em : msk (fun y => celm n M C w i j y && !(M (w i)).testBit y) n = msk (inK n M C w (i + 1) j) n := by
          apply Nat.eq_of_testBit_eq
          intro y
          rw [msk_bit, msk_bit]
          by_cases hy : y < n
          · rw [decide_eq_true hy, Bool.true_and, Bool.true_and, Bool.eq_iff_iff, Bool.and_eq_true, hnew y hy]
            constructor
            · rintro ⟨q1, q2⟩
              refine ⟨q1, fun q => ?_, fun q => absurd q z⟩
              rw [q] at q2
              exact absurd q2 (by decide)
            · rintro ⟨q1, q2⟩
              refine ⟨q1, ?_⟩
              cases q : (M (w i)).testBit y
              · rfl
              · exact absurd (q2.mp q) z
          · rw [decide_eq_false hy, Bool.false_and, Bool.false_and]
        obtain ⟨E', τ, b1, b2, b3, b4, b5⟩ := ih (j + 1) m sj (msk (celm n M C w i j) n) E (sI s (r + 2) (8 * i + 8 + j) (nI (msk (inK n M C w (i + 1) j) n))) (by omega) (by omega) (by omega) (fun j' hj1 hj2 => by
          rw [gI_sI]
          by_cases y : j' = j
          · rw [if_pos ⟨rfl, by omega⟩, y]
          · rw [if_neg (by omega), h4 j' hj1 (by omega)]) h5 (fun d => by
          rw [h6 d]
          constructor
          · rintro ⟨j', q1, q2, q3, q4⟩
            exact ⟨j', q1, by omega, q3, q4⟩
          · rintro ⟨j', q1, q2, q3, q4⟩
            by_cases y : j' = j
            · rw [y, hnr] at q4
              exact absurd (of_decide_eq_true q4) z
            · exact ⟨j', q1, by omega, q3, q4⟩) (Or.inr ⟨by omega, by rw [Nat.add_sub_cancel], u, hu, by rw [Nat.add_sub_cancel]; exact hcu, hst.symm⟩) (h9.tr (Fr.sI (by omega)))
        refine ⟨E', τ, ?_, b2, b3, b4, b5⟩
        rw [if_neg (nI_ge (show j - sj < f by omega) (by omega)), em, l8, nI_add, nI_add, stI_at (by omega) (by omega), nm_eq, nI_1, show i * 8 + 8 + j = 8 * i + 8 + j from by omega]
        exact b1
  obtain ⟨E', τ, b1, b2, b3, b4, b5⟩ := loop (n - (i + 1)) (i + 1) F (i + 1) 0 0 σ (by omega) (by omega) (by omega) (fun j' h1 h2 => by omega) (by omega) (fun d => by
    rw [Nat.zero_testBit]
    constructor
    · intro q; exact absurd q (by decide)
    · rintro ⟨j', q1, q2, _⟩; omega) (Or.inl ⟨rfl, rfl, rfl⟩) Fr.rf
  refine ⟨E', τ, ?_, fun j hj1 hj2 => ?_, b3, b4, b5⟩
  · unfold m_X0_splitCells
    rw [l8, pk_mul, nm_eq, nI_1, nm_eq, nm_eq]
    rw [nI_0] at b1
    exact b1
  · have := b2 j (by omega) hj2
    rw [← this]
    congr 1
end

