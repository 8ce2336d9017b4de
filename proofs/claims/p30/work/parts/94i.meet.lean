/-! MATHEMATICS, 50: the class meets a leaf -/
section
theorem qk_bit {d : Nat → Nat} (k : Nat) : ∀ {n : Nat}, (∀ i, i < n → d i < 8) → (qk d n).testBit k = (decide (k < 3 * n) && (d (k / 3)).testBit (k % 3))
  | 0, _ => by rw [qk, Nat.zero_testBit]; simp
  | n + 1, h => by
    have a := qk_lt (n := n) (fun i hi => h i (by omega))
    have e : (8 : Nat) ^ n = 2 ^ (3 * n) := by rw [show (8 : Nat) = 2 ^ 3 from rfl, ← Nat.pow_mul]
    rw [qk, Nat.add_comm, Nat.mul_comm, e, Nat.testBit_two_pow_mul_add _ (by rw [← e]; exact a)]
    by_cases hk : k < 3 * n
    · rw [if_pos hk, qk_bit k (fun i hi => h i (by omega)), decide_eq_true hk, decide_eq_true (by omega)]
    · rw [if_neg hk]
      by_cases hk2 : k < 3 * (n + 1)
      · rw [decide_eq_true hk2, Bool.true_and, show k / 3 = n from by omega, show k % 3 = k - 3 * n from by omega]
      · rw [decide_eq_false hk2, Bool.false_and]
        exact Nat.testBit_lt_two_pow (Nat.lt_of_lt_of_le (h n (by omega)) (Nat.pow_le_pow_right (n := 2) (i := 3) (by omega) (by omega)))
theorem qk_set {d : Nat → Nat} (h : ∀ i, i < 8 → d i < 8) {x v : Nat} (hx : x < 8) (hv : v < 8) (h0 : d x = 0) : qk d 8 ||| v * 2 ^ (3 * x) = qk (fun i => if i = x then v else d i) 8 := by
  have h' : ∀ i, i < 8 → (fun i => if i = x then v else d i) i < 8 := by
    intro i hi
    show (if i = x then v else d i) < 8
    split
    · exact hv
    · exact h i hi
  apply Nat.eq_of_testBit_eq
  intro k
  rw [Nat.testBit_or, qk_bit _ h, qk_bit _ h', Nat.mul_comm v, Nat.testBit_two_pow_mul]
  show _ = (decide (k < 3 * 8) && (if k / 3 = x then v else d (k / 3)).testBit (k % 3))
  by_cases e : k / 3 = x
  · rw [if_pos e, e, h0, Nat.zero_testBit, Bool.and_false, Bool.false_or, decide_eq_true (show k < 3 * 8 by omega), decide_eq_true (show k ≥ 3 * x by omega), show k - 3 * x = k % 3 from by omega]
  · rw [if_neg e]
    have : (decide (k ≥ 3 * x) && v.testBit (k - 3 * x)) = false := by
      by_cases q : k ≥ 3 * x
      · rw [decide_eq_true q, Bool.true_and]
        exact Nat.testBit_lt_two_pow (Nat.lt_of_lt_of_le hv (Nat.pow_le_pow_right (n := 2) (i := 3) (by omega) (by omega)))
      · rw [decide_eq_false q, Bool.false_and]
    rw [this, Bool.or_false]
/-- what the state tells of the leaves met so far -/
def SumS (r n : Nat) (M C : Nat → Nat) (P : (Nat → Nat) → Prop) (σ : zST) : Prop := ((∀ w, ¬ P w) ∧ gI σ r 0 = nI 268435456) ∨ ∃ w0, P w0 ∧ (∀ w, P w → ec n M w0 ≤ ec n M w) ∧ gI σ r 0 = nI (ec n M w0) ∧ gI σ r 2 = nI (cd n (fun w => P w ∧ ec n M w = ec n M w0)) ∧ (∃ w1, (P w1 ∧ ec n M w1 = ec n M w0) ∧ gI σ r 1 = nI (rv n (iv w1)) ∧ ∀ w, P w → ec n M w = ec n M w0 → rv n (iv w1) ≤ rv n (iv w)) ∧ ∀ p, p < n → ∃ m, m < 256 ∧ gI σ (r + 4) p = nI m ∧ ∀ y, m.testBit y = true ↔ y < n ∧ ∃ w, (P w ∧ ec n M w = ec n M w0) ∧ Twn M C (w p) y
theorem SumS.cong {r n : Nat} {M C : Nat → Nat} {P Q : (Nat → Nat) → Prop} (h : ∀ w, P w ↔ Q w) {σ : zST} (hs : SumS r n M C P σ) : SumS r n M C Q σ := by
  have : P = Q := by
    funext w
    exact propext (h w)
  rw [← this]
  exact hs
theorem SumS.mv {r n : Nat} {M C : Nat → Nat} {P : (Nat → Nat) → Prop} {σ τ : zST} (hs : SumS r n M C P σ) {S : Nat → Nat → Prop} (hf : Fr S σ τ) (h0 : ∀ p j, (p = r ∧ j ≤ 2) ∨ p = r + 4 → ¬ S p j) : SumS r n M C P τ := by
  rcases hs with ⟨a, b⟩ | ⟨w0, a1, a2, a3, a4, ⟨w1, b1, b2, b3⟩, c⟩
  · exact Or.inl ⟨a, by rw [(hf r 0 (h0 _ _ (by omega))).1, b]⟩
  · refine Or.inr ⟨w0, a1, a2, by rw [(hf r 0 (h0 _ _ (by omega))).1, a3], by rw [(hf r 2 (h0 _ _ (by omega))).1, a4], ⟨w1, b1, by rw [(hf r 1 (h0 _ _ (by omega))).1, b2], b3⟩, fun p hp => ?_⟩
    obtain ⟨m, d1, d2, d3⟩ := c p hp
    exact ⟨m, d1, by rw [(hf (r + 4) p (h0 _ _ (by omega))).1, d2], d3⟩
/-- leaves with more edges may be left out -/
theorem SumS.skip {r n : Nat} {M C : Nat → Nat} {P Q : (Nat → Nat) → Prop} {σ : zST} (hs : SumS r n M C P σ) (hQ : ∀ w, Q w → ∃ v, P v ∧ ec n M v < ec n M w) : SumS r n M C (fun w => P w ∨ Q w) σ := by
  rcases hs with ⟨a, b⟩ | ⟨w0, a1, a2, a3, a4, ⟨w1, b1, b2, b3⟩, c⟩
  · refine Or.inl ⟨fun w hw => ?_, b⟩
    rcases hw with hw | hw
    · exact a w hw
    · obtain ⟨v, hv, _⟩ := hQ w hw
      exact a v hv
  · have hq : ∀ w, Q w → ec n M w0 < ec n M w := fun w hw => by
      obtain ⟨v, hv, hl⟩ := hQ w hw
      have := a2 v hv
      omega
    have he : ∀ w, ((P w ∨ Q w) ∧ ec n M w = ec n M w0) ↔ (P w ∧ ec n M w = ec n M w0) := fun w => by
      constructor
      · rintro ⟨h | h, e⟩
        · exact ⟨h, e⟩
        · have := hq w h; omega
      · rintro ⟨h, e⟩; exact ⟨Or.inl h, e⟩
    refine Or.inr ⟨w0, Or.inl a1, fun w hw => ?_, a3, ?_, ⟨w1, (he w1).mpr b1, b2, fun w hw e => ?_⟩, fun p hp => ?_⟩
    · rcases hw with hw | hw
      · exact a2 w hw
      · have := hq w hw; omega
    · rw [a4, cd_cong (fun w _ => (he w).symm)]
    · exact b3 w ((he w).mp ⟨hw, e⟩).1 e
    · obtain ⟨m, d1, d2, d3⟩ := c p hp
      refine ⟨m, d1, d2, fun y => ?_⟩
      rw [d3 y]
      constructor
      · rintro ⟨h1, w, h2, h3⟩; exact ⟨h1, w, (he w).mpr h2, h3⟩
      · rintro ⟨h1, w, h2, h3⟩; exact ⟨h1, w, (he w).mp h2, h3⟩
theorem shiftOf_eq (F : Nat) {v : Nat} (hv : v < 8) (σ : zST) : m_X0_shiftOf F (nI v) σ = some (nI (3 * (7 - v)), σ) := by
  unfold m_X0_shiftOf
  rw [l7, b_sub (by omega), l3, pk_mul]
/-- places of the first i places' vertices -/
def plT (n : Nat) (w : Nat → Nat) (i : Nat) : Nat := qk (fun d => if 7 - d < n ∧ iv w (7 - d) < i then iv w (7 - d) else 0) 8
theorem plT_lt {n : Nat} (hn : n ≤ 8) {w : Nat → Nat} (hw : IsN n w) (i d : Nat) : (fun d => if 7 - d < n ∧ iv w (7 - d) < i then iv w (7 - d) else 0) d < 8 := by
  show (if 7 - d < n ∧ iv w (7 - d) < i then iv w (7 - d) else 0) < 8
  split
  · rename_i h
    have := hw.iv.lt hn h.1
    omega
  · omega
theorem plT_s {n : Nat} (hn : n ≤ 8) {w : Nat → Nat} (hw : IsN n w) {i : Nat} (hi : i < n) : plT n w i ||| i * 2 ^ (3 * (7 - w i)) = plT n w (i + 1) := by
  have hwi := hw.lt hn hi
  unfold plT
  have h0 : (fun d => if 7 - d < n ∧ iv w (7 - d) < i then iv w (7 - d) else 0) (7 - w i) = 0 := by
    show (if 7 - (7 - w i) < n ∧ iv w (7 - (7 - w i)) < i then iv w (7 - (7 - w i)) else 0) = 0
    rw [show 7 - (7 - w i) = w i from by omega, iv_l hw.1, if_neg (by omega)]
  rw [qk_set (fun d _ => plT_lt hn hw i d) (show 7 - w i < 8 by omega) (show i < 8 by omega) h0]
  refine qk_cong (fun d hd => ?_)
  show (if d = 7 - w i then i else if 7 - d < n ∧ iv w (7 - d) < i then iv w (7 - d) else 0) = (if 7 - d < n ∧ iv w (7 - d) < i + 1 then iv w (7 - d) else 0)
  by_cases e : d = 7 - w i
  · rw [if_pos e, e, show 7 - (7 - w i) = w i from by omega, iv_l hw.1, if_pos ⟨hwi, by omega⟩]
  · rw [if_neg e]
    have hne : iv w (7 - d) ≠ i := fun z => by
      have := iv_r hw.1 (y := 7 - d)
      rw [z] at this
      omega
    by_cases q : 7 - d < n ∧ iv w (7 - d) < i
    · rw [if_pos q, if_pos ⟨q.1, by omega⟩]
    · rw [if_neg q, if_neg (fun z => q ⟨z.1, by omega⟩)]
theorem plT_n {n : Nat} (hn : n ≤ 8) {w : Nat → Nat} (hw : IsN n w) : plT n w n = rv n (iv w) := by
  refine qk_cong (fun d hd => ?_)
  show (if 7 - d < n ∧ iv w (7 - d) < n then iv w (7 - d) else 0) = (if 7 - d < n then iv w (7 - d) else 0)
  by_cases q : 7 - d < n
  · rw [if_pos q, if_pos ⟨q, hw.iv.lt hn q⟩]
  · rw [if_neg q, if_neg (fun z => q z.1)]
theorem plT_0 {n : Nat} {w : Nat → Nat} : plT n w 0 = 0 := by
  have : plT n w 0 = qk (fun _ => 0) 8 := qk_cong (fun d _ => by
    rw [if_neg (by omega)])
  rw [this]
  rfl
theorem meet32 (F : Nat) (hF : 8 < F) {r n : Nat} (hn : n ≤ 8) {M C w : Nat → Nat} (hw : IsN n w) {s : zST} (hv : ∀ x, x < n → gI s (r + 3) x = nI (w x)) (htw : ∀ v, v < n → gI s (r + 1) v = nI (twm n M C v)) {k L : Nat} {m : Nat → Nat} (h2 : gI s r 2 = nI k) (h1 : gI s r 1 = nI L) (hL : L < 2 ^ 31) (hm : ∀ p, p < n → m p < 256 ∧ gI s (r + 4) p = nI (m p)) : ∃ τ, m_X0_meet_32 F r (nI n) s = some τ ∧ gI τ r 0 = gI s r 0 ∧ gI τ r 2 = nI (k + 1) ∧ gI τ r 1 = nI (if rv n (iv w) < L then rv n (iv w) else L) ∧ (∀ p, p < n → gI τ (r + 4) p = nI (m p ||| twm n M C (w p))) ∧ Fr (fun q j => (q = r ∧ (j = 1 ∨ j = 2)) ∨ q = r + 4) s τ := by
  unfold m_X0_meet_32
  rw [h2, nI_1, nm_eq]
  generalize hs1 : sI s r 2 (nI (k + 1)) = s1
  have f1 : Fr (fun q j => q = r ∧ j = 2) s s1 := by subst hs1; exact Fr.sI ⟨rfl, rfl⟩
  have := up_inv0 (fun t (i : Int32) (st : Int32 × zST) => m_X0_meet_47 F t r (nI n) st.1 i st.2) n
    (fun i st => st.1 = nI (plT n w i) ∧ (∀ p, p < n → gI st.2 (r + 4) p = nI (if p < i then m p ||| twm n M C (w p) else m p)) ∧ Fr (fun q _ => q = r + 4) s1 st.2)
    (fun o => ∃ τ, o = some τ ∧ gI τ r 0 = gI s r 0 ∧ gI τ r 2 = nI (k + 1) ∧ gI τ r 1 = nI (if rv n (iv w) < L then rv n (iv w) else L) ∧ (∀ p, p < n → gI τ (r + 4) p = nI (m p ||| twm n M C (w p))) ∧ Fr (fun q j => (q = r ∧ (j = 1 ∨ j = 2)) ∨ q = r + 4) s τ) ?_ ?_ (show n < F by omega) (s := (0, s1)) ⟨by rw [plT_0]; rfl, fun p hp => by rw [(f1 (r + 4) p (by omega)).1, if_neg (by omega), (hm p hp).2], Fr.rf⟩
  · exact this
  · rintro t i ⟨a, s2⟩ hi ⟨b1, b2, b3⟩
    dsimp only at b1 b2 b3
    subst b1
    have hwi := hw.lt hn hi
    have g1 : gI s2 (r + 3) i = nI (w i) := by rw [(b3 (r + 3) i (by omega)).1, (f1 (r + 3) i (by omega)).1, hv i hi]
    have g2 : gI s2 (r + 1) (w i) = nI (twm n M C (w i)) := by rw [(b3 (r + 1) _ (by omega)).1, (f1 (r + 1) _ (by omega)).1, htw _ hwi]
    have g3 : gI s2 (r + 4) i = nI (m i) := by rw [b2 i hi, if_neg (by omega)]
    refine ⟨(nI (plT n w (i + 1)), sI s2 (r + 4) i (nI (m i ||| twm n M C (w i)))), ⟨rfl, fun p hp => ?_, b3.tr (Fr.sI rfl)⟩, ?_⟩
    · show gI (sI s2 (r + 4) i (nI (m i ||| twm n M C (w i)))) (r + 4) p = _
      have hb := b2 p hp
      rw [gI_sI]
      by_cases e : p = i
      · rw [if_pos ⟨rfl, e⟩, e, if_pos (by omega)]
      · rw [if_neg (fun z => e z.2), hb]
        by_cases q : p < i
        · rw [if_pos q, if_pos (by omega)]
        · rw [if_neg q, if_neg (by omega)]
    · show m_X0_meet_47 F (t + 1) r (nI n) (nI (plT n w i)) (nI i) s2 = m_X0_meet_47 F t r (nI n) (nI (plT n w (i + 1))) (nI (i + 1)) _
      rw [m_X0_meet_47]; dsimp only
      rw [if_neg (nI_ge hi (by omega)), ldI_at (by omega) (by omega), g1, ldI_at (by omega) (by omega), g3, ldI_at (by omega) (by omega), g2, b_or, stI_at (by omega) (by omega), shiftOf_eq F (by omega), bd_some, b_shl _ (by omega), b_or, plT_s hn hw hi, nm_eq, nm_eq, nI_1]
  · rintro t ⟨a, s2⟩ ⟨b1, b2, b3⟩
    dsimp only at b1 b2 b3
    subst b1
    have hr := rv_lt24 (hw.iv.l8 hn)
    have g1 : gI s2 r 1 = nI L := by rw [(b3 r 1 (by omega)).1, (f1 r 1 (by omega)).1, h1]
    refine ⟨sI s2 r 1 (nI (if rv n (iv w) < L then rv n (iv w) else L)), ?_, ?_, ?_, gI_same _ _ _ _, fun p hp => ?_, ?_⟩
    · show m_X0_meet_47 F (t + 1) r (nI n) (nI (plT n w n)) (nI n) s2 = _
      rw [m_X0_meet_47]; dsimp only
      rw [if_pos (nI_le (Nat.le_refl _) (by omega)), plT_n hn hw, g1, nm_eq]
      by_cases q : rv n (iv w) < L
      · rw [if_pos q, if_pos (nI_lt q hL)]
      · rw [if_neg q, if_neg (nI_nlt (by omega) (by omega))]
    · rw [gI_sI, if_neg (by omega), (b3 r 0 (by omega)).1, (f1 r 0 (by omega)).1]
    · rw [gI_sI, if_neg (by omega), (b3 r 2 (by omega)).1]
      subst hs1
      rw [gI_same]
    · have := b2 p hp
      rw [if_pos hp] at this
      rw [gI_sI, if_neg (by omega), this]
    · exact ((f1.mono (fun q j z => by omega)).tr (b3.mono (fun q j z => by omega))).tr (Fr.sI (by omega))
theorem meet_eq (F : Nat) (hF : 8 < F) {r n : Nat} (hn : n ≤ 8) {M C w : Nat → Nat} {P : (Nat → Nat) → Prop} {s : zST} (hS : SumS r n M C P s) (hw : IsN n w) (hnP : ¬ P w) (hle : ∀ v, P v → (∀ u, P u → ec n M v ≤ ec n M u) → ec n M w ≤ ec n M v) (hv : ∀ x, x < n → gI s (r + 3) x = nI (w x)) (htw : ∀ v, v < n → gI s (r + 1) v = nI (twm n M C v)) : ∃ τ, m_X0_meet F r (nI n) (nI (ec n M w)) s = some τ ∧ SumS r n M C (fun v => P v ∨ v = w) τ ∧ Fr (fun q j => (q = r ∧ j ≤ 2) ∨ q = r + 4) s τ := by
  have he28 : ec n M w < 2 ^ 28 := eb_lt _ _
  have hr := rv_lt24 (hw.iv.l8 hn)
  -- a new least
  have fresh : (∀ v, P v → ec n M w < ec n M v) → (∃ E, E < 2 ^ 31 ∧ gI s r 0 = nI E ∧ ec n M w < E) → ∃ τ, m_X0_meet F r (nI n) (nI (ec n M w)) s = some τ ∧ SumS r n M C (fun v => P v ∨ v = w) τ ∧ Fr (fun q j => (q = r ∧ j ≤ 2) ∨ q = r + 4) s τ := by
    rintro hlt ⟨E, hE, hE0, hEl⟩
    generalize hs1 : wI (sI (sI (sI s r 0 (nI (ec n M w))) r 1 16777216) r 2 0) (r + 4) 8 (fun _ => 0) = s1
    have f1 : Fr (fun q j => (q = r ∧ j ≤ 2) ∨ q = r + 4) s s1 := by
      subst hs1
      exact (((Fr.sI (by omega)).tr (Fr.sI (by omega))).tr (Fr.sI (by omega))).tr (Fr.wI (fun j _ => by omega))
    obtain ⟨τ, e1, e2, e3, e4, e5, e6⟩ := meet32 F hF hn (M := M) (C := C) hw (s := s1) (fun x hx => by rw [(f1 (r + 3) x (by omega)).1, hv x hx]) (fun v hvn => by rw [(f1 (r + 1) v (by omega)).1, htw v hvn]) (k := 0) (L := 16777216) (m := fun _ => 0) (by subst hs1; rw [gI_wI, if_neg (by omega), gI_same]; rfl) (by subst hs1; rw [gI_wI, if_neg (by omega), gI_sI, if_neg (by omega), gI_same]; rfl) (by omega) (fun p hp => ⟨by omega, by subst hs1; rw [gI_wI, if_pos ⟨rfl, by omega⟩]; rfl⟩)
    have hset : ∀ v, ((P v ∨ v = w) ∧ ec n M v = ec n M w) ↔ v = w := fun v => by
      constructor
      · rintro ⟨h | h, e⟩
        · have := hlt v h; omega
        · exact h
      · rintro rfl; exact ⟨Or.inr rfl, rfl⟩
    refine ⟨τ, ?_, Or.inr ⟨w, Or.inr rfl, fun v hvv => ?_, ?_, ?_, ⟨w, (hset w).mpr rfl, ?_, fun v hvv e => ?_⟩, fun p hp => ⟨twm n M C (w p), twm_lt hn M C _, ?_, fun y => ?_⟩⟩, f1.tr (e6.mono (fun q j z => by omega))⟩
    · unfold m_X0_meet
      rw [hE0, if_neg (nI_ge hEl hE), nm_eq, nm_eq, nm_eq, fillI F (r + 4) hF, bv_some, hs1, e1]
    · rcases hvv with h | h
      · have := hlt v h; omega
      · rw [h]; exact Nat.le_refl _
    · rw [e2]
      subst hs1
      rw [gI_wI, if_neg (by omega), gI_sI, if_neg (by omega), gI_sI, if_neg (by omega), gI_same]
    · rw [e3, cd_cong (fun v _ => hset v), cd_one hw]
    · rw [e4, if_pos (by omega)]
    · rw [(hset v).mp ⟨hvv, e⟩]; exact Nat.le_refl _
    · rw [e5 p hp, Nat.zero_or]
    · rw [twm_bit]
      constructor
      · rintro ⟨q1, q2⟩; exact ⟨q1, w, (hset w).mpr rfl, q2⟩
      · rintro ⟨q1, v, q2, q3⟩
        rw [(hset v).mp q2] at q3
        exact ⟨q1, q3⟩
  rcases hS with ⟨a, b⟩ | ⟨w0, a1, a2, a3, a4, ⟨w1, b1, b2, b3⟩, c⟩
  · exact fresh (fun v hvv => absurd hvv (a v)) ⟨268435456, by omega, b, by omega⟩
  · have h0 := hle w0 a1 a2
    have he0 : ec n M w0 < 2 ^ 28 := eb_lt _ _
    by_cases hlt : ec n M w < ec n M w0
    · exact fresh (fun v hvv => by have := a2 v hvv; omega) ⟨_, by omega, a3, hlt⟩
    · have heq : ec n M w = ec n M w0 := by omega
      have hcm : ∃ m : Nat → Nat, ∀ p, p < n → m p < 256 ∧ gI s (r + 4) p = nI (m p) ∧ ∀ y, (m p).testBit y = true ↔ y < n ∧ ∃ w, (P w ∧ ec n M w = ec n M w0) ∧ Twn M C (w p) y := by
        refine ⟨fun p => if q : p < n then Classical.choose (c p q) else 0, fun p hp => ?_⟩
        have e : (fun p => if q : p < n then Classical.choose (c p q) else 0) p = Classical.choose (c p hp) := dif_pos hp
        rw [e]
        exact Classical.choose_spec (c p hp)
      obtain ⟨m, hm⟩ := hcm
      have hw1 : IsN n w1 ∨ True := Or.inr trivial
      by_cases hr1 : rv n (iv w1) < 2 ^ 31
      case neg =>
        -- a row's value is small
        exfalso
        exact hr1 (Nat.lt_of_lt_of_le (qk_lt (fun d _ => by
          unfold rvd
          split
          · rename_i q
            exact iv_lt (by omega)
          · omega)) (by decide))
      obtain ⟨τ, e1, e2, e3, e4, e5, e6⟩ := meet32 F hF hn (M := M) (C := C) hw (s := s) hv htw a4 b2 hr1 (fun p hp => ⟨(hm p hp).1, (hm p hp).2.1⟩)
      have hset : ∀ v, ((P v ∨ v = w) ∧ ec n M v = ec n M w0) ↔ ((P v ∧ ec n M v = ec n M w0) ∨ v = w) := fun v => by
        constructor
        · rintro ⟨h | h, e⟩
          · exact Or.inl ⟨h, e⟩
          · exact Or.inr h
        · rintro (⟨h, e⟩ | h)
          · exact ⟨Or.inl h, e⟩
          · exact ⟨Or.inr h, by rw [h, heq]⟩
      refine ⟨τ, ?_, Or.inr ⟨w0, Or.inl a1, fun v hvv => ?_, by rw [e2, a3], ?_, ?_, fun p hp => ?_⟩, e6.mono (fun q j z => by omega)⟩
      · unfold m_X0_meet
        rw [a3, if_pos (nI_le (by omega) (by omega)), e1]
      · rcases hvv with h | h
        · exact a2 v h
        · rw [h, heq]; exact Nat.le_refl _
      · rw [e3, cd_cong (fun v _ => hset v), cd_add hw (fun z => hnP z.1)]
      · by_cases q : rv n (iv w) < rv n (iv w1)
        · refine ⟨w, (hset w).mpr (Or.inr rfl), by rw [e4, if_pos q], fun v hvv e => ?_⟩
          rcases (hset v).mp ⟨hvv, e⟩ with h | h
          · have := b3 v h.1 h.2; omega
          · rw [h]; exact Nat.le_refl _
        · refine ⟨w1, (hset w1).mpr (Or.inl b1), by rw [e4, if_neg q], fun v hvv e => ?_⟩
          rcases (hset v).mp ⟨hvv, e⟩ with h | h
          · exact b3 v h.1 h.2
          · rw [h]; omega
      · refine ⟨m p ||| twm n M C (w p), or_lt (hm p hp).1 (twm_lt hn M C _), e5 p hp, fun y => ?_⟩
        rw [Nat.testBit_or, Bool.or_eq_true, (hm p hp).2.2 y, twm_bit]
        constructor
        · rintro (⟨q1, v, q2, q3⟩ | ⟨q1, q2⟩)
          · exact ⟨q1, v, (hset v).mpr (Or.inl q2), q3⟩
          · exact ⟨q1, w, (hset w).mpr (Or.inr rfl), q2⟩
        · rintro ⟨q1, v, q2, q3⟩
          rcases (hset v).mp q2 with h | h
          · exact Or.inl ⟨q1, v, h, q3⟩
          · rw [h] at q3
            exact Or.inr ⟨q1, q3⟩
end

