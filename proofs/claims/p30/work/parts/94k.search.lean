/-! MATHEMATICS, 52: what the search leaves; codes as numbers -/
section
theorem search_eq (F : Nat) (hF : 9 < F) {r p n : Nat} (hp : p + 2 < r) {M C : Nat → Nat} {σ : zST} (hG : Gr n M C) (hA : AN p n M C σ) : ∃ τ b, m_X0_search F r p σ = some τ ∧ Bst n M C b ∧ gI τ r 0 = nI (ec n M b) ∧ gI τ r 1 = nI (rv n (iv b)) ∧ gI τ r 2 = nI (cd n (fun w => Opt n M C w ∧ Tw n M C w)) ∧ (∀ v, v < n → gI τ (r + 1) v = nI (twm n M C v)) ∧ (∀ v, v < n → ∃ m, m < 256 ∧ gI τ (r + 4) (iv b v) = nI m ∧ ∀ y, m.testBit y = true ↔ y < n ∧ ∃ f, Iso n M C M C f ∧ f v = y) ∧ Fr (fun q _ => r ≤ q ∧ q ≤ r + 4) σ τ := by
  have h8 := hG.1.2
  have hC : ∀ v, v < 8 → C v < 8 := fun v hv => (hG.2 v hv).1
  obtain ⟨s1, e1, a1, f1⟩ := findTwins_eq F (by omega) hp hG hA
  have hA1 := hA.mv f1 (fun q j _ _ => by omega)
  obtain ⟨s2, e2, a2, f2⟩ := share_eq F (by omega) hp hG hA1 (fun x => x)
  have hA2 := hA1.mv f2 (fun q j _ _ => by omega)
  generalize hs3 : sI s2 r 0 268435456 = s3
  have f3 : Fr (fun q j => q = r ∧ j = 0) s2 s3 := by subst hs3; exact Fr.sI ⟨rfl, rfl⟩
  obtain ⟨τ, e4, hS, f4⟩ := arrange_eq F (by omega) hp hG n 0 9 (by omega) (by omega) (fun x => x) 0 (fun _ => False) s3 (hA2.mv f3 (fun q j _ _ => by omega)) (fun v hv => by rw [(f3 (r + 1) v (by omega)).1, (f2 (r + 1) v (by omega)).1, a1 v hv]) (fun x hx => absurd hx (by omega)) (fun x hx => absurd hx (by omega)) (fun j h1 h2 => by rw [(f3 (r + 2) _ (by omega)).1, a2 j h1 h2]) (fun b hb => by rw [Nat.zero_testBit] at hb; exact absurd hb (by decide)) (fun w' _ _ b _ hb => absurd hb (by omega)) (Or.inl ⟨fun _ h => h, by subst hs3; rw [gI_same]; rfl⟩) (fun _ h => absurd h id) (fun _ h => absurd h id)
  obtain ⟨b, hb⟩ := bst_ex n M C
  have hbt := bst_tw h8 hG hb
  have hbl := opt_lf h8 hG hb.1 hbt
  have hag : ∀ w', Agr 0 (fun x => x) w' := fun w' x hx => absurd hx (by omega)
  have hS := hS.cong (Q := Lf n M C) (fun w' => ⟨fun h => h.elim (fun z => absurd z id) (fun z => z.1), fun h => Or.inr ⟨h, hag w'⟩⟩)
  have f5 : Fr (fun q _ => r ≤ q ∧ q ≤ r + 4) σ τ := (((f1.mono (fun q j z => by omega)).tr (f2.mono (fun q j z => by omega))).tr (f3.mono (fun q j z => by omega))).tr (f4.mono (fun q j z => by unfold frA at z; omega))
  have hm : m_X0_search F r p σ = some τ := by
    unfold m_X0_search
    rw [e1, bv_some, e2, bv_some, nm_eq, hs3]
    have e4 : m_X0_arrange F 9 r p 0 0 s3 = some τ := by
      rw [nI_0] at e4
      exact e4
    rw [e4, bv_some]
  rcases hS with ⟨a, _⟩ | ⟨w0, b1, b2, b3, b4, ⟨w1, c1, c2, c3⟩, d1⟩
  · exact absurd hbl (a b)
  · have hmin : ec n M w0 = ec n M b := Nat.le_antisymm (b2 b hbl) (lf_le h8 hC b1 hb.1)
    have hset : ∀ w, (Lf n M C w ∧ ec n M w = ec n M w0) ↔ (Opt n M C w ∧ Tw n M C w) := fun w => by
      constructor
      · rintro ⟨h1, h2⟩
        exact ⟨lf_opt h8 hC h1 hb.1 (by rw [h2, hmin]; exact Nat.le_refl _), h1.2.2⟩
      · rintro ⟨h1, h2⟩
        exact ⟨opt_lf h8 hG h1 h2, by rw [opt_ec h1 hb.1, hmin]⟩
    have hw1 : rv n (iv w1) = rv n (iv b) := Nat.le_antisymm (c3 b hbl (by rw [hmin])) (hb.2 w1 ((hset w1).mp c1).1)
    refine ⟨τ, b, hm, hb, by rw [b3, hmin], by rw [c2, hw1], by rw [b4, cd_cong (fun w _ => hset w)], fun v hv => ?_, fun v hv => ?_, f5⟩
    · rw [(f4 (r + 1) v (by unfold frA; omega)).1, (f3 (r + 1) v (by omega)).1, (f2 (r + 1) v (by omega)).1, a1 v hv]
    · obtain ⟨m, m1, m2, m3⟩ := d1 _ (hb.1.1.iv.lt h8 hv)
      refine ⟨m, m1, m2, fun y => ?_⟩
      rw [m3 y]
      constructor
      · rintro ⟨h1, w, h2, h3⟩
        exact ⟨h1, (seen_orbit h8 hG hb.1 hv h1).mp ⟨w, (hset w).mp h2, h3⟩⟩
      · rintro ⟨h1, h2⟩
        obtain ⟨w, h3, h4⟩ := (seen_orbit h8 hG hb.1 hv h1).mpr h2
        exact ⟨h1, w, (hset w).mpr h3, h4⟩
theorem rv_b {n : Nat} (hn : n ≤ 8) {f : Nat → Nat} (hf : ∀ i, i < n → f i < 8) {i : Nat} (hi : i < n) : jshr (nI (rv n f)) (nI (3 * (7 - i))) &&& 7 = nI (f i) := by
  have hlt := rv_lt24 hf
  have hd := rv_digit hn hf hi
  have e : (8 : Nat) ^ (7 - i) = 2 ^ (3 * (7 - i)) := by rw [show (8 : Nat) = 2 ^ 3 from rfl, ← Nat.pow_mul]
  rw [b_shr (by omega) (by omega), l7, b_and, ← e]
  congr 1
  have := Nat.and_two_pow_sub_one_eq_mod (rv n f / 8 ^ (7 - i)) 3
  rw [show (2 : Nat) ^ 3 - 1 = 7 from rfl, show (2 : Nat) ^ 3 = 8 from rfl] at this
  omega
theorem bestPlace_eq (F : Nat) {r n : Nat} (hn : n ≤ 8) {b : Nat → Nat} (hb : IsN n b) {τ : zST} (h1 : gI τ r 1 = nI (rv n (iv b))) {v : Nat} (hv : v < n) : m_X0_bestPlace F r (nI v) τ = some (nI (iv b v), τ) := by
  unfold m_X0_bestPlace
  rw [shiftOf_eq F (by omega), bd_some, h1, rv_b hn (hb.iv.l8 hn) hv]
/-- digits set one after the other, by vertices -/
def dgT (n : Nat) (u f : Nat → Nat) (i : Nat) : Nat := qk (fun d => if 7 - d < n ∧ u (7 - d) < i then f (7 - d) else 0) 8
theorem dgT_lt {n : Nat} {u f : Nat → Nat} (hf : ∀ i, i < n → f i < 8) (i : Nat) : dgT n u f i < 2 ^ 24 := qk_lt (fun d _ => by
  show (if 7 - d < n ∧ u (7 - d) < i then f (7 - d) else 0) < 8
  split
  · rename_i h; exact hf _ h.1
  · omega)
theorem dgT_s {n : Nat} (hn : n ≤ 8) {u f : Nat → Nat} (hu : IsN n u) (hf : ∀ i, i < n → f i < 8) {i : Nat} (hi : i < n) : dgT n u f i ||| f (iv u i) * 2 ^ (3 * (7 - iv u i)) = dgT n u f (i + 1) := by
  have hwi := hu.iv.lt hn hi
  unfold dgT
  have h0 : (fun d => if 7 - d < n ∧ u (7 - d) < i then f (7 - d) else 0) (7 - iv u i) = 0 := by
    show (if 7 - (7 - iv u i) < n ∧ u (7 - (7 - iv u i)) < i then f (7 - (7 - iv u i)) else 0) = 0
    rw [show 7 - (7 - iv u i) = iv u i from by omega, iv_r hu.1, if_neg (by omega)]
  rw [qk_set (fun d _ => by
    show (if 7 - d < n ∧ u (7 - d) < i then f (7 - d) else 0) < 8
    split
    · rename_i h; exact hf _ h.1
    · omega) (show 7 - iv u i < 8 by omega) (hf _ hwi) h0]
  refine qk_cong (fun d hd => ?_)
  show (if d = 7 - iv u i then f (iv u i) else if 7 - d < n ∧ u (7 - d) < i then f (7 - d) else 0) = (if 7 - d < n ∧ u (7 - d) < i + 1 then f (7 - d) else 0)
  by_cases e : d = 7 - iv u i
  · rw [if_pos e, e, show 7 - (7 - iv u i) = iv u i from by omega, iv_r hu.1, if_pos ⟨hwi, by omega⟩]
  · rw [if_neg e]
    have hne : u (7 - d) ≠ i := fun z => by
      have := iv_l hu.1 (i := 7 - d)
      rw [z] at this
      omega
    by_cases q : 7 - d < n ∧ u (7 - d) < i
    · rw [if_pos q, if_pos ⟨q.1, by omega⟩]
    · rw [if_neg q, if_neg (fun z => q ⟨z.1, by omega⟩)]
theorem dgT_n {n : Nat} (hn : n ≤ 8) {u f : Nat → Nat} (hu : IsN n u) : dgT n u f n = rv n f := by
  refine qk_cong (fun d hd => ?_)
  show (if 7 - d < n ∧ u (7 - d) < n then f (7 - d) else 0) = (if 7 - d < n then f (7 - d) else 0)
  by_cases q : 7 - d < n
  · rw [if_pos q, if_pos ⟨q, hu.lt hn q⟩]
  · rw [if_neg q, if_neg (fun z => q z.1)]
theorem dgT_0 {n : Nat} {u f : Nat → Nat} : dgT n u f 0 = 0 := by
  have : dgT n u f 0 = qk (fun _ => 0) 8 := qk_cong (fun d _ => by
    rw [if_neg (by omega)])
  rw [this]
  rfl
/-- size, colours, edges in one number -/
def pk5 (n c e : Nat) : Nat := 2 ^ 28 * (2 ^ 24 * n + c) + e
theorem pk5_bit {n c e : Nat} (hc : c < 2 ^ 24) (he : e < 2 ^ 28) (j : Nat) : (pk5 n c e).testBit j = if j < 28 then e.testBit j else if j - 28 < 24 then c.testBit (j - 28) else n.testBit (j - 28 - 24) := by
  unfold pk5
  rw [Nat.testBit_two_pow_mul_add _ he, Nat.testBit_two_pow_mul_add _ hc]
theorem pk5_of {n c e : Nat} (hc : c < 2 ^ 24) (he : e < 2 ^ 28) : (n * 2 ^ 52 ||| c * 2 ^ 28) ||| e = pk5 n c e := by
  apply Nat.eq_of_testBit_eq
  intro j
  rw [pk5_bit hc he, Nat.testBit_or, Nat.testBit_or, Nat.testBit_mul_two_pow, Nat.testBit_mul_two_pow]
  by_cases h1 : j < 28
  · rw [if_pos h1, decide_eq_false (by omega), decide_eq_false (by omega)]; simp
  · rw [if_neg h1]
    have e0 : e.testBit j = false := Nat.testBit_lt_two_pow (Nat.lt_of_lt_of_le he (Nat.pow_le_pow_right (by omega) (by omega)))
    rw [e0, Bool.or_false, decide_eq_true (show 28 ≤ j by omega), Bool.true_and]
    by_cases h2 : j - 28 < 24
    · rw [if_pos h2, decide_eq_false (show ¬ 52 ≤ j by omega), Bool.false_and, Bool.false_or]
    · rw [if_neg h2, decide_eq_true (show 52 ≤ j by omega), Bool.true_and, show j - 28 - 24 = j - 52 from by omega]
      have c0 : c.testBit (j - 28) = false := Nat.testBit_lt_two_pow (Nat.lt_of_lt_of_le hc (Nat.pow_le_pow_right (by omega) (by omega)))
      rw [c0, Bool.or_false]
theorem pk5_or {n c e x v : Nat} (hc : c < 2 ^ 24) (he : e < 2 ^ 28) (hx : x < 8) (hv : v < 8) (hc' : c ||| v * 2 ^ (3 * x) < 2 ^ 24) : pk5 n c e ||| v * 2 ^ (28 + 3 * x) = pk5 n (c ||| v * 2 ^ (3 * x)) e := by
  apply Nat.eq_of_testBit_eq
  intro j
  rw [Nat.testBit_or, pk5_bit hc he, pk5_bit hc' he, Nat.testBit_mul_two_pow, Nat.testBit_or, Nat.testBit_mul_two_pow]
  by_cases h1 : j < 28
  · rw [if_pos h1, if_pos h1, decide_eq_false (by omega), Bool.false_and, Bool.or_false]
  · rw [if_neg h1, if_neg h1]
    by_cases h2 : j - 28 < 24
    · rw [if_pos h2, if_pos h2]
      congr 1
      by_cases h3 : 3 * x ≤ j - 28
      · rw [decide_eq_true h3, decide_eq_true (show 28 + 3 * x ≤ j by omega), show j - (28 + 3 * x) = j - 28 - 3 * x from by omega]
      · rw [decide_eq_false h3, decide_eq_false (show ¬ 28 + 3 * x ≤ j by omega)]; rfl
    · rw [if_neg h2, if_neg h2]
      have v0 : v.testBit (j - (28 + 3 * x)) = false := Nat.testBit_lt_two_pow (Nat.lt_of_lt_of_le hv (Nat.pow_le_pow_right (n := 2) (i := 3) (by omega) (by omega)))
      rw [v0, Bool.and_false, Bool.or_false]
theorem pk5_lt {n c e : Nat} (hn : n ≤ 8) (hc : c < 2 ^ 24) (he : e < 2 ^ 28) : pk5 n c e < 2 ^ 63 := by
  unfold pk5
  omega
theorem pk5_cod (n : Nat) (M C w : Nat → Nat) : pk5 n (cw n C w) (ec n M w) = 2 ^ 52 * n + cod n M C w := by
  unfold pk5 cod
  omega
theorem leastCode_eq (F : Nat) (hF : 8 < F) {r p n : Nat} {M C b : Nat → Nat} (hG : Gr n M C) {τ : zST} (hA : AN p n M C τ) (hb : IsN n b) (h0 : gI τ r 0 = nI (ec n M b)) (h1 : gI τ r 1 = nI (rv n (iv b))) : m_X0_leastCode F r p τ = some (lN (pk5 n (cw n C b) (ec n M b)), τ) := by
  have h8 := hG.1.2
  have he : ec n M b < 2 ^ 28 := eb_lt _ _
  have hC : ∀ i, i < n → (fun i => C (b i)) i < 8 := fun i hi => (hG.2 (b i) (by have := hb.lt h8 hi; omega)).1
  unfold m_X0_leastCode
  rw [hA.1, h0, nI_l (by omega), nI_l (by omega), show (52 : Int32) = nI 52 from rfl, L_shl _ (by omega), L_or, nm_eq]
  have e0 : n * 2 ^ 52 ||| ec n M b = pk5 n (dgT n b (fun i => C (b i)) 0) (ec n M b) := by
    rw [dgT_0, ← pk5_of (by omega) he, Nat.zero_mul, Nat.or_zero]
  rw [e0]
  refine up_loop0 (fun m (i : Int32) (a : Int64) => m_X0_leastCode_18 F m r p a i τ) n (fun i => lN (pk5 n (dgT n b (fun i => C (b i)) i) (ec n M b))) _ (fun m i hi => ?_) (fun m => ?_) (show n < F by omega)
  · show m_X0_leastCode_18 F (m + 1) r p (lN (pk5 n (dgT n b (fun i => C (b i)) i) (ec n M b))) (nI i) τ = m_X0_leastCode_18 F m r p (lN (pk5 n (dgT n b (fun i => C (b i)) (i + 1)) (ec n M b))) (nI (i + 1)) τ
    have hbi := hb.iv.lt h8 hi
    have hcc := (hG.2 i (by omega)).1
    have e1 := dgT_s h8 hb (f := fun i => C (b i)) hC hi
    have e2 : C (b (iv b i)) = C i := by rw [iv_r hb.1]
    rw [e2] at e1
    have e3 := dgT_lt (u := b) hC (i + 1)
    rw [m_X0_leastCode_18]; dsimp only
    rw [hA.1, if_neg (nI_ge hi (by omega)), bestPlace_eq F h8 hb h1 hi, bd_some, shiftOf_eq F (by omega), bd_some, l28, nI_add, nm_eq, ldI_at (by omega) (by omega), (hA.2 i (by omega)).2, nI_l (by omega), L_shl _ (by omega), L_or, pk5_or (dgT_lt hC i) he (by omega) hcc (by rw [e1]; exact e3), e1, nm_eq, nm_eq, nI_1]
  · show m_X0_leastCode_18 F (m + 1) r p _ (nI n) τ = _
    rw [m_X0_leastCode_18]; dsimp only
    rw [hA.1, if_pos (nI_le (Nat.le_refl _) (by omega)), dgT_n h8 hb]
    rfl
/-- the code of the best arrangement; the class's answer -/
theorem clcode_eq (F : Nat) (hF : 9 < F) {p n : Nat} (hp : p + 2 < 21) {M C : Nat → Nat} {σ : zST} (hG : Gr n M C) (hA : AN p n M C σ) : ∃ τ b, m_X7_leastCode F 0 p σ = some (lN (2 ^ 52 * n + cod n M C b), τ) ∧ Bst n M C b ∧ Fr (fun q _ => 21 ≤ q ∧ q ≤ 25) σ τ := by
  obtain ⟨τ, b, e1, e2, e3, e4, _, _, _, e5⟩ := search_eq F hF (r := 21) hp hG hA
  refine ⟨τ, b, ?_, e2, e5⟩
  unfold m_X7_leastCode
  show bv (m_X0_search F 21 p σ) (fun s2 => bd (m_X0_leastCode F 21 p s2) fun (x4 : Int64) s5 => some (x4, s5)) = _
  rw [e1, bv_some, leastCode_eq F (by omega) hG (hA.mv e5 (fun q j _ _ => by omega)) e2.1.1 e3 e4, bd_some, pk5_cod]
theorem code_lt {n : Nat} (hn : n ≤ 8) {M C w : Nat → Nat} (hw : IsN n w) (hC : ∀ v, v < 8 → C v < 8) : 2 ^ 52 * n + cod n M C w < 2 ^ 63 := by
  rw [← pk5_cod]
  exact pk5_lt hn (rv_lt24 (fun i hi => hC _ (by have := hw.lt hn hi; omega))) (eb_lt _ _)
theorem tws_mask {n : Nat} (hn : n ≤ 8) {M C : Nat → Nat} {v : Nat} (hv : v < n) : pop (twm n M C v &&& (2 ^ (v + 1) - 1)) = tws M C v + 1 := by
  have e : twm n M C v &&& (2 ^ (v + 1) - 1) = msk (fun y => dc (Twn M C v y)) (v + 1) := by
    apply Nat.eq_of_testBit_eq
    intro y
    unfold twm
    rw [Nat.testBit_and, msk_bit, msk_bit, Nat.testBit_two_pow_sub_one]
    by_cases h : y < v + 1
    · rw [decide_eq_true h, decide_eq_true (show y < n by omega)]; simp
    · rw [decide_eq_false h]; simp
  rw [e, msk_pop (by omega), cnt_s, dc_yes (Twn.rf M C v)]
  show cnt _ v + 1 = _
  congr 1
  unfold tws
  refine cnt_cong (fun y _ => ?_)
  exact dc_cong ⟨fun h => h.sy, fun h => h.sy⟩
theorem countBest_eq (F : Nat) (hF : 8 < F) {r n : Nat} {M C : Nat → Nat} (hG : Gr n M C) {τ : zST} (h2 : gI τ r 2 = nI (cd n (fun w => Opt n M C w ∧ Tw n M C w))) (ht : ∀ v, v < n → gI τ (r + 1) v = nI (twm n M C v)) : m_X0_countBest F r (nI n) τ = some (nI (cd n (Iso n M C M C)), τ) := by
  have h8 := hG.1.2
  unfold m_X0_countBest
  rw [h2, nm_eq]
  have := up_loop0 (fun m (i : Int32) (a : Int32) => m_X0_countBest_7 F m r (nI n) a i τ) n (fun i => nI (cd n (fun w => Opt n M C w ∧ Tw n M C w) * prT M C i)) (some (nI (cd n (Iso n M C M C)), τ)) (fun m i hi => ?_) (fun m => ?_) (show n < F by omega)
  · rw [prT, Nat.mul_one] at this
    exact this
  · show m_X0_countBest_7 F (m + 1) r (nI n) (nI _) (nI i) τ = m_X0_countBest_7 F m r (nI n) (nI _) (nI (i + 1)) τ
    have ha : twm n M C i &&& (2 ^ (i + 1) - 1) < 256 := Nat.lt_of_le_of_lt Nat.and_le_left (twm_lt h8 M C i)
    rw [m_X0_countBest_7]; dsimp only
    rw [if_neg (nI_ge hi (by omega)), ldI_at (by omega) (by omega), ht i hi, nI_1, below_eq F (by omega), bd_some, b_and, bitCount_eq F ha, bd_some, tws_mask h8 hi, pk_mul, nm_eq, nm_eq, Nat.mul_assoc]
    rfl
  · show m_X0_countBest_7 F (m + 1) r (nI n) (nI _) (nI n) τ = _
    rw [m_X0_countBest_7]; dsimp only
    rw [if_pos (nI_le (Nat.le_refl _) (by omega)), aut_count h8 hG, Nat.mul_comm]
end

