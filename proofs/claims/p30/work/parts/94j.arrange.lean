/-! MATHEMATICS, 51: the class's search -/
section
theorem twn_sg {n : Nat} (hn : n ≤ 8) {M C w : Nat → Nat} (hG : Gr n M C) {i t v : Nat} (hP : Pf n M C w i) (ht : t < n) (hv : v < n) (ht1 : nous w i t = true) (hv1 : nous w i v = true) (h : Twn M C t v) : sg M C w i t = sg M C w i v := by
  rw [sg_eq]
  refine ⟨h.1, fun x hx => ?_⟩
  have hwx := (hP x hx).1
  rw [hG.sy (u := w x) (v := t) (by omega) (by omega), hG.sy (u := w x) (v := v) (by omega) (by omega)]
  exact h.2 (w x) ((nous_iff w i t).mp ht1 x hx) ((nous_iff w i v).mp hv1 x hx)
theorem LEB_lo : ∀ i, i < 8 → ∀ b, b < LEB i → i < PI b := by decide +kernel
theorem LEB_hi : ∀ b, b < 28 → ∀ i, i < 8 → LEB i ≤ b → PI b ≤ i := by decide +kernel
theorem LEB_lt : ∀ i, i < 8 → LEB i < 22 := by decide +kernel
theorem zTb_eq : ∀ i, i < 8 → zTb i = nI (LEB i) := by decide +kernel
theorem ec_bit (n : Nat) (M w : Nat → Nat) (b : Nat) : (ec n M w).testBit b = true ↔ b < 28 ∧ PJ b < n ∧ (M (w (PI b))).testBit (w (PJ b)) = true := by
  unfold ec eb
  rw [bn_bit, Bool.and_eq_true, decide_eq_true_iff]
  unfold ebd
  rw [Bool.and_eq_true, decide_eq_true_iff]
/-- the test of a candidate -/
theorem cand_iff {n : Nat} (hn : n ≤ 8) {M C w : Nat → Nat} (hG : Gr n M C) {i v : Nat} (hP : Pf n M C w i) (hv : v < n) : (msk (inK n M C w i i) n &&& twm n M C v) &&& (2 ^ (v + 1) - 1) = 2 ^ v ↔ Cd n M C w i v := by
  have bit : ∀ y, ((msk (inK n M C w i i) n &&& twm n M C v) &&& (2 ^ (v + 1) - 1)).testBit y = true ↔ ((y < n ∧ inK n M C w i i y = true) ∧ Twn M C v y) ∧ y < v + 1 := by
    intro y
    rw [Nat.testBit_and, Nat.testBit_and, Bool.and_eq_true, Bool.and_eq_true, msk_bit, Bool.and_eq_true, decide_eq_true_iff, twm_bit, Nat.testBit_two_pow_sub_one, decide_eq_true_iff]
    constructor
    · rintro ⟨⟨⟨a, b⟩, _, c⟩, d⟩; exact ⟨⟨⟨a, b⟩, c⟩, d⟩
    · rintro ⟨⟨⟨a, b⟩, c⟩, d⟩; exact ⟨⟨⟨a, b⟩, a, c⟩, d⟩
  constructor
  · intro h
    have hb : ∀ y, ((y < n ∧ inK n M C w i i y = true) ∧ Twn M C v y) ∧ y < v + 1 ↔ v = y := fun y => by
      rw [← bit y, h, Nat.testBit_two_pow, decide_eq_true_iff]
    have h1 := ((hb v).mpr rfl).1.1.2
    obtain ⟨a, b⟩ := (inK_first hv).mp h1
    refine ⟨hv, a, b, fun t ht hn1 htw => ?_⟩
    have htn : t < n := by omega
    have hs := twn_sg hn hG hP htn hv hn1 a htw
    have := (hb t).mp ⟨⟨⟨htn, inK_of h1 hn1 hs⟩, htw.sy⟩, by omega⟩
    omega
  · rintro ⟨_, a, b, c⟩
    apply Nat.eq_of_testBit_eq
    intro y
    rw [Bool.eq_iff_iff, bit y, Nat.testBit_two_pow, decide_eq_true_iff]
    constructor
    · rintro ⟨⟨⟨h1, h2⟩, h3⟩, h4⟩
      apply Classical.byContradiction
      intro z
      exact c y (by omega) (inK_iff.mp h2).1 h3.sy
    · rintro rfl
      exact ⟨⟨⟨hv, (inK_first hv).mpr ⟨a, b⟩⟩, Twn.rf M C v⟩, by omega⟩
/-- a row's bits are the edges of each leaf below -/
theorem nrb_leaf {n : Nat} (hn : n ≤ 8) {M C w w' : Nat → Nat} {i j : Nat} (hL : Lf n M C w') (ha : Agr (i + 1) w w') (hij : i < j) (hj : j < n) : nrb n M C w i j = (M (w' i)).testBit (w' j) := by
  have e : nrb n M C w i j = nrb n M C w' i j := by
    unfold nrb
    refine dc_cong ?_
    rw [ha i (by omega)]
    constructor
    · rintro ⟨x, h1, h2, h3⟩
      exact ⟨x, h1, by rw [← inK_cong (w := w) (w' := w') (fun y hy => (ha y hy).symm)]; exact h2, h3⟩
    · rintro ⟨x, h1, h2, h3⟩
      exact ⟨x, h1, by rw [inK_cong (w := w) (w' := w') (fun y hy => (ha y hy).symm)]; exact h2, h3⟩
  rw [e]
  obtain ⟨b1, b2, b3⟩ := row_bit hn hL hij hj
  have hin := (inK_next (lf_cd hn hL (show i < n by omega)) (hL.1.lt hn hj) hij).mpr ⟨⟨b1, b2⟩, b3⟩
  unfold nrb
  rw [Bool.eq_iff_iff, dc_iff]
  constructor
  · rintro ⟨x, h1, h2, h3⟩
    have h4 := (inK_next (lf_cd hn hL (show i < n by omega)) h1 hij).mp h2
    rw [inK_sg h4.1.1 b1] at h4
    exact b3.mpr (h4.2.mp h3)
  · intro h
    exact ⟨w' j, hL.1.lt hn hj, hin, h⟩
def frA (r i q j : Nat) : Prop := (q = r ∧ j ≤ 2) ∨ q = r + 4 ∨ (q = r + 2 ∧ 8 * i + 8 ≤ j) ∨ (q = r + 3 ∧ i ≤ j)
theorem div_lt_of {a b k : Nat} (h : a / 2 ^ k < b / 2 ^ k) : a < b := by
  apply Classical.byContradiction
  intro z
  have := Nat.div_le_div_right (c := 2 ^ k) (show b ≤ a by omega)
  omega
theorem arrange_eq (F : Nat) (hF : 8 < F) {r p n : Nat} (hp : p + 2 < r) {M C : Nat → Nat} (hG : Gr n M C) : ∀ (d i g : Nat), i + d = n → d < g → ∀ (w : Nat → Nat) (e : Nat) (P : (Nat → Nat) → Prop) (σ : zST), AN p n M C σ → (∀ v, v < n → gI σ (r + 1) v = nI (twm n M C v)) → (∀ x, x < i → gI σ (r + 3) x = nI (w x)) → Pf n M C w i → KRow r n M C w i σ → (∀ b, e.testBit b = true → b < 28 ∧ PI b < i) → (∀ w', Lf n M C w' → Agr i w w' → ∀ b, b < 28 → PI b < i → e.testBit b = (ec n M w').testBit b) → SumS r n M C P σ → (∀ w', P w' → ¬ Agr i w w') → (∀ v, P v → (∀ u, P u → ec n M v ≤ ec n M u) → e / 2 ^ LEB (i - 1) ≤ ec n M v / 2 ^ LEB (i - 1)) → ∃ τ, m_X0_arrange F g r p (nI i) (nI e) σ = some τ ∧ SumS r n M C (fun w' => P w' ∨ (Lf n M C w' ∧ Agr i w w')) τ ∧ Fr (frA r i) σ τ := by
  have h8 := hG.1.2
  have h1n := hG.1.1
  intro d
  induction d with
  | zero =>
    intro i g hi hg w e P σ hA htw hv hP hK heb hec hS hdis hpr
    obtain ⟨g, rfl⟩ : ∃ k, g = k + 1 := ⟨g - 1, by omega⟩
    have : i = n := by omega
    subst this
    have hfl := ful_lf h8 hP
    have hfa : Agr i w (ful i w) := fun x hx => if_pos hx
    have hee : e = ec i M (ful i w) := by
      apply Nat.eq_of_testBit_eq
      intro b
      by_cases hb : b < 28 ∧ PI b < i
      · exact hec _ hfl hfa b hb.1 hb.2
      · have h1 : e.testBit b = false := by
          cases q : e.testBit b
          · rfl
          · exact absurd (heb b q) hb
        have h2 : (ec i M (ful i w)).testBit b = false := by
          cases q : (ec i M (ful i w)).testBit b
          · rfl
          · obtain ⟨a1, a2, _⟩ := (ec_bit _ _ _ _).mp q
            have := (pb_in b a1).1
            exact absurd ⟨a1, by omega⟩ hb
        rw [h1, h2]
    have hlow : ec i M (ful i w) % 2 ^ LEB (i - 1) = 0 := by
      apply Nat.eq_of_testBit_eq
      intro b
      rw [Nat.testBit_mod_two_pow, Nat.zero_testBit]
      by_cases hb : b < LEB (i - 1)
      · have h1 := LEB_lo (i - 1) (by omega) b hb
        cases q : (ec i M (ful i w)).testBit b
        · rw [Bool.and_false]
        · obtain ⟨a1, a2, _⟩ := (ec_bit _ _ _ _).mp q
          have := (pb_in b a1).1
          omega
      · rw [decide_eq_false hb, Bool.false_and]
    obtain ⟨τ, e1, e2, e3⟩ := meet_eq F hF h8 (w := ful i w) hS hfl.1 (fun z => hdis _ z hfa) (fun v hv1 hv2 => by
      have h1 := hpr v hv1 hv2
      rw [hee] at h1
      have h2 := Nat.div_add_mod (ec i M (ful i w)) (2 ^ LEB (i - 1))
      rw [hlow] at h2
      have h3 := Nat.div_mul_le_self (ec i M v) (2 ^ LEB (i - 1))
      have h4 := Nat.mul_le_mul_right (2 ^ LEB (i - 1)) h1
      rw [Nat.mul_comm] at h2
      omega) (fun x hx => by rw [hv x hx]; unfold ful; rw [if_pos hx]) htw
    refine ⟨τ, ?_, e2.cong (fun v => ?_), e3.mono (fun q j z => by unfold frA; omega)⟩
    · rw [m_X0_arrange]; dsimp only
      unfold m_X0_arrange_0 m_X0_arrange_14
      rw [hA.1, if_pos (nI_le (Nat.le_refl _) (by omega)), hee, e1, bv_some]
    · constructor
      · rintro (h | h)
        · exact Or.inl h
        · exact Or.inr (by rw [h]; exact ⟨hfl, hfa⟩)
      · rintro (h | ⟨h1, h2⟩)
        · exact Or.inl h
        · exact Or.inr (agr_ful h1.1 h2)
  | succ d ih =>
    intro i g hi hg w e P σ hA htw hv hP hK heb hec hS hdis hpr
    obtain ⟨g, rfl⟩ : ∃ k, g = k + 1 := ⟨g - 1, by omega⟩
    have hin : i < n := by omega
    have hlb := LEB_lt i (by omega)
    have he28 : e < 2 ^ 28 := Nat.lt_pow_two_of_testBit _ (fun b hb => by
      cases q : e.testBit b
      · rfl
      · have := (heb b q).1; omega)
    have hml : msk (inK n M C w i i) n < 256 := Nat.lt_of_lt_of_le (msk_lt _ n) (pow8 h8)
    have key := up_inv0 (fun m (v : Int32) (s : zST) => m_X0_arrange_47 F (m_X0_arrange F g) m r p (nI i) (nI e) (nI (msk (inK n M C w i i) n)) (nI (LEB i)) v s) n
      (fun v s => SumS r n M C (fun w' => P w' ∨ ((Lf n M C w' ∧ Agr i w w') ∧ w' i < v)) s ∧ Fr (frA r i) σ s)
      (fun o => ∃ τ, o = some τ ∧ SumS r n M C (fun w' => P w' ∨ (Lf n M C w' ∧ Agr i w w')) τ ∧ Fr (frA r i) σ τ) ?_ ?_ (show n < F by omega) (s := σ) ⟨hS.cong (fun v => ⟨Or.inl, fun h => h.elim id (fun z => absurd z.2 (by omega))⟩), Fr.rf⟩
    · obtain ⟨τ, k1, k2, k3⟩ := key
      refine ⟨τ, ?_, k2, k3⟩
      rw [m_X0_arrange]; dsimp only
      unfold m_X0_arrange_0
      rw [hA.1, if_neg (nI_ge hin (by omega)), l7, if_pos (nI_le (by omega) (by omega)), l8, pk_mul, nI_add, ldI_at (by omega) (by omega), show i * 8 + i = 8 * i + i from by omega, hK i (Nat.le_refl _) hin, ldT_at (by omega) (by omega), zTb_eq i (by omega)]
      exact k1
    · rintro m v s hvn ⟨hs, hf⟩
      have hAs := hA.mv hf (fun q j _ _ => by unfold frA; omega)
      have htws : ∀ v, v < n → gI s (r + 1) v = nI (twm n M C v) := fun v hv => by rw [(hf (r + 1) v (by unfold frA; omega)).1, htw v hv]
      have hvs : ∀ x, x < i → gI s (r + 3) x = nI (w x) := fun x hx => by rw [(hf (r + 3) x (by unfold frA; omega)).1, hv x hx]
      have hKs : KRow r n M C w i s := fun j h1 h2 => by rw [(hf (r + 2) _ (by unfold frA; omega)).1, hK j h1 h2]
      have htl := twm_lt h8 M C v
      have hcl : (msk (inK n M C w i i) n &&& twm n M C v) &&& (2 ^ (v + 1) - 1) < 2 ^ 31 := Nat.lt_of_le_of_lt (Nat.le_trans Nat.and_le_left Nat.and_le_left) (by omega)
      have hvp : 2 ^ v < 256 := Nat.pow_lt_pow_right (n := 8) (by omega) (by omega)
      have hcond : (nI (msk (inK n M C w i i) n) &&& nI (twm n M C v)) &&& nI (2 ^ (v + 1) - 1) = jshl 1 (nI v) ↔ Cd n M C w i v := by
        rw [shl1 (by omega), b_and, b_and, nI_eq hcl (by omega)]
        exact cand_iff h8 hG hP hvn
      by_cases hc : Cd n M C w i v
      case neg =>
        refine ⟨s, ⟨hs.cong (fun w' => ?_), hf⟩, ?_⟩
        · constructor
          · rintro (h | ⟨h1, h2⟩)
            · exact Or.inl h
            · exact Or.inr ⟨h1, by omega⟩
          · rintro (h | ⟨h1, h2⟩)
            · exact Or.inl h
            · refine Or.inr ⟨h1, ?_⟩
              have : w' i ≠ v := fun z => hc (by
                have := lf_cd h8 h1.1 hin
                rw [z] at this
                exact this.cong (fun x hx => h1.2 x hx))
              omega
        · show m_X0_arrange_47 F (m_X0_arrange F g) (m + 1) r p (nI i) (nI e) (nI (msk (inK n M C w i i) n)) (nI (LEB i)) (nI v) s = _
          rw [m_X0_arrange_47]; dsimp only
          unfold m_X0_arrange_129
          rw [hAs.1, if_neg (nI_ge hvn (by omega)), ldI_at (by omega) (by omega), htws v hvn, nI_1, below_eq F (by omega), bd_some, if_neg (fun z => hc (hcond.mp z)), nm_eq]
      case pos =>
        generalize hw1 : (fun x => if x = i then v else w x) = w1
        have w1i : w1 i = v := by subst hw1; exact if_pos rfl
        have w1l : ∀ x, x < i → w1 x = w x := fun x hx => by subst hw1; exact if_neg (by omega)
        have hP1 : Pf n M C w1 (i + 1) := by
          intro x hx
          by_cases z : x = i
          · rw [z, w1i]
            exact hc.cong (fun y hy => (w1l y hy).symm)
          · rw [w1l x (by omega)]
            exact (hP x (by omega)).cong (fun y hy => (w1l y (by omega)).symm)
        have hagr : ∀ w', Agr (i + 1) w1 w' ↔ Agr i w w' ∧ w' i = v := fun w' => by
          constructor
          · intro h
            exact ⟨fun x hx => by rw [h x (by omega), w1l x hx], by rw [h i (by omega), w1i]⟩
          · rintro ⟨h1, h2⟩ x hx
            by_cases z : x = i
            · rw [z, h2, w1i]
            · rw [h1 x (by omega), w1l x (by omega)]
        generalize hs1 : sI s (r + 3) i (nI v) = s1
        have f1 : Fr (fun q j => q = r + 3 ∧ j = i) s s1 := by subst hs1; exact Fr.sI ⟨rfl, rfl⟩
        have hA1 := hAs.mv f1 (fun q j _ _ => by omega)
        have hK1 : KRow r n M C w1 i s1 := fun j h1 h2 => by
          rw [(f1 (r + 2) _ (by omega)).1, hKs j h1 h2]
          have e0 : inK n M C w i j = inK n M C w1 i j := by
            funext y
            exact inK_cong (fun x hx => (w1l x hx).symm)
          rw [e0]
        obtain ⟨E, s2, d1, d2, d3, d4, d5⟩ := split_eq F hF hp hG hA1 hin hP1 hK1
        rw [w1i] at d1
        -- the bits so far
        have hEb : ∀ b, (E * 2 ^ LEB i).testBit b = true ↔ ∃ j, i < j ∧ j < n ∧ b = pb i j ∧ nrb n M C w1 i j = true := fun b => by
          rw [Nat.testBit_mul_two_pow, Bool.and_eq_true, decide_eq_true_iff, d4]
          constructor
          · rintro ⟨h1, j, h2, h3, h4, h5⟩
            exact ⟨j, h2, h3, by unfold pb; omega, h5⟩
          · rintro ⟨j, h2, h3, h4, h5⟩
            unfold pb at h4
            exact ⟨by omega, j, h2, h3, by omega, h5⟩
        generalize hmo : e ||| E * 2 ^ LEB i = more
        have hmb : ∀ b, more.testBit b = true ↔ e.testBit b = true ∨ ∃ j, i < j ∧ j < n ∧ b = pb i j ∧ nrb n M C w1 i j = true := fun b => by
          rw [← hmo, Nat.testBit_or, Bool.or_eq_true, hEb]
        have hm1 : ∀ b, more.testBit b = true → b < 28 ∧ PI b < i + 1 := fun b hb => by
          rcases (hmb b).mp hb with h | ⟨j, h1, h2, h3, _⟩
          · have := heb b h; omega
          · obtain ⟨q1, q2, _⟩ := pb_ok j (by omega) i h1
            rw [h3]; omega
        have hm28 : more < 2 ^ 28 := Nat.lt_pow_two_of_testBit _ (fun b hb => by
          cases q : more.testBit b
          · rfl
          · have := (hm1 b q).1; omega)
        have hmec : ∀ w', Lf n M C w' → Agr (i + 1) w1 w' → ∀ b, b < 28 → PI b < i + 1 → more.testBit b = (ec n M w').testBit b := by
          intro w' hL ha b hb hpi
          obtain ⟨ha1, ha2⟩ := (hagr w').mp ha
          rw [Bool.eq_iff_iff, hmb]
          by_cases z : PI b = i
          · rw [ec_bit]
            have hpj := pb_in b hb
            constructor
            · rintro (h | ⟨j, h1, h2, h3, h4⟩)
              · have := (heb b h).2; omega
              · obtain ⟨_, q2, q3⟩ := pb_ok j (by omega) i h1
                rw [← h3] at q2 q3
                rw [q2, q3]
                rw [nrb_leaf h8 hL ha h1 h2] at h4
                exact ⟨hb, h2, h4⟩
            · rintro ⟨_, h2, h3⟩
              right
              refine ⟨PJ b, by omega, h2, by rw [← z]; exact hpj.2.2.symm, ?_⟩
              rw [nrb_leaf h8 hL ha (by omega) h2, ← z]
              exact h3
          · rw [← hec w' hL ha1 b hb (by omega)]
            constructor
            · rintro (h | ⟨j, h1, h2, h3, _⟩)
              · exact h
              · obtain ⟨_, q2, _⟩ := pb_ok j (by omega) i h1
                rw [← h3] at q2
                exact absurd q2 z
            · exact Or.inl
        have hmdiv : ∀ w', Lf n M C w' → Agr (i + 1) w1 w' → ec n M w' / 2 ^ LEB i = more / 2 ^ LEB i := by
          intro w' hL ha
          apply Nat.eq_of_testBit_eq
          intro b
          rw [Nat.testBit_div_two_pow, Nat.testBit_div_two_pow]
          by_cases q : b + LEB i < 28
          · exact (hmec w' hL ha _ q (by have := LEB_hi _ q i (by omega) (by omega); omega)).symm
          · have h1 : (ec n M w').testBit (b + LEB i) = false := by
              cases y : (ec n M w').testBit (b + LEB i)
              · rfl
              · exact absurd ((ec_bit _ _ _ _).mp y).1 q
            have h2 : more.testBit (b + LEB i) = false := by
              cases y : more.testBit (b + LEB i)
              · rfl
              · exact absurd (hm1 _ y).1 q
            rw [h1, h2]
        -- the state behind the split
        have hs2 := (hs.mv f1 (fun q j z => by omega)).mv d5 (fun q j z => by omega)
        have f2 : Fr (frA r i) σ s2 := (hf.tr (f1.mono (fun q j z => by unfold frA; omega))).tr (d5.mono (fun q j z => by unfold frA; omega))
        have hset : ∀ w', ((P w' ∨ ((Lf n M C w' ∧ Agr i w w') ∧ w' i < v)) ∨ (Lf n M C w' ∧ Agr (i + 1) w1 w')) ↔ (P w' ∨ ((Lf n M C w' ∧ Agr i w w') ∧ w' i < v + 1)) := fun w' => by
          rw [hagr w']
          constructor
          · rintro ((h | ⟨h1, h2⟩) | ⟨h1, h2, h3⟩)
            · exact Or.inl h
            · exact Or.inr ⟨h1, by omega⟩
            · exact Or.inr ⟨⟨h1, h2⟩, by omega⟩
          · rintro (h | ⟨h1, h2⟩)
            · exact Or.inl (Or.inl h)
            · by_cases z : w' i = v
              · exact Or.inr ⟨h1.1, h1.2, z⟩
              · exact Or.inl (Or.inr ⟨h1, by omega⟩)
        -- one turn, up to the test
        have turn : ∀ L, L < 2 ^ 31 → gI s2 r 0 = nI L → m_X0_arrange_47 F (m_X0_arrange F g) (m + 1) r p (nI i) (nI e) (nI (msk (inK n M C w i i) n)) (nI (LEB i)) (nI v) s = (if L / 2 ^ LEB i < more / 2 ^ LEB i then m_X0_arrange_47 F (m_X0_arrange F g) m r p (nI i) (nI e) (nI (msk (inK n M C w i i) n)) (nI (LEB i)) (nI (v + 1)) s2 else bv (m_X0_arrange F g r p (nI (i + 1)) (nI more) s2) fun s32 => m_X0_arrange_47 F (m_X0_arrange F g) m r p (nI i) (nI e) (nI (msk (inK n M C w i i) n)) (nI (LEB i)) (nI (v + 1)) s32) := by
          intro L hL31 hL
          have q1 : L / 2 ^ LEB i < 2 ^ 31 := Nat.lt_of_le_of_lt (Nat.div_le_self _ _) hL31
          have q2 : more / 2 ^ LEB i < 2 ^ 31 := Nat.lt_of_le_of_lt (Nat.div_le_self _ _) (by omega)
          rw [m_X0_arrange_47]; dsimp only
          unfold m_X0_arrange_129
          rw [hAs.1, if_neg (nI_ge hvn (by omega)), ldI_at (by omega) (by omega), htws v hvn, nI_1, below_eq F (by omega), bd_some, if_pos (hcond.mpr hc), stI_at (by omega) (by omega), hs1, d1, bd_some, b_shl _ (by omega), b_or, hmo, nm_eq, hL, b_shr hL31 (by omega), b_shr (by omega) (by omega), nm_eq, nI_1]
          by_cases y : L / 2 ^ LEB i < more / 2 ^ LEB i
          · rw [if_pos (nI_lt y q2), if_pos y]
          · rw [if_neg (nI_nlt (by omega) q1), if_neg y]; rfl
        -- prune or go down
        have down : (∀ u, (P u ∨ ((Lf n M C u ∧ Agr i w u) ∧ u i < v)) → (∀ x, (P x ∨ ((Lf n M C x ∧ Agr i w x) ∧ x i < v)) → ec n M u ≤ ec n M x) → more / 2 ^ LEB i ≤ ec n M u / 2 ^ LEB i) → ∃ s3, m_X0_arrange F g r p (nI (i + 1)) (nI more) s2 = some s3 ∧ SumS r n M C (fun w' => P w' ∨ ((Lf n M C w' ∧ Agr i w w') ∧ w' i < v + 1)) s3 ∧ Fr (frA r i) σ s3 := by
          intro hpr2
          have hA2 := hA1.mv d5 (fun q j _ _ => by omega)
          obtain ⟨s3, g1, g2, g3⟩ := ih (i + 1) g (by omega) (by omega) w1 more _ s2 hA2 (fun x hx => by rw [(d5 (r + 1) x (by omega)).1, (f1 (r + 1) x (by omega)).1, htws x hx]) (fun x hx => by
            rw [(d5 (r + 3) x (by omega)).1]
            by_cases z : x = i
            · subst hs1
              rw [z, gI_same, w1i]
            · rw [(f1 (r + 3) x (by omega)).1, hvs x (by omega), w1l x (by omega)]) hP1 d2 hm1 hmec hs2 (fun w' h ha => by
            obtain ⟨a1, a2⟩ := (hagr w').mp ha
            rcases h with h | ⟨_, h⟩
            · exact hdis w' h a1
            · omega) (by rw [Nat.add_sub_cancel]; exact hpr2)
          exact ⟨s3, g1, g2.cong hset, f2.tr (g3.mono (fun q j z => by unfold frA at z ⊢; omega))⟩
        rcases hs2 with ⟨a, b⟩ | ⟨w0, a1, a2, a3, a4⟩
        · have hno : ¬ 268435456 / 2 ^ LEB i < more / 2 ^ LEB i := by
            have := Nat.div_le_div_right (c := 2 ^ LEB i) (show more ≤ 268435456 by omega)
            omega
          obtain ⟨s3, g1, g2, g3⟩ := down (fun u hu => absurd hu (a u))
          refine ⟨s3, ⟨g2, g3⟩, ?_⟩
          have := turn 268435456 (by omega) b
          rw [if_neg hno, g1, bv_some] at this
          exact this
        · have h28 : ec n M w0 < 2 ^ 28 := eb_lt _ _
          by_cases y : ec n M w0 / 2 ^ LEB i < more / 2 ^ LEB i
          · have hsk := SumS.skip (r := r) (n := n) (M := M) (C := C) (σ := s2) (P := fun w' => P w' ∨ ((Lf n M C w' ∧ Agr i w w') ∧ w' i < v)) (Q := fun w' => Lf n M C w' ∧ Agr (i + 1) w1 w') (Or.inr ⟨w0, a1, a2, a3, a4⟩) (fun w' hw' => ⟨w0, a1, div_lt_of (k := LEB i) (by rw [hmdiv w' hw'.1 hw'.2]; exact y)⟩)
            refine ⟨s2, ⟨hsk.cong hset, f2⟩, ?_⟩
            have := turn _ (by omega) a3
            rw [if_pos y] at this
            exact this
          · obtain ⟨s3, g1, g2, g3⟩ := down (fun u hu hmin => by
              have h1 := hmin w0 a1
              have h2 := a2 u hu
              rw [show ec n M u = ec n M w0 from by omega]
              omega)
            refine ⟨s3, ⟨g2, g3⟩, ?_⟩
            have := turn _ (by omega) a3
            rw [if_neg y, g1, bv_some] at this
            exact this
    · rintro m s ⟨hs, hf⟩
      have hAs := hA.mv hf (fun q j _ _ => by unfold frA; omega)
      refine ⟨s, ?_, hs.cong (fun w' => ?_), hf⟩
      · show m_X0_arrange_47 F (m_X0_arrange F g) (m + 1) r p (nI i) (nI e) (nI (msk (inK n M C w i i) n)) (nI (LEB i)) (nI n) s = _
        rw [m_X0_arrange_47]; dsimp only
        rw [hAs.1, if_pos (nI_le (Nat.le_refl _) (by omega))]
      · constructor
        · rintro (h | ⟨h1, _⟩)
          · exact Or.inl h
          · exact Or.inr h1
        · rintro (h | h)
          · exact Or.inl h
          · exact Or.inr ⟨h, h.1.1.lt h8 hin⟩
end

