/-! MATHEMATICS, 59: image -/
section
/-- the first i images fit: classes and edges -/
def Gd (M M2 c1 c2 q : Nat → Nat) (i : Nat) : Prop := ∀ v, v < i → c1 v = c2 (q v) ∧ ∀ e, e < v → (M e).testBit v = (M2 (q e)).testBit (q v)
theorem Gd.cong {M M2 c1 c2 q q' : Nat → Nat} {i : Nat} (h : ∀ x, x < i → q x = q' x) (hg : Gd M M2 c1 c2 q i) : Gd M M2 c1 c2 q' i := fun v hv => by
  have := hg v hv
  rw [h v hv] at this
  exact ⟨this.1, fun e he => by rw [← h e (by omega)]; exact this.2 e he⟩
theorem fits_eq (F : Nat) (hF : 8 < F) {p p2 n : Nat} {M C M2 C2 c1 c2 f : Nat → Nat} {σ : zST} (hG : Gr n M C) (hA : AN p n M C σ) (hG2 : Gr n M2 C2) (hA2 : AN p2 n M2 C2 σ) (hc : ∀ v, v < n → gI σ 29 v = nI (c1 v) ∧ gI σ 33 v = nI (c2 v) ∧ c1 v < 8 ∧ c2 v < 8) {v t : Nat} (hv : v < n) (ht : t < n) (hf : ∀ x, x < v → gI σ 27 x = nI (f x) ∧ f x < n) : m_X4_fits F 26 p p2 (nI v) (nI t) σ = some (bI (dc (c1 v = c2 t ∧ ∀ e, e < v → (M e).testBit v = (M2 (f e)).testBit t)), σ) := by
  have h8 := hG.1.2
  obtain ⟨a1, _, a3, _⟩ := hc v hv
  obtain ⟨_, b2, _, b4⟩ := hc t ht
  unfold m_X4_fits
  simp only [Nat.reduceAdd]
  rw [ldI_at (by omega) (by omega), ldI_at (by omega) (by omega), a1, b2]
  by_cases e : c1 v = c2 t
  · rw [if_pos (by rw [e])]
    have loop : ∀ (d j m : Nat), j + d = v → d < m → (∀ e, e < j → (M e).testBit v = (M2 (f e)).testBit t) → m_X4_fits_27 F m 26 p p2 (nI v) (nI t) (nI j) σ = some (bI (dc (c1 v = c2 t ∧ ∀ e, e < v → (M e).testBit v = (M2 (f e)).testBit t)), σ) := by
      intro d
      induction d with
      | zero =>
        intro j m h1 h2 h3
        obtain ⟨m, rfl⟩ : ∃ k, m = k + 1 := ⟨m - 1, by omega⟩
        have : j = v := by omega
        subst this
        rw [m_X4_fits_27]; dsimp only
        rw [if_pos (nI_le (Nat.le_refl _) (by omega)), dc_yes ⟨e, h3⟩]
        rfl
      | succ d ih =>
        intro j m h1 h2 h3
        obtain ⟨m, rfl⟩ : ∃ k, m = k + 1 := ⟨m - 1, by omega⟩
        have hj : j < v := by omega
        obtain ⟨g1, g2⟩ := hf j hj
        have m1 := hG.lt (show j < 8 by omega)
        have m2 := hG2.lt (show f j < 8 by omega)
        rw [m_X4_fits_27]; dsimp only
        simp only [Nat.reduceAdd]
        rw [if_neg (nI_ge hj (by omega)), hasE_cl F (by omega) (by omega) (hA.2 j (by omega)).1 (by omega), bd_some, ldI_at (by omega) (by omega), g1, hasE_cl F (by omega) (by omega) (hA2.2 _ g2).1 (by omega), bd_some]
        by_cases y : (M j).testBit v = (M2 (f j)).testBit t
        · rw [if_pos (by rw [y]), nI_1, nm_eq]
          exact ih (j + 1) m (by omega) (by omega) (fun e he => by
            by_cases w : e = j
            · rw [w]; exact y
            · exact h3 e (by omega))
        · rw [if_neg (fun z => y ((bI_eq _ _).mp z)), dc_no (fun z => y (z.2 j hj))]
          rfl
    have := loop v 0 F (by omega) (by omega) (fun e he => absurd he (by omega))
    rw [nI_0] at this
    exact this
  · rw [if_neg (fun z => e ((nI_eq (by omega) (by omega)).mp z)), dc_no (fun z => e z.1)]
    rfl
/-- what the search for a map answers -/
def ExR (n i : Nat) (M M2 c1 c2 f : Nat → Nat) (o : Option (Int32 × zST)) (σ : zST) : Prop := ∃ τ, ((∃ q, IsN n q ∧ Gd M M2 c1 c2 q n ∧ Agr i f q ∧ (∀ p, IsN n p → Gd M M2 c1 c2 p n → Agr i f p → rv n q ≤ rv n p) ∧ o = some (1, τ) ∧ ∀ x, x < n → gI τ 27 x = nI (q x)) ∨ (o = some (0, τ) ∧ ∀ p, IsN n p → Gd M M2 c1 c2 p n → ¬ Agr i f p)) ∧ Fr (fun q j => q = 27 ∧ i ≤ j) σ τ
theorem extend_eq (F : Nat) (hF : 8 < F) {p p2 n : Nat} (hp : p + 2 < 27) (hp2 : p2 + 2 < 27) {M C M2 C2 c1 c2 : Nat → Nat} (hG : Gr n M C) (hG2 : Gr n M2 C2) : ∀ (d i g : Nat), i + d = n → d < g → ∀ (f : Nat → Nat) (U : Nat) (σ : zST), AN p n M C σ → AN p2 n M2 C2 σ → (∀ v, v < n → gI σ 29 v = nI (c1 v) ∧ gI σ 33 v = nI (c2 v) ∧ c1 v < 8 ∧ c2 v < 8) → (∀ x, x < i → gI σ 27 x = nI (f x) ∧ f x < n) → (∀ x y, x < i → y < i → f x = f y → x = y) → U < 256 → (∀ y, U.testBit y = true ↔ ∃ x, x < i ∧ f x = y) → Gd M M2 c1 c2 f i → ExR n i M M2 c1 c2 f (m_X4_extend F g 26 p p2 (nI i) (nI U) σ) σ := by
  have h8 := hG.1.2
  intro d
  induction d with
  | zero =>
    intro i g hi hg f U σ hA hA2 hc hf hinj hU hUb hgd
    obtain ⟨g, rfl⟩ : ∃ k, g = k + 1 := ⟨g - 1, by omega⟩
    have : i = n := by omega
    subst this
    have hN : IsN i (ful i f) := IsN.mk h8 (fun x hx => by unfold ful; rw [if_pos hx]; exact (hf x hx).2) (fun x y hx hy e => by
      unfold ful at e
      rw [if_pos hx, if_pos hy] at e
      exact hinj x y hx hy e) (fun x hx => if_neg (by omega))
    have ha : Agr i f (ful i f) := fun x hx => if_pos hx
    refine ⟨σ, Or.inl ⟨ful i f, hN, hgd.cong (fun x hx => (ha x hx).symm), ha, fun p' h1 _ h3 => ?_, ?_, fun x hx => by rw [(hf x hx).1, ha x hx]⟩, Fr.rf⟩
    · rw [agr_ful h1 h3]; exact Nat.le_refl _
    · rw [m_X4_extend]; dsimp only
      unfold m_X4_extend_0 m_X4_extend_14
      rw [hA.1, if_pos (nI_le (Nat.le_refl _) (by omega))]
  | succ d ih =>
    intro i g hi hg f U σ hA hA2 hc hf hinj hU hUb hgd
    obtain ⟨g, rfl⟩ : ∃ k, g = k + 1 := ⟨g - 1, by omega⟩
    have hin : i < n := by omega
    have loop : ∀ (d2 t m : Nat) (s : zST), t + d2 = n → d2 < m → Fr (fun q j => q = 27 ∧ i ≤ j) σ s → (∀ p', IsN n p' → Gd M M2 c1 c2 p' n → Agr i f p' → ¬ p' i < t) → ExR n i M M2 c1 c2 f (m_X4_extend_19 F (m_X4_extend F g) m 26 p p2 (nI i) (nI U) (nI t) s) σ := by
      intro d2
      induction d2 with
      | zero =>
        intro t m s h1 h2 h3 h4
        obtain ⟨m, rfl⟩ : ∃ k, m = k + 1 := ⟨m - 1, by omega⟩
        have : t = n := by omega
        subst this
        have hA2s := hA2.mv h3 (fun q j _ _ => by omega)
        refine ⟨s, Or.inr ⟨?_, fun p' q1 q2 q3 => h4 p' q1 q2 q3 (q1.lt h8 hin)⟩, h3⟩
        rw [m_X4_extend_19]; dsimp only
        rw [hA2s.1, if_pos (nI_le (Nat.le_refl _) (by omega))]
      | succ d2 ih2 =>
        intro t m s h1 h2 h3 h4
        obtain ⟨m, rfl⟩ : ∃ k, m = k + 1 := ⟨m - 1, by omega⟩
        have ht : t < n := by omega
        have hAs := hA.mv h3 (fun q j _ _ => by omega)
        have hA2s := hA2.mv h3 (fun q j _ _ => by omega)
        have hcs : ∀ v, v < n → gI s 29 v = nI (c1 v) ∧ gI s 33 v = nI (c2 v) ∧ c1 v < 8 ∧ c2 v < 8 := fun v hv => by
          obtain ⟨q1, q2, q3⟩ := hc v hv
          exact ⟨by rw [(h3 29 v (by omega)).1, q1], by rw [(h3 33 v (by omega)).1, q2], q3⟩
        have hfs : ∀ x, x < i → gI s 27 x = nI (f x) ∧ f x < n := fun x hx => ⟨by rw [(h3 27 x (by omega)).1, (hf x hx).1], (hf x hx).2⟩
        have pass : (∀ p', IsN n p' → Gd M M2 c1 c2 p' n → Agr i f p' → p' i ≠ t) → ∀ s', Fr (fun q j => q = 27 ∧ i ≤ j) σ s' → ExR n i M M2 c1 c2 f (m_X4_extend_79 F (m_X4_extend F g) (m_X4_extend_19 F (m_X4_extend F g) m) 26 p p2 (nI i) (nI U) (nI t) s') σ := by
          intro hne s' hs'
          unfold m_X4_extend_79
          rw [nI_1, nm_eq]
          exact ih2 (t + 1) m s' (by omega) (by omega) hs' (fun p' q1 q2 q3 => by
            have := h4 p' q1 q2 q3
            have := hne p' q1 q2 q3
            omega)
        rw [m_X4_extend_19]; dsimp only
        rw [hA2s.1, if_neg (nI_ge ht (by omega)), isIn_b F (by omega) (by omega), bd_some]
        by_cases hu : U.testBit t = true
        · rw [if_neg (by rw [hu]; decide +kernel)]
          refine pass (fun p' q1 q2 q3 e => ?_) s h3
          obtain ⟨x, x1, x2⟩ := (hUb t).mp hu
          have := q3 x x1
          rw [x2, ← e] at this
          have := q1.inj this
          omega
        · rw [if_pos (by rw [show U.testBit t = false from by cases q : U.testBit t; rfl; exact absurd q hu]; decide +kernel), fits_eq F hF hG hAs hG2 hA2s hcs hin ht hfs, bd_some]
          by_cases e : c1 i = c2 t ∧ ∀ e, e < i → (M e).testBit i = (M2 (f e)).testBit t
          · rw [if_neg (fun z => dcI_0.mp z e), stI_at (by omega) (by omega), nI_1, shl1 (by omega), b_or]
            generalize hf1 : (fun x => if x = i then t else f x) = f1
            have f1i : f1 i = t := by rw [← hf1]; exact if_pos rfl
            have f1l : ∀ x, x < i → f1 x = f x := fun x hx => by rw [← hf1]; exact if_neg (by omega)
            have hagr : ∀ q, Agr (i + 1) f1 q ↔ Agr i f q ∧ q i = t := fun q => by
              constructor
              · intro h
                exact ⟨fun x hx => by rw [h x (by omega), f1l x hx], by rw [h i (by omega), f1i]⟩
              · rintro ⟨h1, h2⟩ x hx
                by_cases z : x = i
                · rw [z, h2, f1i]
                · rw [h1 x (by omega), f1l x (by omega)]
            have fs1 : Fr (fun q j => q = 27 ∧ j = i) s (sI s 27 i (nI t)) := Fr.sI ⟨rfl, rfl⟩
            have hrec := ih (i + 1) g (by omega) (by omega) f1 (U ||| 2 ^ t) (sI s 27 i (nI t)) (hAs.mv fs1 (fun q j _ _ => by omega)) (hA2s.mv fs1 (fun q j _ _ => by omega)) (fun v hv => by
              obtain ⟨q1, q2, q3⟩ := hcs v hv
              exact ⟨by rw [(fs1 29 v (by omega)).1, q1], by rw [(fs1 33 v (by omega)).1, q2], q3⟩) (fun x hx => by
              by_cases z : x = i
              · rw [z, gI_same, f1i]; exact ⟨rfl, ht⟩
              · rw [(fs1 27 x (by omega)).1, f1l x (by omega)]; exact hfs x (by omega)) (fun x y hx hy z => by
              have hno : ∀ x, x < i → f x ≠ t := fun x hx w => hu ((hUb t).mpr ⟨x, hx, w⟩)
              by_cases zx : x = i
              · by_cases zy : y = i
                · omega
                · rw [zx, f1i, f1l y (by omega)] at z
                  exact absurd z.symm (hno y (by omega))
              · by_cases zy : y = i
                · rw [zy, f1i, f1l x (by omega)] at z
                  exact absurd z (hno x (by omega))
                · rw [f1l x (by omega), f1l y (by omega)] at z
                  exact hinj x y (by omega) (by omega) z) (or_lt hU (Nat.pow_lt_pow_right (n := 8) (by omega) (by omega))) (fun y => by
              rw [Nat.testBit_or, Bool.or_eq_true, hUb, Nat.testBit_two_pow, decide_eq_true_iff]
              constructor
              · rintro (⟨x, x1, x2⟩ | z)
                · exact ⟨x, by omega, by rw [f1l x x1, x2]⟩
                · exact ⟨i, by omega, by rw [f1i, z]⟩
              · rintro ⟨x, x1, x2⟩
                by_cases z : x = i
                · right; rw [← x2, z, f1i]
                · exact Or.inl ⟨x, by omega, by rw [← x2, f1l x (by omega)]⟩) (fun v hv => by
              by_cases z : v = i
              · rw [z, f1i]
                exact ⟨e.1, fun x hx => by rw [f1l x hx]; exact e.2 x hx⟩
              · have := hgd v (by omega)
                rw [f1l v (by omega)]
                exact ⟨this.1, fun x hx => by rw [f1l x (by omega)]; exact this.2 x hx⟩)
            obtain ⟨τ, hres, hfr⟩ := hrec
            have hfr2 : Fr (fun q j => q = 27 ∧ i ≤ j) σ τ := (h3.tr (fs1.mono (fun q j z => ⟨z.1, by omega⟩))).tr (hfr.mono (fun q j z => ⟨z.1, by omega⟩))
            rcases hres with ⟨q, q1, q2, q3, q4, q5, q6⟩ | ⟨q1, q2⟩
            · obtain ⟨qa, qt⟩ := (hagr q).mp q3
              refine ⟨τ, Or.inl ⟨q, q1, q2, qa, fun p' r1 r2 r3 => ?_, ?_, q6⟩, hfr2⟩
              · have := h4 p' r1 r2 r3
                by_cases z : p' i = t
                · exact q4 p' r1 r2 ((hagr p').mpr ⟨r3, z⟩)
                · exact Nat.le_of_lt (rv_first h8 (q1.l8 h8) hin (by rw [qt]; omega) (fun x hx => by rw [qa x hx, r3 x hx]))
              · rw [q5, bd_some, if_neg n10]
            · rw [q1, bd_some, if_pos rfl]
              exact pass (fun p' r1 r2 r3 z => q2 p' r1 r2 ((hagr p').mpr ⟨r3, z⟩)) τ hfr2
          · rw [if_pos (dcI_0.mpr e)]
            refine pass (fun p' q1 q2 q3 z => e ?_) s h3
            have := q2 i hin
            rw [z] at this
            exact ⟨this.1, fun x hx => by rw [← q3 x hx]; exact this.2 x hx⟩
    rw [m_X4_extend]; dsimp only
    unfold m_X4_extend_0
    rw [hA.1, if_neg (nI_ge hin (by omega)), l8, if_pos (nI_lt (by omega) (by omega))]
    have := loop n 0 F σ (by omega) (by omega) Fr.rf (fun p' _ _ _ => by omega)
    rw [nI_0] at this
    exact this
/-- where two graphs are alike, fitting maps are those that keep all -/
theorem gd_iso {n : Nat} (hn : n ≤ 8) {M C M2 C2 f q : Nat → Nat} (hG : Gr n M C) (hG2 : Gr n M2 C2) (hf : Iso n M C M2 C2 f) (T : Nat) (hq : IsN n q) : Gd M M2 (Rk n M C T) (Rk n M2 C2 T) q n ↔ Iso n M C M2 C2 q := by
  constructor
  · intro h
    refine ⟨hq, fun v hv => ?_, fun u v hu hv => ?_⟩
    · have h1 := (h v hv).1
      rw [← (rk_iso hn hG hG2 hf T).2 v hv] at h1
      rw [← rk_col T (hf.1.lt hn hv) (hq.lt hn hv) h1, hf.2.1 v hv]
    · have qu := hq.lt hn hu
      have qv := hq.lt hn hv
      rcases Nat.lt_trichotomy u v with z | z | z
      · exact ((h v hv).2 u z).symm
      · subst z
        rw [(hG.2 u (by omega)).2.2.2.1, (hG2.2 (q u) (by omega)).2.2.2.1]
      · rw [hG.sy (by omega) (by omega), hG2.sy (by omega) (by omega)]
        exact ((h u hu).2 v z).symm
  · intro h v hv
    exact ⟨((rk_iso hn hG hG2 h T).2 v hv).symm, fun e he => (h.2.2 e v (by omega) hv).symm⟩
theorem find_eq (F : Nat) (hF : 9 < F) {p p2 n : Nat} (hp : p + 2 < 27) (hp2 : p2 + 2 < 27) {M C M2 C2 f : Nat → Nat} {σ : zST} (hG : Gr n M C) (hA : At p n M C σ) (hG2 : Gr n M2 C2) (hA2 : At p2 n M2 C2 σ) (hf : Iso n M C M2 C2 f) : ∃ τ q, m_X4_find F 26 p p2 σ = some (1, τ) ∧ Iso n M C M2 C2 q ∧ (∀ g, Iso n M C M2 C2 g → rv n q ≤ rv n g) ∧ (∀ x, x < n → gI τ 27 x = nI (q x)) ∧ Fr (fun q _ => 27 ≤ q ∧ q ≤ 35) σ τ := by
  have h8 := hG.1.2
  obtain ⟨T, hT⟩ := endR_ex hG.1.1 h8 M C
  obtain ⟨s1, e1, r1⟩ := refine_cl F hF (r := 28) (p := p) (by omega) hG hA hT
  have f1 := r1.2.2.2.2
  have hA2s := hA2.mv f1 (fun q j _ _ => by omega)
  obtain ⟨s2, e2, r2⟩ := refine_cl F hF (r := 32) (p := p2) (by omega) hG2 hA2s ⟨hT.1, hT.2.1, endR_iso h8 hG hG2 hf hT.2.2⟩
  have f2 := r2.2.2.2.2
  have hA3 : At p n M C s2 := (hA.mv f1 (fun q j _ _ => by omega)).mv f2 (fun q j _ _ => by omega)
  have hA4 := hA2s.mv f2 (fun q j _ _ => by omega)
  have := extend_eq F (by omega) hp hp2 (c1 := Rk n M C T) (c2 := Rk n M2 C2 T) hG hG2 n 0 9 (by omega) (by omega) (fun x => x) 0 s2 (hA3.an h8) (hA4.an h8) (fun v hv => ⟨by rw [(f2 29 v (by omega)).1, r1.2.2.1 v hv], r2.2.2.1 v hv, Rk_lt h8 M C T hv, Rk_lt h8 M2 C2 T hv⟩) (fun x hx => absurd hx (by omega)) (fun x y hx => absurd hx (by omega)) (by omega) (fun y => by
    rw [Nat.zero_testBit]
    constructor
    · intro z; exact absurd z (by decide)
    · rintro ⟨x, hx, _⟩; omega) (fun v hv => absurd hv (by omega))
  obtain ⟨τ, hres, hfr⟩ := this
  have hag : ∀ q, Agr 0 (fun x => x) q := fun q x hx => absurd hx (by omega)
  rcases hres with ⟨q, q1, q2, _, q4, q5, q6⟩ | ⟨_, q2⟩
  · refine ⟨τ, q, ?_, (gd_iso h8 hG hG2 hf T q1).mp q2, fun g hg => q4 g hg.1 ((gd_iso h8 hG hG2 hf T hg.1).mpr hg) (hag g), q6, ((f1.mono (fun q j z => by omega)).tr (f2.mono (fun q j z => by omega))).tr (hfr.mono (fun q j z => by omega))⟩
    rw [nI_0] at q5
    unfold m_X4_find
    simp only [Nat.reduceAdd]
    rw [hA.1, hA2.1, if_pos rfl, e1, bv_some, e2, bv_some, q5, bd_some, gd_yes (Or.inr rfl)]
  · exact absurd (hag f) (q2 f hf.1 ((gd_iso h8 hG hG2 hf T hf.1).mpr hf))
end

