/-! THE LAW'S REFINEMENT -/
section
/-- the law's key: the class, then the counts, base 8, as many as there are vertices -/
def kLw (M R : Nat → Nat) (n v : Nat) : Nat → Nat
  | 0 => R v
  | i + 1 => kLw M R n v i * 8 + nbc M R n v i
theorem nbc_cnt {n : Nat} {M C R : Nat → Nat} (hG : Gr n M C) {v : Nat} (hv : v < n) (c : Nat) : nbc M R n v c = cnt (fun j => (R j == c) && (M v).testBit j) n := by
  unfold nbc memb
  rw [pop_n hG.1.2 (fun y hy => by
    rw [Nat.testBit_and, msk_bit, Bool.and_eq_true, Bool.and_eq_true] at hy
    exact of_decide_eq_true hy.2.1)]
  refine cnt_cong (fun j hj => ?_)
  rw [Nat.testBit_and, msk_bit, decide_eq_true hj, Bool.true_and, Bool.and_comm]
theorem kL_lt (M R : Nat → Nat) (n v : Nat) (hn : n < 6) {C : Nat → Nat} (hG : Gr n M C) (hv : v < n) (h : R v < 8) : ∀ i, kLw M R n v i < 8 * 8 ^ i
  | 0 => by rw [kLw]; omega
  | i + 1 => by
    have := kL_lt M R n v hn hG hv h i
    have h2 : nbc M R n v i ≤ n := by rw [nbc_cnt hG hv]; exact cnt_le _ _
    rw [kLw, Nat.pow_succ]
    omega
theorem kL_key {n : Nat} (hn : n < 6) {M C R : Nat → Nat} (hG : Gr n M C) {u v : Nat} (hu : u < n) (hv : v < n) : ∀ i, (kLw M R n u i < kLw M R n v i ↔ keyT M R n u i < keyT M R n v i) ∧ (kLw M R n u i = kLw M R n v i ↔ keyT M R n u i = keyT M R n v i)
  | 0 => ⟨Iff.rfl, Iff.rfl⟩
  | i + 1 => by
    obtain ⟨h1, h2⟩ := kL_key hn hG (R := R) hu hv i
    have b1 : nbc M R n u i ≤ n := by rw [nbc_cnt hG hu]; exact cnt_le _ _
    have b2 : nbc M R n v i ≤ n := by rw [nbc_cnt hG hv]; exact cnt_le _ _
    rw [kLw, kLw, keyT, keyT]
    constructor <;> constructor <;> intro h <;> omega
theorem kL_ord {n : Nat} (hn : n < 6) {M C R : Nat → Nat} (hG : Gr n M C) (hR : ∀ v, v < n → R v < n) {u v : Nat} (hu : u < n) (hv : v < n) : (kLw M R n u n < kLw M R n v n ↔ key M R n u < key M R n v) ∧ (kLw M R n u n = kLw M R n v n ↔ key M R n u = key M R n v) := by
  obtain ⟨h1, h2⟩ := kL_key hn hG (R := R) hu hv n
  have d1 := dI_n (M := M) (R := R) (n := n) (u := u) (v := v) hR (8 - n) (by omega) 8 (by omega)
  unfold key
  rw [h1, h2]
  have := d1.1
  have := d1.2
  constructor
  · have e := dI_n (M := M) (R := R) (n := n) (u := u) (v := v) hR (8 - n) (by omega) 8 (by omega)
    constructor
    · intro z
      rcases Nat.lt_or_ge (keyT M R n u 8) (keyT M R n v 8) with q | q
      · exact q
      · have := e.1.mp q; omega
    · intro z
      rcases Nat.lt_or_ge (keyT M R n u n) (keyT M R n v n) with q | q
      · exact q
      · have := e.1.mpr q; omega
  · exact d1.2.symm
theorem rk_ord {K L : Nat → Nat} {n : Nat} (h : ∀ u v, u < n → v < n → (K u < K v ↔ L u < L v) ∧ (K u = K v ↔ L u = L v)) : (∀ v, v < n → rk K n v = rk L n v) ∧ ncl K n = ncl L n := by
  have hf : ∀ i, i < n → fstK K i = fstK L i := fun i hi => by
    rw [Bool.eq_iff_iff, fstK_iff, fstK_iff]
    constructor
    · intro a w hw e; exact a w hw ((h w i (by omega) hi).2.mpr e)
    · intro a w hw e; exact a w hw ((h w i (by omega) hi).2.mp e)
  refine ⟨fun v hv => cnt_cong (fun i hi => ?_), cnt_cong hf⟩
  rw [hf i hi]
  congr 1
  exact decide_eq_decide.mpr (h i v hi hv).1
/-- what the law's loops take of the code -/
def Cdd (F : Nat) (n : Nat) (M C : Nat → Nat) (c0 : Int64) : Prop := (∀ u v s, u < n → v < n → m_L_edge F c0 (nI u) (nI v) s = some (bI ((M u).testBit v), s)) ∧ ∀ v s, v < n → m_L_colour F c0 (nI v) s = some (nI (C v), s)
abbrev K27 : Type := Nat → Int32 → Int64 → Int32 → Nat → Nat → Int32 → Int32 → Int32 → zST → Option (Int32 × zST)
abbrev K53 : Type := Nat → Int32 → Int64 → Int32 → Nat → Nat → Int32 → Int32 → Int32 → Int32 → zST → Option (Int32 × zST)
abbrev K89 : Type := Nat → Int32 → Int64 → Int32 → Nat → Nat → Int32 → Int32 → Int32 → Int32 → Int32 → zST → Option (Int32 × zST)
theorem r107 (F : Nat) (hF : 9 < F) (w : Nat) {n : Nat} (hn : n < 6) {M C R : Nat → Nat} (hG : Gr n M C) {c0 : Int64} (hc0 : Cdd F n M C c0) (k27 : K27) (k53 : K53) (k89 : K89) (a1 a7 a8 a9 : Int32) {v c X : Nat} (hv : v < n) (hc : c < n) {s : zST} (hR : ∀ j, j < n → gI s (w + 1) j = nI (R j) ∧ R j < 8) (hX : gL s w v = lN X) : m_L_isRefined_107 F w k27 k53 k89 F 0 a1 c0 (nI n) w (w + 1) a7 a8 a9 (nI v) (nI c) 0 0 s = k89 0 a1 c0 (nI n) w (w + 1) a7 a8 a9 (nI v) (nI (c + 1)) (sL s w v (lN (X * 8 + nbc M R n v c))) := by
  rw [nbc_cnt hG hv]
  have hcn := cnt_le (fun j => (R j == c) && (M v).testBit j) n
  refine up_loop0 (fun m (j : Int32) (a : Int32) => m_L_isRefined_107 F w k27 k53 k89 m 0 a1 c0 (nI n) w (w + 1) a7 a8 a9 (nI v) (nI c) a j s) n (fun j => nI (cnt (fun j => (R j == c) && (M v).testBit j) j)) _ (fun m j hj => ?_) (fun m => ?_) (show n < F by omega)
  · show m_L_isRefined_107 F w k27 k53 k89 (m + 1) 0 a1 c0 (nI n) w (w + 1) a7 a8 a9 (nI v) (nI c) (nI (cnt (fun j => (R j == c) && (M v).testBit j) j)) (nI j) s = m_L_isRefined_107 F w k27 k53 k89 m 0 a1 c0 (nI n) w (w + 1) a7 a8 a9 (nI v) (nI c) (nI (cnt (fun j => (R j == c) && (M v).testBit j) (j + 1))) (nI (j + 1)) s
    obtain ⟨r1, r2⟩ := hR j hj
    rw [m_L_isRefined_107]; dsimp only
    unfold m_L_isRefined_141 m_L_isRefined_142
    rw [if_neg (nI_ge hj (by omega)), ldI_at (by omega) (by omega), r1, cnt_s]
    by_cases e : R j = c
    · rw [if_pos (by rw [e]), hc0.1 v j s hv hj, bd_some, e, beq_self_eq_true, Bool.true_and]
      cases (M v).testBit j
      · rw [if_pos (by decide +kernel), nm_eq, nm_eq, nI_1, l0, nI_add]
        rfl
      · rw [if_neg (by decide +kernel), nm_eq, nm_eq, nI_1, nI_1]
        rfl
    · rw [if_neg (fun z => e ((nI_eq (by omega) (by omega)).mp z)), beq_eq_false_iff_ne.mpr e, Bool.false_and, nm_eq, nm_eq, nI_1, l0, nI_add]
      rfl
  · show m_L_isRefined_107 F w k27 k53 k89 (m + 1) 0 a1 c0 (nI n) w (w + 1) a7 a8 a9 (nI v) (nI c) (nI (cnt (fun j => (R j == c) && (M v).testBit j) n)) (nI n) s = _
    rw [m_L_isRefined_107]; dsimp only
    rw [if_pos (nI_le (Nat.le_refl _) (by omega)), ldL_at (by omega) (by omega), hX, stL_at (by omega) (by omega), nm_eq, nI_1, nI_l (by omega), show (8 : Int64) = lN 8 from rfl, lN_mul, lN_add]
/-- the keys of a round -/
def rK (M C R : Nat → Nat) (n : Nat) (first : Bool) (v : Nat) : Nat := if first = true then C v else kLw M R n v n
theorem r53 (F : Nat) (hF : 9 < F) (w : Nat) {n : Nat} (hn : n < 6) {M C R : Nat → Nat} (hG : Gr n M C) {c0 : Int64} (hc0 : Cdd F n M C c0) (k27 : K27) (a1 a7 a8 : Int32) {a9 : Int32} {first : Bool} (h9 : if first = true then a9 = -1 else ∃ t, t < 100 ∧ a9 = nI t) {s0 : zST} (hR : first = false → ∀ j, j < n → gI s0 (w + 1) j = nI (R j) ∧ R j < 8) : ∃ s, m_L_isRefined_53 F w k27 F 0 a1 c0 (nI n) w (w + 1) a7 a8 a9 0 s0 = m_L_isRefined_184 F w k27 F 0 a1 c0 (nI n) w (w + 1) a7 a8 a9 0 s ∧ (∀ v, v < n → gL s w v = lN (rK M C R n first v)) ∧ Fr (fun q _ => q = w) s0 s := by
  have h1 := hG.1.1
  refine up_inv0 (fun m (v : Int32) (s : zST) => m_L_isRefined_53 F w k27 m 0 a1 c0 (nI n) w (w + 1) a7 a8 a9 v s) n (fun v s => (∀ x, x < v → gL s w x = lN (rK M C R n first x)) ∧ Fr (fun q _ => q = w) s0 s) (fun o => ∃ s, o = m_L_isRefined_184 F w k27 F 0 a1 c0 (nI n) w (w + 1) a7 a8 a9 0 s ∧ (∀ v, v < n → gL s w v = lN (rK M C R n first v)) ∧ Fr (fun q _ => q = w) s0 s) (fun m v s hv hI => ?_) (fun m s hI => ?_) (show n < F by omega) (s := s0) ⟨fun x hx => absurd hx (by omega), Fr.rf⟩
  · obtain ⟨i1, i2⟩ := hI
    cases first with
    | true =>
      have h9' : a9 = -1 := h9
      subst h9'
      refine ⟨sL s w v (lN (C v)), ⟨fun x hx => ?_, i2.tr (Fr.sL rfl)⟩, ?_⟩
      · rw [gL_sL]
        by_cases e : x = v
        · rw [if_pos ⟨rfl, e⟩, e]; rfl
        · rw [if_neg (fun z => e z.2), i1 x (by omega)]
      · show m_L_isRefined_53 F w k27 (m + 1) 0 a1 c0 (nI n) w (w + 1) a7 a8 (-1) (nI v) s = m_L_isRefined_53 F w k27 m 0 a1 c0 (nI n) w (w + 1) a7 a8 (-1) (nI (v + 1)) _
        have hC := (hG.2 v (by omega)).1
        rw [m_L_isRefined_53]; dsimp only
        unfold m_L_isRefined_85
        rw [if_neg (nI_ge hv (by omega)), if_neg (by decide +kernel), hc0.2 v s hv, bd_some, nI_l (by omega), stL_at (by omega) (by omega)]
        obtain ⟨F', rfl⟩ : ∃ F', F = F' + 1 := ⟨F - 1, by omega⟩
        rw [m_L_isRefined_89]; dsimp only
        unfold m_L_isRefined_175
        rw [if_neg (show ¬ nI n ≤ 0 from nI_nle h1 (by omega)), if_pos (by decide +kernel), nm_eq, nI_1]
    | false =>
      obtain ⟨t, ht, h9'⟩ : ∃ t, t < 100 ∧ a9 = nI t := h9
      subst h9'
      have hRs : ∀ j, j < n → gI s (w + 1) j = nI (R j) ∧ R j < 8 := fun j hj => by
        obtain ⟨a, b⟩ := hR rfl j hj
        exact ⟨by rw [(i2 (w + 1) j (by omega)).1, a], b⟩
      generalize hs1 : sL s w v (lN (R v)) = s1
      have f1 : Fr (fun q j => q = w ∧ j = v) s s1 := by subst hs1; exact Fr.sL ⟨rfl, rfl⟩
      have row : ∃ s2, m_L_isRefined_89 F w k27 (m_L_isRefined_53 F w k27 m) F 0 a1 c0 (nI n) w (w + 1) a7 a8 (nI t) (nI v) 0 s1 = m_L_isRefined_53 F w k27 m 0 a1 c0 (nI n) w (w + 1) a7 a8 (nI t) (nI (v + 1)) s2 ∧ gL s2 w v = lN (kLw M R n v n) ∧ Fr (fun q j => q = w ∧ j = v) s s2 := by
        refine up_inv0 (fun g (c : Int32) (s : zST) => m_L_isRefined_89 F w k27 (m_L_isRefined_53 F w k27 m) g 0 a1 c0 (nI n) w (w + 1) a7 a8 (nI t) (nI v) c s) n (fun c z => gL z w v = lN (kLw M R n v c) ∧ Fr (fun q j => q = w ∧ j = v) s z) (fun o => ∃ s2, o = m_L_isRefined_53 F w k27 m 0 a1 c0 (nI n) w (w + 1) a7 a8 (nI t) (nI (v + 1)) s2 ∧ gL s2 w v = lN (kLw M R n v n) ∧ Fr (fun q j => q = w ∧ j = v) s s2) (fun g c z hc hI => ?_) (fun g z hI => ?_) (show n < F by omega) (s := s1) ⟨by subst hs1; exact gL_same _ _ _ _, f1⟩
        · obtain ⟨j1, j2⟩ := hI
          refine ⟨sL z w v (lN (kLw M R n v c * 8 + nbc M R n v c)), ⟨gL_same _ _ _ _, j2.tr (Fr.sL ⟨rfl, rfl⟩)⟩, ?_⟩
          show m_L_isRefined_89 F w k27 (m_L_isRefined_53 F w k27 m) (g + 1) 0 a1 c0 (nI n) w (w + 1) a7 a8 (nI t) (nI v) (nI c) z = _
          rw [m_L_isRefined_89]; dsimp only
          rw [if_neg (nI_ge hc (by omega)), if_neg (nI_pos (by omega))]
          exact r107 F hF w hn hG hc0 k27 _ _ a1 a7 a8 _ hv hc (fun j hj => by
            obtain ⟨a, b⟩ := hRs j hj
            exact ⟨by rw [(j2 (w + 1) j (by omega)).1, a], b⟩) j1
        · obtain ⟨j1, j2⟩ := hI
          refine ⟨z, ?_, j1, j2⟩
          show m_L_isRefined_89 F w k27 (m_L_isRefined_53 F w k27 m) (g + 1) 0 a1 c0 (nI n) w (w + 1) a7 a8 (nI t) (nI v) (nI n) z = _
          rw [m_L_isRefined_89]; dsimp only
          unfold m_L_isRefined_175
          rw [if_pos (nI_le (Nat.le_refl _) (by omega)), nm_eq, nI_1]
      obtain ⟨s2, e2, g2, f2⟩ := row
      refine ⟨s2, ⟨fun x hx => ?_, i2.tr (f2.mono (fun q j z => z.1))⟩, ?_⟩
      · by_cases e : x = v
        · rw [e, g2]; rfl
        · rw [(f2 w x (fun z => e z.2)).2, i1 x (by omega)]
      · show m_L_isRefined_53 F w k27 (m + 1) 0 a1 c0 (nI n) w (w + 1) a7 a8 (nI t) (nI v) s = _
        obtain ⟨a, b⟩ := hRs v hv
        rw [m_L_isRefined_53]; dsimp only
        unfold m_L_isRefined_85
        rw [if_neg (nI_ge hv (by omega)), if_pos (show (0 : Int32) ≤ nI t from nI_pos' (by omega)), ldI_at (by omega) (by omega), a, nI_l (by omega), stL_at (by omega) (by omega), hs1, e2]
  · obtain ⟨i1, i2⟩ := hI
    refine ⟨s, ?_, i1, i2⟩
    show m_L_isRefined_53 F w k27 (m + 1) 0 a1 c0 (nI n) w (w + 1) a7 a8 a9 (nI n) s = _
    rw [m_L_isRefined_53]; dsimp only
    rw [if_pos (nI_le (Nat.le_refl _) (by omega))]
theorem fstK_s (K : Nat → Nat) (u i : Nat) : (List.range (i + 1)).all (fun w => K w != K u) = ((List.range i).all (fun w => K w != K u) && (K i != K u)) := by
  rw [List.range_succ, List.all_append]
  simp
def fst2 (K : Nat → Nat) (v j i : Nat) : Bool := decide (K j < K v) && (List.range i).all (fun w => K w != K j)
theorem r228 (F : Nat) (hF : 9 < F) (w : Nat) {n : Nat} (hn : n < 6) {K : Nat → Nat} (k27 : K27) (k184 : K53) (k197 : Nat → Int32 → Int64 → Int32 → Nat → Nat → Int32 → Int32 → Int32 → Int32 → Int32 → Int32 → zST → Option (Int32 × zST)) (a1 : Int32) (c0 : Int64) (a7 a8 a9 a10 a11 : Int32) {v j : Nat} (hj : j < n) {s : zST} (hK : ∀ x, x < n → gL s w x = lN (K x) ∧ K x < 2 ^ 63) {l : Nat} (h11 : a11 = nI l) : m_L_isRefined_228 F w k27 k184 k197 F 0 a1 c0 (nI n) w (w + 1) a7 a8 a9 a10 a11 (nI j) (bI (decide (K j < K v))) 0 s = k197 0 a1 c0 (nI n) w (w + 1) a7 a8 a9 a10 (nI (l + (fst2 K v j j).toNat)) (nI (j + 1)) s := by
  subst h11
  have e0 : bI (decide (K j < K v)) = bI (fst2 K v j 0) := by
    unfold fst2
    rw [List.range_zero, List.all_nil, Bool.and_true]
  rw [e0]
  refine up_loop0 (fun m (i : Int32) (b : Int32) => m_L_isRefined_228 F w k27 k184 k197 m 0 a1 c0 (nI n) w (w + 1) a7 a8 a9 a10 (nI l) (nI j) b i s) j (fun i => bI (fst2 K v j i)) _ (fun m i hi => ?_) (fun m => ?_) (show j < F by omega)
  · show m_L_isRefined_228 F w k27 k184 k197 (m + 1) 0 a1 c0 (nI n) w (w + 1) a7 a8 a9 a10 (nI l) (nI j) (bI (fst2 K v j i)) (nI i) s = m_L_isRefined_228 F w k27 k184 k197 m 0 a1 c0 (nI n) w (w + 1) a7 a8 a9 a10 (nI l) (nI j) (bI (fst2 K v j (i + 1))) (nI (i + 1)) s
    have hs : fst2 K v j (i + 1) = (fst2 K v j i && (K i != K j)) := by
      unfold fst2
      rw [fstK_s, Bool.and_assoc]
    rw [m_L_isRefined_228]; dsimp only
    unfold m_L_isRefined_258 m_L_isRefined_259
    rw [if_neg (nI_ge hi (by omega)), hs]
    cases e : fst2 K v j i
    · rw [if_pos (by decide +kernel), nm_eq, nI_1]; rfl
    · rw [if_neg (by decide +kernel), ldL_at (by omega) (by omega), ldL_at (by omega) (by omega), (hK i (by omega)).1, (hK j hj).1]
      by_cases q : K i = K j
      · rw [if_pos ((cmp_0 (hK i (by omega)).2 (hK j hj).2).mpr q), nm_eq, nI_1, q, bne_self_eq_false]; rfl
      · rw [if_neg (fun z => q ((cmp_0 (hK i (by omega)).2 (hK j hj).2).mp z)), nm_eq, nI_1, bne_iff_ne.mpr q]; rfl
  · show m_L_isRefined_228 F w k27 k184 k197 (m + 1) 0 a1 c0 (nI n) w (w + 1) a7 a8 a9 a10 (nI l) (nI j) (bI (fst2 K v j j)) (nI j) s = _
    rw [m_L_isRefined_228]; dsimp only
    unfold m_L_isRefined_279
    rw [if_pos (nI_le (Nat.le_refl _) (by omega))]
    cases e : fst2 K v j j
    · rw [if_pos (by decide +kernel), nm_eq, nm_eq, nI_1, l0, nI_add]; rfl
    · rw [if_neg (by decide +kernel), nm_eq, nm_eq, nI_1, nI_1]; rfl
def mxT (f : Nat → Nat) : Nat → Nat
  | 0 => 0
  | n + 1 => if f n < mxT f n then mxT f n else f n + 1
theorem mxT_eq {f : Nat → Nat} {m : Nat} : ∀ {n : Nat}, (∀ i, i < n → f i < m) → mxT f n ≤ m ∧ ∀ i, i < n → f i < mxT f n
  | 0, _ => ⟨Nat.zero_le _, fun i h => absurd h (by omega)⟩
  | n + 1, h => by
    obtain ⟨a, b⟩ := mxT_eq (f := f) (m := m) (n := n) (fun i hi => h i (by omega))
    have hn := h n (by omega)
    rw [mxT]
    by_cases q : f n < mxT f n
    · rw [if_pos q]
      refine ⟨a, fun i hi => ?_⟩
      by_cases e : i = n
      · rw [e]; exact q
      · exact b i (by omega)
    · rw [if_neg q]
      refine ⟨by omega, fun i hi => ?_⟩
      by_cases e : i = n
      · rw [e]; omega
      · have := b i (by omega); omega
theorem mxT_ncl (K : Nat → Nat) {n : Nat} (hn : 0 < n) : mxT (rk K n) n = ncl K n := by
  obtain ⟨a, b⟩ := mxT_eq (f := rk K n) (m := ncl K n) (n := n) (fun i hi => rk_lt_ncl K hi)
  obtain ⟨v, h1, h2⟩ := ncl_max K hn
  have := b v h1
  omega
theorem r184 (F : Nat) (hF : 9 < F) (w : Nat) {n : Nat} (hn : n < 6) {K : Nat → Nat} (k27 : K27) (a1 : Int32) (c0 : Int64) (a7 : Int32) {a9 : Int32} {s0 : zST} (hK : ∀ x, x < n → gL s0 w x = lN (K x) ∧ K x < 2 ^ 63) (h1 : 1 ≤ n) : ∃ s, m_L_isRefined_184 F w k27 F 0 a1 c0 (nI n) w (w + 1) a7 0 a9 0 s0 = k27 0 a1 c0 (nI n) w (w + 1) a7 (nI (ncl K n)) (a9 + 1) s ∧ (∀ v, v < n → gI s (w + 1) v = nI (rk K n v)) ∧ Fr (fun q _ => q = w + 1) s0 s := by
  rw [← mxT_ncl K (show 0 < n by omega)]
  refine up_inv0 (fun m (v : Int32) (st : Int32 × zST) => m_L_isRefined_184 F w k27 m 0 a1 c0 (nI n) w (w + 1) a7 st.1 a9 v st.2) n (fun v st => st.1 = nI (mxT (rk K n) v) ∧ (∀ x, x < v → gI st.2 (w + 1) x = nI (rk K n x)) ∧ Fr (fun q _ => q = w + 1) s0 st.2) (fun o => ∃ s, o = k27 0 a1 c0 (nI n) w (w + 1) a7 (nI (mxT (rk K n) n)) (a9 + 1) s ∧ (∀ v, v < n → gI s (w + 1) v = nI (rk K n v)) ∧ Fr (fun q _ => q = w + 1) s0 s) (fun m v st hv hI => ?_) (fun m st hI => ?_) (show n < F by omega) (s := (0, s0)) ⟨rfl, fun x hx => absurd hx (by omega), Fr.rf⟩
  · obtain ⟨a, s⟩ := st
    obtain ⟨i0, i1, i2⟩ := hI
    dsimp only at i0 i1 i2
    subst i0
    have hKs : ∀ x, x < n → gL s w x = lN (K x) ∧ K x < 2 ^ 63 := fun x hx => ⟨by rw [(i2 w x (by omega)).2, (hK x hx).1], (hK x hx).2⟩
    have hrk : rk K n v < 6 := by
      have := rk_lt_ncl K hv
      have : ncl K n ≤ n := cnt_le _ _
      omega
    have hmx := (mxT_eq (f := rk K n) (m := n) (n := v) (fun i hi => by
      have := rk_lt_ncl K (show i < n by omega)
      have : ncl K n ≤ n := cnt_le _ _
      omega)).1
    have row : m_L_isRefined_197 F w k27 (m_L_isRefined_184 F w k27 m) F 0 a1 c0 (nI n) w (w + 1) a7 (nI (mxT (rk K n) v)) a9 (nI v) 0 0 s = m_L_isRefined_184 F w k27 m 0 a1 c0 (nI n) w (w + 1) a7 (nI (mxT (rk K n) (v + 1))) a9 (nI (v + 1)) (sI s (w + 1) v (nI (rk K n v))) := by
      have hrv : rk K n v = cnt (fun j => fst2 K v j j) n := cnt_cong (fun j hj => by
        unfold fst2 fstK
        rw [Bool.and_comm])
      rw [hrv]
      refine up_loop0 (fun g (j : Int32) (l : Int32) => m_L_isRefined_197 F w k27 (m_L_isRefined_184 F w k27 m) g 0 a1 c0 (nI n) w (w + 1) a7 (nI (mxT (rk K n) v)) a9 (nI v) l j s) n (fun j => nI (cnt (fun j => fst2 K v j j) j)) _ (fun g j hj => ?_) (fun g => ?_) (show n < F by omega)
      · show m_L_isRefined_197 F w k27 (m_L_isRefined_184 F w k27 m) (g + 1) 0 a1 c0 (nI n) w (w + 1) a7 (nI (mxT (rk K n) v)) a9 (nI v) (nI (cnt (fun j => fst2 K v j j) j)) (nI j) s = m_L_isRefined_197 F w k27 (m_L_isRefined_184 F w k27 m) g 0 a1 c0 (nI n) w (w + 1) a7 (nI (mxT (rk K n) v)) a9 (nI v) (nI (cnt (fun j => fst2 K v j j) (j + 1))) (nI (j + 1)) s
        rw [m_L_isRefined_197]; dsimp only
        unfold m_L_isRefined_223
        rw [if_neg (nI_ge hj (by omega)), ldL_at (by omega) (by omega), ldL_at (by omega) (by omega), (hKs j hj).1, (hKs v hv).1, cnt_s]
        by_cases q : K v ≤ K j
        · rw [if_pos ((cmp_ge (hKs j hj).2 (hKs v hv).2).mpr q)]
          have e : (0 : Int32) = bI (decide (K j < K v)) := by rw [decide_eq_false (by omega)]; rfl
          have := r228 F hF w hn k27 (m_L_isRefined_184 F w k27 m) (m_L_isRefined_197 F w k27 (m_L_isRefined_184 F w k27 m) g) a1 c0 a7 (nI (mxT (rk K n) v)) a9 (nI v) (nI (cnt (fun j => fst2 K v j j) j)) (v := v) hj hKs rfl
          rw [← e] at this
          exact this
        · rw [if_neg (fun z => q ((cmp_ge (hKs j hj).2 (hKs v hv).2).mp z))]
          have e : (1 : Int32) = bI (decide (K j < K v)) := by rw [decide_eq_true (by omega)]; rfl
          have := r228 F hF w hn k27 (m_L_isRefined_184 F w k27 m) (m_L_isRefined_197 F w k27 (m_L_isRefined_184 F w k27 m) g) a1 c0 a7 (nI (mxT (rk K n) v)) a9 (nI v) (nI (cnt (fun j => fst2 K v j j) j)) (v := v) hj hKs rfl
          rw [← e] at this
          exact this
      · show m_L_isRefined_197 F w k27 (m_L_isRefined_184 F w k27 m) (g + 1) 0 a1 c0 (nI n) w (w + 1) a7 (nI (mxT (rk K n) v)) a9 (nI v) (nI (cnt (fun j => fst2 K v j j) n)) (nI n) s = _
        rw [← hrv, m_L_isRefined_197]; dsimp only
        unfold m_L_isRefined_311
        rw [if_pos (nI_le (Nat.le_refl _) (by omega)), stI_at (by omega) (by omega), mxT]
        by_cases q : rk K n v < mxT (rk K n) v
        · rw [if_pos (nI_lt q (by omega)), if_pos q, nm_eq, nI_1]
        · rw [if_neg (nI_nlt (by omega) (by omega)), if_neg q, nm_eq, nI_1, nI_1]
    refine ⟨(nI (mxT (rk K n) (v + 1)), sI s (w + 1) v (nI (rk K n v))), ⟨rfl, fun x hx => ?_, i2.tr (Fr.sI rfl)⟩, ?_⟩
    · show gI (sI s (w + 1) v (nI (rk K n v))) (w + 1) x = _
      rw [gI_sI]
      by_cases e : x = v
      · rw [if_pos ⟨rfl, e⟩, e]
      · rw [if_neg (fun z => e z.2), i1 x (by omega)]
    · show m_L_isRefined_184 F w k27 (m + 1) 0 a1 c0 (nI n) w (w + 1) a7 (nI (mxT (rk K n) v)) a9 (nI v) s = _
      rw [m_L_isRefined_184]; dsimp only
      rw [if_neg (nI_ge hv (by omega)), row]
  · obtain ⟨a, s⟩ := st
    obtain ⟨i0, i1, i2⟩ := hI
    dsimp only at i0 i1 i2
    subst i0
    refine ⟨s, ?_, i1, i2⟩
    show m_L_isRefined_184 F w k27 (m + 1) 0 a1 c0 (nI n) w (w + 1) a7 (nI (mxT (rk K n) n)) a9 (nI n) s = _
    rw [m_L_isRefined_184]; dsimp only
    rw [if_pos (nI_le (Nat.le_refl _) (by omega)), nm_eq]
end
