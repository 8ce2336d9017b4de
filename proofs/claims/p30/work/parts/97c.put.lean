/-! THE LAW'S PUT: a code whose vertices are put onto places by a map -/
section
def cQ (n : Nat) (c q : Nat → Nat) (k i : Nat) : Nat := if i < n ∧ q i < k then c (q i) else 0
def aQ (n : Nat) (A : Nat → Nat → Bool) (q : Nat → Nat) (k j x y : Nat) : Bool := decide (x < n ∧ y < n ∧ ((q x < k ∧ q y < k) ∨ (q x = k ∧ q y < j) ∨ (q y = k ∧ q x < j))) && A (q x) (q y)
theorem cQ_8 {n : Nat} (hn : n ≤ 8) {c q : Nat → Nat} (hc : C8 c) (k : Nat) (hk : k ≤ 8) : C8 (cQ n c q k) := fun i hi => by
  unfold cQ
  by_cases h : i < n ∧ q i < k
  · rw [if_pos h]; exact hc _ (by omega)
  · rw [if_neg h]; omega
theorem cQ_s {n : Nat} (hn : n ≤ 8) {c p : Nat → Nat} (hp : IsN n p) {k : Nat} (hk : k < n) : upN (cQ n c (iv p) k) (p k) (c k) = cQ n c (iv p) (k + 1) := by
  funext i
  have hpk := hp.lt hn hk
  unfold upN cQ
  by_cases e : i = p k
  · rw [if_pos e, e, iv_l hp.1, if_pos ⟨hpk, by omega⟩]
  · rw [if_neg e]
    have hne : iv p i ≠ k := fun z => e (by rw [← z, iv_r hp.1])
    by_cases h : i < n ∧ iv p i < k
    · rw [if_pos h, if_pos ⟨h.1, by omega⟩]
    · rw [if_neg h, if_neg (fun z => h ⟨z.1, by omega⟩)]
theorem aQ_0 {n : Nat} {A : Nat → Nat → Bool} {q : Nat → Nat} {k : Nat} : aQ n A q k k = aQ n A q (k + 1) 0 ∨ True := Or.inr trivial
theorem aQ_sym {n : Nat} {A : Nat → Nat → Bool} (hA : Sym A) (q : Nat → Nat) (k j : Nat) : Sym (aQ n A q k j) := fun x y => by
  unfold aQ
  rw [hA (q x) (q y)]
  congr 1
  exact decide_eq_decide.mpr (by omega)
theorem aQ_s {n : Nat} (hn : n ≤ 8) {A : Nat → Nat → Bool} (hA : Sym A) {p : Nat → Nat} (hp : IsN n p) {k j : Nat} (hk : k < n) (hj : j < k) : (if A k j = true then upA (aQ n A (iv p) k j) (p k) (p j) true else aQ n A (iv p) k j) = aQ n A (iv p) k (j + 1) := by
  have hpk := hp.lt hn hk
  have hpj := hp.lt hn (show j < n by omega)
  funext x y
  have ex : ∀ z v, iv p z = v ↔ z = p v := fun z v => ⟨fun h => by rw [← h, iv_r hp.1], fun h => by rw [h, iv_l hp.1]⟩
  by_cases c : (x = p k ∧ y = p j) ∨ (x = p j ∧ y = p k)
  · have hR : aQ n A (iv p) k (j + 1) x y = A k j := by
      unfold aQ
      rcases c with ⟨rfl, rfl⟩ | ⟨rfl, rfl⟩
      · rw [iv_l hp.1, iv_l hp.1, decide_eq_true (by omega), Bool.true_and]
      · rw [iv_l hp.1, iv_l hp.1, decide_eq_true (by omega), Bool.true_and, hA]
    have hL : aQ n A (iv p) k j x y = false := by
      unfold aQ
      rcases c with ⟨rfl, rfl⟩ | ⟨rfl, rfl⟩
      · rw [iv_l hp.1, iv_l hp.1, decide_eq_false (by omega), Bool.false_and]
      · rw [iv_l hp.1, iv_l hp.1, decide_eq_false (by omega), Bool.false_and]
    rw [hR]
    by_cases e : A k j = true
    · rw [if_pos e, e]
      unfold upA
      rw [if_pos c]
    · rw [if_neg e, hL, Bool.eq_false_iff.mpr e]
  · have h1 : ¬ ((iv p x = k ∧ iv p y = j) ∨ (iv p x = j ∧ iv p y = k)) := by
      rw [ex, ex, ex, ex]; exact c
    have hR : aQ n A (iv p) k (j + 1) x y = aQ n A (iv p) k j x y := by
      unfold aQ
      congr 1
      exact decide_eq_decide.mpr (by omega)
    rw [hR]
    by_cases e : A k j = true
    · rw [if_pos e]
      unfold upA
      rw [if_neg c]
    · rw [if_neg e]
theorem aQ_end {n : Nat} {A : Nat → Nat → Bool} (h0 : ∀ i, A i i = false) {q : Nat → Nat} {k : Nat} : aQ n A q k k = aQ n A q (k + 1) 0 := by
  funext x y
  unfold aQ
  by_cases e : q x = k ∧ q y = k
  · rw [e.1, e.2, h0, Bool.and_false, Bool.and_false]
  · congr 1
    exact decide_eq_decide.mpr (by omega)
/-- what put answers -/
def pC (n : Nat) (c q : Nat → Nat) (i : Nat) : Nat := if i < n then c (q i) else 0
def pA (n : Nat) (A : Nat → Nat → Bool) (q : Nat → Nat) (x y : Nat) : Bool := decide (x < n ∧ y < n) && A (q x) (q y)
theorem kc_0 (n : Nat) (A : Nat → Nat → Bool) (q c : Nat → Nat) : kc n (cQ n c q 0) (aQ n A q 0 0) = n * 2 ^ 52 := by
  have e1 : rv 8 (cQ n c q 0) = 0 := by
    have : rv 8 (cQ n c q 0) = rv 8 (fun _ => 0) := rv_cong (fun i _ => by
      unfold cQ
      rw [if_neg (by omega)])
    rw [this]
    decide +kernel
  have e2 : eb 8 (aQ n A q 0 0) = 0 := by
    have : eb 8 (aQ n A q 0 0) = eb 8 (fun _ _ => false) := eb_cong (fun i j _ _ => by
      unfold aQ
      rw [decide_eq_false (by omega), Bool.false_and])
    rw [this]
    decide +kernel
  unfold kc pk5
  rw [e1, e2]
  omega
theorem put_eq (F : Nat) (hF : 9 < F) (w : Nat) {n num : Nat} (hn : n < 6) (hnum : num < fac n) {c : Nat → Nat} (hc : C8 c) {A : Nat → Nat → Bool} (hA : Sym A) (h0 : ∀ i, A i i = false) (σ : zST) : ∃ τ, m_L_put F w (lN (kc n c A)) (nI num) σ = some (lN (kc n (pC n c (iv (pmn n num))) (pA n A (iv (pmn n num)))), τ) ∧ Fr (fun p _ => p = w) σ τ := by
  have hp := pmn_N hn hnum
  generalize hpe : pmn n num = p at hp ⊢
  have h8 : n ≤ 8 := by omega
  have him : ∀ i, i < n → gim n num i = p i := fun i hi => by rw [← hpe, pmn_in hi]
  unfold m_L_put
  rw [size_eq F h8 hc A, bd_some, nm_eq]
  unfold m_L_put_9
  rw [nI_l (by omega), show (52 : Int32) = nI 52 from rfl, L_shl _ (by omega), nm_eq, ← kc_0 n A (iv p) c]
  have f1 : Fr (fun p _ => p = w) σ (clI σ w) := fun q j hq => ⟨by show (if q = w then fun _ => (0 : Int32) else σ.1 q) j = _; rw [if_neg hq]; rfl, rfl⟩
  refine up_inv0 (fun m (k : Int32) (st : Int64 × zST) => m_L_put_21 F w m (lN (kc n c A)) (nI num) (nI n) w st.1 k st.2) n (fun k st => st.1 = lN (kc n (cQ n c (iv p) k) (aQ n A (iv p) k 0)) ∧ (∀ i, i < k → gI st.2 w i = nI (p i)) ∧ Fr (fun p _ => p = w) σ st.2) (fun o => ∃ τ, o = some (lN (kc n (pC n c (iv p)) (pA n A (iv p))), τ) ∧ Fr (fun p _ => p = w) σ τ) (fun m k st hk hI => ?_) (fun m st hI => ?_) (show n < F by omega) (s := (lN (kc n (cQ n c (iv p) 0) (aQ n A (iv p) 0 0)), clI σ w)) ⟨rfl, fun i hi => absurd hi (by omega), f1⟩
  · obtain ⟨a, s⟩ := st
    obtain ⟨i1, i2, i3⟩ := hI
    dsimp only at i1 i2 i3
    subst i1
    have hpk := hp.lt h8 hk
    generalize hs1 : sI s w k (nI (p k)) = s1
    have i2' : ∀ i, i < k + 1 → gI s1 w i = nI (p i) := fun i hi => by
      subst hs1
      rw [gI_sI]
      by_cases e : i = k
      · rw [if_pos ⟨rfl, e⟩, e]
      · rw [if_neg (fun z => e z.2), i2 i (by omega)]
    refine ⟨(lN (kc n (cQ n c (iv p) (k + 1)) (aQ n A (iv p) (k + 1) 0)), s1), ⟨rfl, i2', i3.tr (by subst hs1; exact Fr.sI rfl)⟩, ?_⟩
    show m_L_put_21 F w (m + 1) (lN (kc n c A)) (nI num) (nI n) w (lN (kc n (cQ n c (iv p) k) (aQ n A (iv p) k 0))) (nI k) s = m_L_put_21 F w m (lN (kc n c A)) (nI num) (nI n) w _ (nI (k + 1)) s1
    have hcQ := cQ_8 h8 (q := iv p) hc k (by omega)
    have hcQ' := cQ_8 h8 (q := iv p) hc (k + 1) (by omega)
    rw [m_L_put_21]; dsimp only
    rw [if_neg (nI_ge hk (by omega)), image_eq F hF hn hnum hk, bd_some, him k hk, stI_at (by omega) (by omega), hs1, ldI_at (by omega) (by omega), i2' k (by omega), colour_eq F h8 hc A (by omega), bd_some, coloured_eq F hcQ _ (by omega) (hc k (by omega)), bd_some, cQ_s h8 hp hk, ← aQ_end h0]
    refine up_loop0 (fun g (j : Int32) (st : Int64) => m_L_put_60 F w (m_L_put_21 F w m) g (lN (kc n c A)) (nI num) (nI n) w st (nI k) j s1) k (fun j => lN (kc n (cQ n c (iv p) (k + 1)) (aQ n A (iv p) k j))) _ (fun g j hj => ?_) (fun g => ?_) (show k < F by omega)
    · have hpj := hp.lt h8 (show j < n by omega)
      have hne : p k ≠ p j := fun z => by have := hp.inj z; omega
      show m_L_put_60 F w (m_L_put_21 F w m) (g + 1) (lN (kc n c A)) (nI num) (nI n) w (lN (kc n (cQ n c (iv p) (k + 1)) (aQ n A (iv p) k j))) (nI k) (nI j) s1 = m_L_put_60 F w (m_L_put_21 F w m) g (lN (kc n c A)) (nI num) (nI n) w (lN (kc n (cQ n c (iv p) (k + 1)) (aQ n A (iv p) k (j + 1)))) (nI k) (nI (j + 1)) s1
      rw [m_L_put_60]; dsimp only
      unfold m_L_put_99
      rw [if_neg (nI_ge hj (by omega)), edge_eq F (by omega) h8 hc hA (by omega) (by omega) h0, bd_some, ← aQ_s h8 hA hp hk hj]
      by_cases e : A k j = true
      · rw [e, if_neg (by decide +kernel), if_pos rfl, ldI_at (by omega) (by omega), ldI_at (by omega) (by omega), i2' k (by omega), i2' j (by omega), bit_eq F (by omega) (by omega) (by omega) hne, bd_some, kc_set hcQ' _ (by omega) (by omega) hne, nm_eq, nm_eq, nI_1]
      · rw [Bool.eq_false_iff.mpr e, if_pos (by decide +kernel), if_neg (by decide), kc_or0, nm_eq, nm_eq, nI_1]
    · show m_L_put_60 F w (m_L_put_21 F w m) (g + 1) (lN (kc n c A)) (nI num) (nI n) w (lN (kc n (cQ n c (iv p) (k + 1)) (aQ n A (iv p) k k))) (nI k) (nI k) s1 = _
      rw [m_L_put_60]; dsimp only
      rw [if_pos (nI_le (Nat.le_refl _) (by omega)), nm_eq, nI_1]
  · obtain ⟨a, s⟩ := st
    obtain ⟨i1, i2, i3⟩ := hI
    dsimp only at i1 i2 i3
    subst i1
    refine ⟨s, ?_, i3⟩
    show m_L_put_21 F w (m + 1) (lN (kc n c A)) (nI num) (nI n) w _ (nI n) s = _
    rw [m_L_put_21]; dsimp only
    rw [if_pos (nI_le (Nat.le_refl _) (by omega))]
    congr 2
    congr 1
    refine kc_cong (fun i hi => ?_) (fun x y hxy hy => ?_)
    · unfold cQ pC
      by_cases h : i < n
      · rw [if_pos h, if_pos ⟨h, hp.iv.lt h8 h⟩]
      · rw [if_neg h, if_neg (fun z => h z.1)]
    · unfold aQ pA
      congr 1
      refine decide_eq_decide.mpr ⟨fun h => ⟨h.1, h.2.1⟩, fun h => ⟨h.1, h.2, Or.inl ⟨hp.iv.lt h8 h.1, hp.iv.lt h8 h.2⟩⟩⟩
/-- of a graph's code -/
def cde (n : Nat) (M C w : Nat → Nat) : Nat := 2 ^ 52 * n + cod n M C w
theorem pC_g {n : Nat} (hn : n ≤ 8) {C q w : Nat → Nat} (hq : IsN n q) : pC n (gC n C w) q = gC n C (fun i => w (q i)) := by
  funext i
  unfold pC gC
  by_cases h : i < n
  · rw [if_pos h, if_pos h, if_pos (hq.lt hn h)]
  · rw [if_neg h, if_neg h]
theorem pA_g {n : Nat} (hn : n ≤ 8) {M q w : Nat → Nat} (hq : IsN n q) : pA n (gA n M w) q = gA n M (fun i => w (q i)) := by
  funext x y
  unfold pA gA
  by_cases h : x < n ∧ y < n
  · rw [decide_eq_true h, decide_eq_true (show q x < n ∧ q y < n from ⟨hq.lt hn h.1, hq.lt hn h.2⟩), Bool.true_and, Bool.true_and]
  · rw [decide_eq_false h, Bool.false_and, Bool.false_and]
theorem putg_eq (F : Nat) (hF : 9 < F) (w : Nat) {n num : Nat} (hn : n < 6) (hnum : num < fac n) {M C : Nat → Nat} (hG : Gr n M C) (σ : zST) : ∃ τ, m_L_put F w (lN (cde n M C (fun i => i))) (nI num) σ = some (lN (cde n M C (iv (pmn n num))), τ) ∧ Fr (fun p _ => p = w) σ τ := by
  have hw : ∀ i, i < n → (fun i => i) i < 8 := fun i hi => by show i < 8; omega
  have hp := pmn_N hn hnum
  obtain ⟨τ, h1, h2⟩ := put_eq F hF w hn hnum (gC_8 hG hw) (gA_sym hG hw) (gA_0 hG hw) σ
  rw [pC_g (by omega) hp.iv, pA_g (by omega) hp.iv, kc_cod (by omega), kc_cod (by omega)] at h1
  exact ⟨τ, h1, h2⟩
theorem cde_lt {n : Nat} (hn : n ≤ 8) {M C w : Nat → Nat} (hG : Gr n M C) (hw : IsN n w) : cde n M C w < 2 ^ 63 := code_lt hn hw (fun v hv => (hG.2 v hv).1)
theorem sizeg_eq (F : Nat) {n : Nat} {M C : Nat → Nat} (hG : Gr n M C) (σ : zST) : m_L_size F (lN (cde n M C (fun i => i))) σ = some (nI n, σ) := by
  have hn := hG.1.2
  have := size_eq F hn (gC_8 hG (w := fun i => i) (fun i hi => by show i < 8; omega)) (gA n M (fun i => i)) σ
  rw [kc_cod hn] at this
  exact this
theorem colourg_eq (F : Nat) {n : Nat} {M C : Nat → Nat} (hG : Gr n M C) {v : Nat} (hv : v < n) (σ : zST) : m_L_colour F (lN (cde n M C (fun i => i))) (nI v) σ = some (nI (C v), σ) := by
  have hn := hG.1.2
  have := colour_eq F hn (gC_8 hG (w := fun i => i) (fun i hi => by show i < 8; omega)) (gA n M (fun i => i)) (v := v) (by omega) σ
  rw [kc_cod hn] at this
  unfold cde
  rw [this]
  unfold gC
  rw [if_pos hv]
theorem edgeg_eq (F : Nat) (hF : 8 < F) {n : Nat} {M C : Nat → Nat} (hG : Gr n M C) {u v : Nat} (hu : u < n) (hv : v < n) (σ : zST) : m_L_edge F (lN (cde n M C (fun i => i))) (nI u) (nI v) σ = some (bI ((M u).testBit v), σ) := by
  have hn := hG.1.2
  have hw : ∀ i, i < n → (fun i => i) i < 8 := fun i hi => by show i < 8; omega
  have := edge_eq F hF hn (gC_8 hG hw) (gA_sym hG hw) (i := u) (j := v) (by omega) (by omega) (gA_0 hG hw) σ
  rw [kc_cod hn] at this
  unfold cde
  rw [this]
  unfold gA
  rw [decide_eq_true ⟨hu, hv⟩, Bool.true_and]
end
