/-! MATHEMATICS, 60: copies -/
section
/-- the bits of b at the members of t, pushed together -/
def sqz (b t : Nat) : Nat → Nat
  | 0 => 0
  | i + 1 => if t.testBit i then sqz b t i ||| (b.testBit i).toNat * 2 ^ cnt (fun i => t.testBit i) i else sqz b t i
theorem sqz_bit (b t j : Nat) : ∀ n, (sqz b t n).testBit j = true ↔ ∃ v, v < n ∧ t.testBit v = true ∧ cnt (fun i => t.testBit i) v = j ∧ b.testBit v = true
  | 0 => by
    rw [sqz, Nat.zero_testBit]
    constructor
    · intro h; exact absurd h (by decide)
    · rintro ⟨v, h, _⟩; omega
  | n + 1 => by
    have ih := sqz_bit b t j n
    rw [sqz]
    split
    · rename_i h
      rw [Nat.testBit_or, Bool.or_eq_true, ih]
      cases e : b.testBit n
      · have : (Bool.toNat false * 2 ^ cnt (fun i => t.testBit i) n).testBit j = false := by
          show (0 * _).testBit j = false
          rw [Nat.zero_mul, Nat.zero_testBit]
        rw [this]
        constructor
        · rintro (⟨v, h1, h2⟩ | z)
          · exact ⟨v, by omega, h2⟩
          · exact absurd z (by decide)
        · rintro ⟨v, h1, h2, h3, h4⟩
          have : v ≠ n := fun z => by rw [z, e] at h4; exact absurd h4 (by decide)
          exact Or.inl ⟨v, by omega, h2, h3, h4⟩
      · have : (Bool.toNat true * 2 ^ cnt (fun i => t.testBit i) n).testBit j = decide (cnt (fun i => t.testBit i) n = j) := by
          show (1 * _).testBit j = _
          rw [Nat.one_mul, Nat.testBit_two_pow]
        rw [this, decide_eq_true_iff]
        constructor
        · rintro (⟨v, h1, h2⟩ | z)
          · exact ⟨v, by omega, h2⟩
          · exact ⟨n, by omega, h, z, e⟩
        · rintro ⟨v, h1, h2, h3, h4⟩
          by_cases z : v = n
          · right; rw [← h3, z]
          · exact Or.inl ⟨v, by omega, h2, h3, h4⟩
    · rename_i h
      rw [ih]
      constructor
      · rintro ⟨v, h1, h2⟩; exact ⟨v, by omega, h2⟩
      · rintro ⟨v, h1, h2, h3⟩
        have : v ≠ n := fun z => h (by rw [← z]; exact h2)
        exact ⟨v, by omega, h2, h3⟩
theorem bI_nat (b : Bool) : bI b = nI b.toNat := by cases b <;> rfl
theorem squeeze_eq (F : Nat) (hF : 8 < F) {b t : Nat} (hb : b < 256) (ht : t < 256) (σ : zST) : m_X2_squeeze F (nI b) (nI t) σ = some (nI (sqz b t 8), σ) := by
  unfold m_X2_squeeze
  have := up_loop0 (fun m (i : Int32) (st : Int32 × Int32) => m_X2_squeeze_7 F m (nI b) (nI t) st.1 st.2 i σ) 8 (fun i => (nI (sqz b t i), nI (cnt (fun i => t.testBit i) i))) (some (nI (sqz b t 8), σ)) (fun m i hi => ?_) (fun m => ?_) hF
  · exact this
  · show m_X2_squeeze_7 F (m + 1) (nI b) (nI t) (nI (sqz b t i)) (nI (cnt (fun i => t.testBit i) i)) (nI i) σ = m_X2_squeeze_7 F m (nI b) (nI t) (nI (sqz b t (i + 1))) (nI (cnt (fun i => t.testBit i) (i + 1))) (nI (i + 1)) σ
    have hc := cnt_le (fun i => t.testBit i) i
    rw [m_X2_squeeze_7]; dsimp only
    unfold m_X2_squeeze_37
    rw [l8, if_neg (nI_ge hi (by omega)), isIn_b F (by omega) (by omega), bd_some, sqz, cnt_s]
    cases e : t.testBit i
    · rw [if_pos (by decide +kernel), nm_eq, nI_1, if_neg (by decide)]
      rfl
    · rw [if_neg (by decide +kernel), if_pos rfl, shr_and1 (by omega) (by omega), bI_nat, b_shl _ (by omega), b_or, nm_eq, nm_eq, nm_eq, nI_1, nI_1]
      rfl
  · show m_X2_squeeze_7 F (m + 1) (nI b) (nI t) (nI (sqz b t 8)) _ (nI 8) σ = _
    rw [m_X2_squeeze_7]; dsimp only
    rw [l8, if_pos (nI_le (by omega) (by omega))]
/-- the j-th member -/
theorem el_ex (t j : Nat) (h : j < pop t) : ∃ u, u < 8 ∧ t.testBit u = true ∧ cnt (fun i => t.testBit i) u = j := cnt_at (P := fun i => t.testBit i) (k := 8) h
noncomputable def el (t j : Nat) : Nat := if h : j < pop t then Classical.choose (el_ex t j h) else 0
theorem el_ok {t j : Nat} (h : j < pop t) : el t j < 8 ∧ t.testBit (el t j) = true ∧ cnt (fun i => t.testBit i) (el t j) = j := by
  have e : el t j = Classical.choose (el_ex t j h) := dif_pos h
  rw [e]
  exact Classical.choose_spec (el_ex t j h)
theorem mem_inj {t u v : Nat} (hu : t.testBit u = true) (hv : t.testBit v = true) (h : cnt (fun i => t.testBit i) u = cnt (fun i => t.testBit i) v) : u = v := by
  rcases Nat.lt_trichotomy u v with z | z | z
  · have := cnt_lt_of (P := fun i => t.testBit i) z hu; omega
  · exact z
  · have := cnt_lt_of (P := fun i => t.testBit i) z hv; omega
theorem el_cnt {t v : Nat} (hv : v < 8) (hb : t.testBit v = true) : cnt (fun i => t.testBit i) v < pop t ∧ el t (cnt (fun i => t.testBit i) v) = v := by
  have h : cnt (fun i => t.testBit i) v < pop t := cnt_lt_of (P := fun i => t.testBit i) hv hb
  obtain ⟨_, a, b⟩ := el_ok h
  exact ⟨h, mem_inj a hb b⟩
/-- the part of a graph -/
noncomputable def MP (M : Nat → Nat) (t j : Nat) : Nat := if j < pop t then sqz (M (el t j)) t 8 else 0
noncomputable def CP (C : Nat → Nat) (t j : Nat) : Nat := if j < pop t then C (el t j) else 0
theorem MP_bit {M : Nat → Nat} {t i j : Nat} (hi : i < pop t) (hj : j < pop t) : (MP M t i).testBit j = (M (el t i)).testBit (el t j) := by
  unfold MP
  rw [if_pos hi, Bool.eq_iff_iff, sqz_bit]
  obtain ⟨e1, e2, e3⟩ := el_ok hj
  constructor
  · rintro ⟨v, h1, h2, h3, h4⟩
    rw [mem_inj e2 h2 (by rw [e3, h3])]
    exact h4
  · intro h
    exact ⟨_, e1, e2, e3, h⟩
theorem MP_hi {M : Nat → Nat} {t i j : Nat} (h : (MP M t i).testBit j = true) : i < pop t ∧ j < pop t := by
  unfold MP at h
  by_cases hi : i < pop t
  · rw [if_pos hi, sqz_bit] at h
    obtain ⟨v, h1, h2, h3, _⟩ := h
    rw [← h3]
    exact ⟨hi, cnt_lt_of (P := fun i => t.testBit i) h1 h2⟩
  · rw [if_neg hi, Nat.zero_testBit] at h
    exact absurd h (by decide)
theorem part_gr {n : Nat} {M C : Nat → Nat} (hG : Gr n M C) {t : Nat} (ht : 1 ≤ pop t) : Gr (pop t) (MP M t) (CP C t) := by
  refine ⟨⟨ht, pop_le t⟩, fun v hv => ⟨?_, ?_, fun h => ?_, ?_, fun u hu => ?_⟩⟩
  · unfold CP
    split
    · rename_i h
      exact (hG.2 _ (el_ok h).1).1
    · omega
  · refine Nat.lt_pow_two_of_testBit _ (fun j hj => ?_)
    cases e : (MP M t v).testBit j
    · rfl
    · have := (MP_hi e).2; omega
  · unfold MP
    rw [if_neg (by omega)]
  · cases e : (MP M t v).testBit v
    · rfl
    · have h := (MP_hi e).1
      rw [MP_bit h h] at e
      rw [(hG.2 _ (el_ok h).1).2.2.2.1] at e
      exact absurd e (by decide)
  · by_cases h : u < pop t ∧ v < pop t
    · rw [MP_bit h.1 h.2, MP_bit h.2 h.1]
      exact hG.sy (el_ok h.1).1 (el_ok h.2).1
    · have e1 : (MP M t u).testBit v = false := by
        cases e : (MP M t u).testBit v
        · rfl
        · exact absurd (MP_hi e) h
      have e2 : (MP M t v).testBit u = false := by
        cases e : (MP M t v).testBit u
        · rfl
        · exact absurd ⟨(MP_hi e).2, (MP_hi e).1⟩ h
      rw [e1, e2]
theorem part_eq (F : Nat) (hF : 8 < F) {p n : Nat} (hp : p + 2 < 14) {M C : Nat → Nat} {σ : zST} (hG : Gr n M C) (hA : At p n M C σ) {t : Nat} (ht : t < 2 ^ n) : ∃ τ, m_X2_becomePart F 14 p (nI t) σ = some τ ∧ AN 14 (pop t) (MP M t) (CP C t) τ ∧ Fr (fun q _ => 14 ≤ q ∧ q ≤ 16) σ τ := by
  have h8 := hG.1.2
  have hpn := pow8 h8
  have hbn : ∀ v, t.testBit v = true → v < n := fun v hv => by
    apply Classical.byContradiction
    intro z
    have : t < 2 ^ v := Nat.lt_of_lt_of_le ht (Nat.pow_le_pow_right (by omega) (by omega))
    rw [Nat.testBit_lt_two_pow this] at hv
    exact absurd hv (by decide)
  unfold m_X2_becomePart
  rw [nm_eq]
  refine up_inv0 (fun m (i : Int32) (s : zST) => m_X2_becomePart_7 F m 14 p (nI t) i s) n
    (fun i s => gI s 14 0 = nI (cnt (fun i => t.testBit i) i) ∧ (∀ v, v < i → t.testBit v = true → gI s 15 (cnt (fun i => t.testBit i) v) = nI (sqz (M v) t 8) ∧ gI s 16 (cnt (fun i => t.testBit i) v) = nI (C v)) ∧ Fr (fun q _ => 14 ≤ q ∧ q ≤ 16) σ s)
    (fun o => ∃ τ, o = some τ ∧ AN 14 (pop t) (MP M t) (CP C t) τ ∧ Fr (fun q _ => 14 ≤ q ∧ q ≤ 16) σ τ) ?_ ?_ (show n < F by omega) (s := sI σ 14 0 0) ⟨by rw [gI_same]; rfl, fun v hv => absurd hv (by omega), Fr.sI (by omega)⟩
  · rintro m i s hi ⟨h1, h2, h3⟩
    have hAs := hA.mv h3 (fun q j _ _ => by omega)
    have hc := cnt_le (fun i => t.testBit i) i
    cases e : t.testBit i
    · refine ⟨s, ⟨by rw [h1, cnt_s, e]; rfl, fun v hv hb => h2 v (by
        have : v ≠ i := fun z => by rw [z, e] at hb; exact absurd hb (by decide)
        omega) hb, h3⟩, ?_⟩
      show m_X2_becomePart_7 F (m + 1) 14 p (nI t) (nI i) s = _
      rw [m_X2_becomePart_7]; dsimp only
      unfold m_X2_becomePart_67
      rw [hAs.1, if_neg (nI_ge hi (by omega)), isIn_b F (by omega) (by omega), bd_some, e, if_pos (by decide +kernel), nI_1, nm_eq]
    · have hMi := hG.lt (show i < 8 by omega)
      refine ⟨sI (sI (sI s 16 (cnt (fun i => t.testBit i) i) (nI (C i))) 15 (cnt (fun i => t.testBit i) i) (nI (sqz (M i) t 8))) 14 0 (nI (cnt (fun i => t.testBit i) i + 1)), ⟨?_, fun v hv hb => ?_, h3.tr (((Fr.sI (by omega)).tr (Fr.sI (by omega))).tr (Fr.sI (by omega)))⟩, ?_⟩
      · rw [gI_same, cnt_s, e]; rfl
      · by_cases z : v = i
        · rw [z]
          constructor
          · rw [gI_sI, if_neg (by omega), gI_same]
          · rw [gI_sI, if_neg (by omega), gI_sI, if_neg (by omega), gI_same]
        · have hne : cnt (fun i => t.testBit i) v ≠ cnt (fun i => t.testBit i) i := fun w => z (mem_inj hb e w)
          obtain ⟨a, b⟩ := h2 v (by omega) hb
          constructor
          · rw [gI_sI, if_neg (by omega), gI_sI, if_neg (fun w => hne w.2), gI_sI, if_neg (by omega), a]
          · rw [gI_sI, if_neg (by omega), gI_sI, if_neg (by omega), gI_sI, if_neg (fun w => hne w.2), b]
      · show m_X2_becomePart_7 F (m + 1) 14 p (nI t) (nI i) s = _
        rw [m_X2_becomePart_7]; dsimp only
        unfold m_X2_becomePart_67
        simp only [Nat.reduceAdd]
        have g1 : gI (sI s 16 (cnt (fun i => t.testBit i) i) (nI (C i))) 14 0 = nI (cnt (fun i => t.testBit i) i) := by rw [gI_sI, if_neg (by omega), h1]
        have g2 : gI (sI s 16 (cnt (fun i => t.testBit i) i) (nI (C i))) (p + 1) i = nI (M i) := by rw [gI_sI, if_neg (by omega), (hAs.2 i (by omega)).1]
        rw [hAs.1, if_neg (nI_ge hi (by omega)), isIn_b F (by omega) (by omega), bd_some, e, if_neg (by decide +kernel), ldI_at (by omega) (by omega), (hAs.2 i (by omega)).2, h1, stI_at (by omega) (by omega), ldI_at (by omega) (by omega), g2, squeeze_eq F hF hMi (by omega), bd_some, g1, stI_at (by omega) (by omega), gI_sI, if_neg (by omega), g1, nI_1, nI_1, nm_eq, nm_eq]
  · rintro m s ⟨h1, h2, h3⟩
    have hAs := hA.mv h3 (fun q j _ _ => by omega)
    have hall : cnt (fun i => t.testBit i) n = pop t := by
      have : ∀ d, n + d ≤ 8 → cnt (fun i => t.testBit i) (n + d) = cnt (fun i => t.testBit i) n := by
        intro d
        induction d with
        | zero => intro _; rfl
        | succ d ih =>
          intro hd
          rw [Nat.add_succ, cnt_s, ih (by omega)]
          cases e : t.testBit (n + d)
          · rfl
          · have := hbn _ e; omega
      have e := this (8 - n) (by omega)
      rw [show n + (8 - n) = 8 from by omega] at e
      rw [← e]
      rfl
    refine ⟨s, ?_, ⟨by rw [h1, hall], fun j hj => ?_⟩, h3⟩
    · show m_X2_becomePart_7 F (m + 1) 14 p (nI t) (nI n) s = _
      rw [m_X2_becomePart_7]; dsimp only
      rw [hAs.1, if_pos (nI_le (Nat.le_refl _) (by omega))]
    · obtain ⟨a1, a2, a3⟩ := el_ok hj
      obtain ⟨b1, b2⟩ := h2 (el t j) (hbn _ a2) a2
      rw [a3] at b1 b2
      unfold MP CP
      rw [if_pos hj, if_pos hj]
      exact ⟨b1, b2⟩
theorem countE_an (F : Nat) (hF : 8 < F) {p n : Nat} {M C : Nat → Nat} {σ : zST} (hG : Gr n M C) (hA : AN p n M C σ) : m_X2_countEdges F p σ = some (nI (edg M), σ) := by
  have h8 := hG.1.2
  have hb : ∀ i, i ≤ 8 → sumTo (fun v => pop (M v)) i ≤ 64 := fun i hi => Nat.le_trans (sumTo_le _ 8 i (fun j _ => pop_le _)) (by omega)
  have h := up_loop0 (fun m (i : Int32) (s : Int32) => m_X2_countEdges_4 F m p s i σ) n (fun i => nI (sumTo (fun v => pop (M v)) i)) (some (nI (edg M), σ))
    (fun m i hi => by
      show m_X2_countEdges_4 F (m + 1) p _ (nI i) σ = _
      rw [m_X2_countEdges_4]; dsimp only
      rw [hA.1, if_neg (nI_ge hi (by omega)), ldI_at (by omega) (by omega), (hA.2 i (by omega)).1, bitCount_eq F (hG.lt (by omega)), bd_some, nm_eq, nm_eq, nI_add, nI_1]
      rfl)
    (fun m => by
      have := hb n h8
      show m_X2_countEdges_4 F (m + 1) p _ (nI n) σ = _
      rw [m_X2_countEdges_4]; dsimp only
      rw [hA.1, if_pos (nI_le (by omega) (by omega)), l2, pk_div (by omega) (by omega) (by omega), handshake hG, Nat.mul_div_cancel_left _ (by omega)]) (Nat.lt_of_le_of_lt h8 hF)
  exact h
theorem edg_lt {n : Nat} {M C : Nat → Nat} (hG : Gr n M C) : edg M < 64 := by
  have h := handshake hG
  have h2 : sumTo (fun v => pop (M v)) n ≤ n * 8 := sumTo_le _ 8 n (fun j _ => pop_le _)
  have := hG.1.2
  omega
/-- sums by layers -/
theorem sumTo_add (f g : Nat → Nat) : ∀ n, sumTo (fun i => f i + g i) n = sumTo f n + sumTo g n
  | 0 => rfl
  | n + 1 => by rw [sumTo, sumTo, sumTo, sumTo_add f g n]; omega
theorem layer (x : Nat) : ∀ b, sumTo (fun c => (decide (c < x)).toNat) b = min x b
  | 0 => by rw [sumTo]; omega
  | b + 1 => by
    rw [sumTo, layer x b]
    by_cases h : b < x
    · rw [decide_eq_true h]; show _ + 1 = _; omega
    · rw [decide_eq_false h]; show _ + 0 = _; omega
theorem sum_layers {f : Nat → Nat} {b : Nat} : ∀ {n : Nat}, (∀ i, i < n → f i ≤ b) → sumTo f n = sumTo (fun c => cnt (fun i => decide (c < f i)) n) b
  | 0, _ => by
    rw [sumTo]
    have : ∀ b, sumTo (fun c => cnt (fun i => decide (c < f i)) 0) b = 0 := by
      intro b
      induction b with
      | zero => rfl
      | succ b ih => rw [sumTo, ih]; rfl
    exact (this b).symm
  | n + 1, h => by
    rw [sumTo, sum_layers (n := n) (fun i hi => h i (by omega)), sumTo_cong (f := fun c => cnt (fun i => decide (c < f i)) (n + 1)) (g := fun c => cnt (fun i => decide (c < f i)) n + (decide (c < f n)).toNat) (fun c _ => cnt_s _ _), sumTo_add, layer]
    have := h n (by omega)
    omega
theorem pop_n {n : Nat} (hn : n ≤ 8) {a : Nat} (h : ∀ y, a.testBit y = true → y < n) : pop a = cnt (fun y => a.testBit y) n := by
  have e : a = msk (fun y => a.testBit y) n := by
    apply Nat.eq_of_testBit_eq
    intro y
    rw [msk_bit]
    cases q : a.testBit y
    · rw [Bool.and_false]
    · rw [decide_eq_true (h y q)]; rfl
  have := msk_pop (P := fun y => a.testBit y) hn
  rw [← e] at this
  exact this
theorem edg_iso {n : Nat} (hn : n ≤ 8) {M C M2 C2 f : Nat → Nat} (hG : Gr n M C) (hG2 : Gr n M2 C2) (hf : Iso n M C M2 C2 f) : edg M = edg M2 := by
  have hb : ∀ {M C : Nat → Nat}, Gr n M C → ∀ v, v < n → ∀ y, (M v).testBit y = true → y < n := fun hG v hv y hy => by
    apply Classical.byContradiction
    intro z
    have := (hG.2 v (by omega)).2.1
    rw [Nat.testBit_lt_two_pow (Nat.lt_of_lt_of_le this (Nat.pow_le_pow_right (by omega) (by omega)))] at hy
    exact absurd hy (by decide)
  have hp : ∀ v, v < n → pop (M2 (f v)) = pop (M v) := fun v hv => by
    rw [pop_n hn (hb hG2 _ (hf.1.lt hn hv)), pop_n hn (hb hG v hv), ← cntN hn hf.1 (fun y => (M2 (f v)).testBit y)]
    exact cnt_cong (fun u hu => hf.2.2 v u hv hu)
  have h1 := handshake hG
  have h2 := handshake hG2
  rw [sum_layers (b := 8) (fun i _ => pop_le _)] at h1 h2
  have e : sumTo (fun c => cnt (fun i => decide (c < pop (M i))) n) 8 = sumTo (fun c => cnt (fun i => decide (c < pop (M2 i))) n) 8 := sumTo_cong (fun c _ => by
    rw [← cntN hn hf.1 (fun i => decide (c < pop (M2 i)))]
    exact cnt_cong (fun u hu => by rw [hp u hu]))
  omega
/-- whether the vertices t are a copy -/
noncomputable def Cpy (n : Nat) (M C M2 C2 : Nat → Nat) (t : Nat) : Bool := dc (pop t = n ∧ ∃ q, Iso n M C (MP M2 t) (CP C2 t) q)
theorem cpy_kp {n n2 : Nat} (hn : n ≤ 8) {M C M2 C2 q : Nat → Nat} (hG : Gr n M C) (hG2 : Gr n2 M2 C2) {t : Nat} (ht : pop t = n) (hq : IsN n q) : KPp M C M2 C2 (fun v => el t (q v)) n ↔ Iso n M C (MP M2 t) (CP C2 t) q := by
  subst ht
  rw [← kp_iso hn hG (part_gr hG2 hG.1.1) hq]
  have hc : ∀ v, v < pop t → CP C2 t (q v) = C2 (el t (q v)) := fun v hv => by
    unfold CP
    rw [if_pos (hq.lt hn hv)]
  have hm : ∀ v u, v < pop t → u < pop t → (MP M2 t (q v)).testBit (q u) = (M2 (el t (q v))).testBit (el t (q u)) := fun v u hv hu => MP_bit (hq.lt hn hv) (hq.lt hn hu)
  constructor
  · intro h v hv
    exact ⟨by rw [hc v hv]; exact (h v hv).1, fun u hu => by rw [hm v u hv (by omega)]; exact (h v hv).2 u hu⟩
  · intro h v hv
    exact ⟨by rw [← hc v hv]; exact (h v hv).1, fun u hu => by rw [← hm v u hv (by omega)]; exact (h v hv).2 u hu⟩
theorem copies_cl (F : Nat) (hF : 300 < F) {p p2 n n2 : Nat} (hp : p + 2 < 14) (hp2 : p2 + 2 < 14) {M C M2 C2 : Nat → Nat} {σ : zST} (hG : Gr n M C) (hA : At p n M C σ) (hG2 : Gr n2 M2 C2) (hA2 : At p2 n2 M2 C2 σ) {b : Nat → Nat} (hb : Opt n M C b) : ∃ τ, m_X7_copies_26 F F 0 p p2 (lN (2 ^ 52 * n + cod n M C b)) 0 1 σ = some (.inr (nI (cnt (Cpy n M C M2 C2) (2 ^ n2))), τ) ∧ Fr (fun q _ => (14 ≤ q ∧ q ≤ 16) ∨ (21 ≤ q ∧ q ≤ 25)) σ τ := by
  have h8 := hG.1.2
  have h82 := hG2.1.2
  have hpn := pow8 h82
  have hcode := code_lt h8 (M := M) hb.1 (fun v hv => (hG.2 v hv).1)
  have loop : ∀ (d t m : Nat) (s : zST), t + d = 2 ^ n2 → d < m → 1 ≤ t → Fr (fun q _ => (14 ≤ q ∧ q ≤ 16) ∨ (21 ≤ q ∧ q ≤ 25)) σ s → ∃ τ, m_X7_copies_26 F m 0 p p2 (lN (2 ^ 52 * n + cod n M C b)) (nI (cnt (Cpy n M C M2 C2) t)) (nI t) s = some (.inr (nI (cnt (Cpy n M C M2 C2) (2 ^ n2))), τ) ∧ Fr (fun q _ => (14 ≤ q ∧ q ≤ 16) ∨ (21 ≤ q ∧ q ≤ 25)) σ τ := by
    intro d
    induction d with
    | zero =>
      intro t m s h1 h2 h3 hf
      obtain ⟨m, rfl⟩ : ∃ k, m = k + 1 := ⟨m - 1, by omega⟩
      have hA2s := hA2.mv hf (fun q j _ _ => by omega)
      have : t = 2 ^ n2 := by omega
      subst this
      refine ⟨s, ?_, hf⟩
      rw [m_X7_copies_26]; dsimp only
      rw [hA2s.1, shl1 (by omega), if_pos (nI_le (Nat.le_refl _) (by omega))]
    | succ d ih =>
      intro t m s h1 h2 h3 hf
      obtain ⟨m, rfl⟩ : ∃ k, m = k + 1 := ⟨m - 1, by omega⟩
      have ht : t < 2 ^ n2 := by omega
      have hAs := hA.mv hf (fun q j _ _ => by omega)
      have hA2s := hA2.mv hf (fun q j _ _ => by omega)
      have hpt := pop_le t
      -- one part
      have one : ∃ s', (m_X7_copies_26 F (m + 1) 0 p p2 (lN (2 ^ 52 * n + cod n M C b)) (nI (cnt (Cpy n M C M2 C2) t)) (nI t) s = m_X7_copies_26 F m 0 p p2 (lN (2 ^ 52 * n + cod n M C b)) (nI (cnt (Cpy n M C M2 C2) (t + 1))) (nI (t + 1)) s') ∧ Fr (fun q _ => (14 ≤ q ∧ q ≤ 16) ∨ (21 ≤ q ∧ q ≤ 25)) σ s' := by
        rw [m_X7_copies_26]; dsimp only
        unfold m_X7_copies_92
        simp only [Nat.reduceAdd]
        rw [hA2s.1, shl1 (by omega), if_neg (nI_ge ht (by omega)), bitCount_eq F (by omega), bd_some, hAs.1, cnt_s]
        by_cases e : pop t = n
        · obtain ⟨s1, e1, a1, f1⟩ := part_eq F (by omega) (p := p2) hp2 hG2 hA2s ht
          have hGP := part_gr hG2 (t := t) (by rw [e]; exact hG.1.1)
          have hA1 := hAs.mv f1 (fun q j _ _ => by omega)
          have hc1 := countE_an F (by omega) hGP a1
          have hc2 := countE_cl F (by omega) hG hA1
          have hf1 := hf.tr (f1.mono (fun q j z => Or.inl z))
          rw [if_pos (by rw [e]), e1, bv_some, hc1, bd_some, hc2, bd_some]
          have l1 := edg_lt hGP
          have l2 := edg_lt hG
          by_cases e2 : edg (MP M2 t) = edg M
          · obtain ⟨s2, b2, e3, q2, f2⟩ := clcode_eq F (by omega) (p := 14) (by omega) hGP a1
            have hcode2 := code_lt hGP.1.2 (M := MP M2 t) q2.1.1 (fun v hv => (hGP.2 v hv).1)
            have hcmp := cmp_0 hcode2 hcode
            rw [opt_alike hGP.1.2 h8 hGP hG q2.1 hb] at hcmp
            have hf2 := hf1.tr (f2.mono (fun q j z => Or.inr z))
            rw [if_pos (by rw [e2]), e3, bd_some]
            by_cases e4 : pop t = n ∧ ∃ q, Iso (pop t) (MP M2 t) (CP C2 t) M C q
            · have hy : Cpy n M C M2 C2 t = true := by
                obtain ⟨z, q, hq⟩ := e4
                subst z
                exact dc_yes ⟨rfl, _, hq.iv hGP.1.2⟩
              refine ⟨s2, ?_, hf2⟩
              rw [if_pos (hcmp.mpr e4), nI_1, nI_1, nm_eq, nm_eq, hy]
              rfl
            · have hy : Cpy n M C M2 C2 t = false := dc_no (fun z => e4 (by
                obtain ⟨z1, q, hq⟩ := z
                subst z1
                exact ⟨rfl, _, hq.iv h8⟩))
              refine ⟨s2, ?_, hf2⟩
              rw [if_neg (fun z => e4 (hcmp.mp z)), nI_1, nm_eq, hy]
              rfl
          · have hy : Cpy n M C M2 C2 t = false := dc_no (fun z => e2 (by
              obtain ⟨z1, q, hq⟩ := z
              subst z1
              exact (edg_iso h8 hG hGP hq).symm))
            refine ⟨s1, ?_, hf1⟩
            rw [if_neg (fun z => e2 ((nI_eq (by omega) (by omega)).mp z)), nI_1, nm_eq, hy]
            rfl
        · have hy : Cpy n M C M2 C2 t = false := dc_no (fun z => e z.1)
          refine ⟨s, ?_, hf⟩
          rw [if_neg (fun z => e ((nI_eq (by omega) (by omega)).mp z)), nI_1, nm_eq, hy]
          rfl
      obtain ⟨s', g1, g2⟩ := one
      rw [g1]
      exact ih (t + 1) m s' (by omega) (by omega) (by omega) g2
  have h0 : cnt (Cpy n M C M2 C2) 1 = 0 := by
    rw [cnt_s, cnt_0]
    have : Cpy n M C M2 C2 0 = false := dc_no (fun z => by
      have h1 : pop 0 = 0 := by decide
      have := hG.1.1
      omega)
    rw [this]
    rfl
  have hp1 : 1 ≤ 2 ^ n2 := Nat.one_le_two_pow
  have := loop (2 ^ n2 - 1) 1 F σ (by omega) (by omega) (by omega) Fr.rf
  rw [h0] at this
  exact this
end

