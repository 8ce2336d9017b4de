/-! MATHEMATICS, 55: the reference chooses vertices; what a map keeps -/
section
/-- the chosen vertices stand in a row -/
def Chs (t : Nat) (σ : zST) : Prop := ∀ v, v < 8 → t.testBit v = true → gI σ 51 (cnt (fun i => t.testBit i) v) = nI v
theorem chooses_eq (F : Nat) (hF : 8 < F) {t : Nat} (ht : t < 256) (σ : zST) : ∃ τ, m_X8_chooses F 46 (nI t) σ = some (nI (pop t), τ) ∧ Chs t τ ∧ Fr (fun p _ => p = 51) σ τ := by
  unfold m_X8_chooses
  have := up_inv0 (fun m (i : Int32) (st : Int32 × zST) => m_X8_chooses_4 F m 46 (nI t) st.1 i st.2) 8
    (fun i st => st.1 = nI (cnt (fun i => t.testBit i) i) ∧ (∀ v, v < i → t.testBit v = true → gI st.2 51 (cnt (fun i => t.testBit i) v) = nI v) ∧ Fr (fun p _ => p = 51) σ st.2)
    (fun o => ∃ τ, o = some (nI (pop t), τ) ∧ Chs t τ ∧ Fr (fun p _ => p = 51) σ τ) ?_ ?_ hF (s := (0, σ)) ⟨rfl, fun v hv => absurd hv (by omega), Fr.rf⟩
  · exact this
  · rintro m i ⟨a, s⟩ hi ⟨h1, h2, h3⟩
    dsimp only at h1 h2 h3
    subst h1
    have hc := cnt_le (fun i => t.testBit i) i
    cases e : t.testBit i
    · refine ⟨(nI (cnt (fun i => t.testBit i) (i + 1)), s), ⟨rfl, fun v hv hb => h2 v (by
        have : v ≠ i := fun z => by rw [z, e] at hb; exact absurd hb (by decide)
        omega) hb, h3⟩, ?_⟩
      show m_X8_chooses_4 F (m + 1) 46 (nI t) _ (nI i) s = m_X8_chooses_4 F m 46 (nI t) _ (nI (i + 1)) s
      rw [m_X8_chooses_4]; dsimp only
      unfold m_X8_chooses_29
      rw [l8, if_neg (nI_ge hi (by omega)), shr_and1 (by omega) (by omega), e, if_neg (by decide +kernel), nm_eq, nI_1, cnt_s, e]
      rfl
    · refine ⟨(nI (cnt (fun i => t.testBit i) (i + 1)), sI s 51 (cnt (fun i => t.testBit i) i) (nI i)), ⟨rfl, fun v hv hb => ?_, h3.tr (Fr.sI rfl)⟩, ?_⟩
      · show gI (sI s 51 (cnt (fun i => t.testBit i) i) (nI i)) 51 _ = nI v
        rw [gI_sI]
        by_cases z : v = i
        · rw [z, if_pos ⟨rfl, rfl⟩]
        · have := cnt_lt_of (P := fun i => t.testBit i) (show v < i by omega) hb
          rw [if_neg (fun w => by have := w.2; omega), h2 v (by omega) hb]
      · show m_X8_chooses_4 F (m + 1) 46 (nI t) _ (nI i) s = m_X8_chooses_4 F m 46 (nI t) (nI (cnt (fun i => t.testBit i) (i + 1))) (nI (i + 1)) _
        rw [m_X8_chooses_4]; dsimp only
        unfold m_X8_chooses_29
        rw [l8, if_neg (nI_ge hi (by omega)), shr_and1 (by omega) (by omega), e, if_pos (by decide +kernel), stI_at (by omega) (by omega), nm_eq, nm_eq, nI_1, nI_1, cnt_s, e]
        rfl
  · rintro m ⟨a, s⟩ ⟨h1, h2, h3⟩
    dsimp only at h1 h2 h3
    subst h1
    refine ⟨s, ?_, fun v hv hb => h2 v hv hb, h3⟩
    show m_X8_chooses_4 F (m + 1) 46 (nI t) _ (nI 8) s = _
    rw [m_X8_chooses_4]; dsimp only
    rw [l8, if_pos (nI_le (by omega) (by omega)), pop_cnt]
theorem full_bit {n v : Nat} : (2 ^ n - 1).testBit v = decide (v < n) := Nat.testBit_two_pow_sub_one n v
theorem full_cnt {n : Nat} : ∀ v, v ≤ n → cnt (fun i => (2 ^ n - 1).testBit i) v = v := fun v hv => cnt_all (fun i hi => by rw [full_bit]; exact decide_eq_true (by omega))
theorem full_pop {n : Nat} (hn : n ≤ 8) : pop (2 ^ n - 1) = n := by
  have e : 2 ^ n - 1 = msk (fun _ => true) n := by
    apply Nat.eq_of_testBit_eq
    intro v
    rw [full_bit, msk_bit, Bool.and_true]
  rw [e, msk_pop hn, cnt_all (fun _ _ => rfl)]
theorem full_chs {n : Nat} (hn : n ≤ 8) {σ : zST} (h : Chs (2 ^ n - 1) σ) : ∀ j, j < n → gI σ 51 j = nI j := fun j hj => by
  have := h j (by omega) (by rw [full_bit]; exact decide_eq_true hj)
  rwa [full_cnt j (by omega)] at this
/-- the map h keeps colours and edges of the first i vertices -/
def KPp (M C M2 C2 h : Nat → Nat) (i : Nat) : Prop := ∀ v, v < i → C v = C2 (h v) ∧ ∀ u, u < v → (M v).testBit u = (M2 (h v)).testBit (h u)
def KQp (M C M2 C2 h : Nat → Nat) (i j : Nat) : Prop := KPp M C M2 C2 h i ∧ C i = C2 (h i) ∧ ∀ u, u < j → (M i).testBit u = (M2 (h i)).testBit (h u)
theorem KPp_s (M C M2 C2 h : Nat → Nat) (i : Nat) : KPp M C M2 C2 h (i + 1) ↔ KQp M C M2 C2 h i i := by
  constructor
  · intro z
    exact ⟨fun v hv => z v (by omega), z i (by omega)⟩
  · rintro ⟨z1, z2⟩ v hv
    by_cases y : v = i
    · rw [y]; exact z2
    · exact z1 v (by omega)
theorem bI_no {b : Bool} (h : b = false) : bI b = 0 := by rw [h]; rfl
theorem bI_yes {b : Bool} (h : b = true) : bI b = 1 := by rw [h]; rfl
theorem dcI_0 {p : Prop} : bI (dc p) = 0 ↔ ¬ p := by
  rw [bI_0]
  constructor
  · intro h z; rw [dc_yes z] at h; exact absurd h (by decide)
  · exact dc_no
theorem keeps_eq (F : Nat) (hF : 8 < F) {k o n n2 : Nat} (hk : k < 4) (ho : o < 4) {M C M2 C2 q ch : Nat → Nat} {σ : zST} (hG : Gr n M C) (hR : RAt k n M C σ) (hG2 : Gr n2 M2 C2) (hR2 : RAt o n2 M2 C2 σ) (hq : ∀ v, v < n → q v < n) (hM : Mp n q σ) (hch : ∀ j, j < n → gI σ 51 j = nI (ch j) ∧ ch j < 8) : m_X8_keeps F 46 (nI k) (nI o) σ = some (bI (dc (KPp M C M2 C2 (fun v => ch (q v)) n)), σ) := by
  have h8 := hG.1.2
  generalize hh : (fun v => ch (q v)) = h
  have hhv : ∀ v, h v = ch (q v) := fun v => by rw [← hh]
  have inner : ∀ (k5 : Nat → Int32 → Int32 → Int32 → Int32 → zST → Option (Int32 × zST)) (i : Nat), i < n → ∀ (d j m : Nat), j + d = i → d < m → m_X8_keeps_66 F k5 m 46 (nI k) (nI o) (bI (dc (KQp M C M2 C2 h i j))) (nI i) (nI j) σ = k5 46 (nI k) (nI o) (bI (dc (KPp M C M2 C2 h (i + 1)))) (nI (i + 1)) σ := by
    intro k5 i hi d
    induction d with
    | zero =>
      intro j m h1 h2
      obtain ⟨m, rfl⟩ : ∃ k, m = k + 1 := ⟨m - 1, by omega⟩
      have : j = i := by omega
      subst this
      rw [m_X8_keeps_66]; dsimp only
      unfold m_X8_keeps_130
      rw [if_pos (nI_le (Nat.le_refl _) (by omega)), nm_eq, nI_1, dc_cong (KPp_s M C M2 C2 h j)]
    | succ d ih =>
      intro j m h1 h2
      obtain ⟨m, rfl⟩ : ∃ k, m = k + 1 := ⟨m - 1, by omega⟩
      have hj : j < n := by omega
      have qi := hq i hi
      have qj := hq j hj
      have ci := hch (q i) qi
      have cj := hch (q j) qj
      have hMi := hG.lt (show i < 8 by omega)
      have hM2 := hG2.lt ci.2
      rw [m_X8_keeps_66]; dsimp only
      unfold m_X8_keeps_130 m_X8_keeps_123
      rw [if_neg (nI_ge (show j < i by omega) (by omega))]
      by_cases e : KQp M C M2 C2 h i j
      · rw [if_neg (fun z => dcI_0.mp z e), hasE_ref F hk (by omega) (by omega) (hR.2 i (by omega)).1 (by omega), bd_some, ldI_at (by omega) (by omega), hM i hi, ldI_at (by omega) (by omega), ci.1, ldI_at (by omega) (by omega), hM j hj, ldI_at (by omega) (by omega), cj.1, hasE_ref F ho ci.2 (by omega) (hR2.2 _ ci.2).1 (by omega), bd_some]
        by_cases y : (M i).testBit j = (M2 (ch (q i))).testBit (ch (q j))
        · rw [if_pos (by rw [y]), nm_eq, nI_1]
          have : bI (dc (KQp M C M2 C2 h i (j + 1))) = 1 := bI_yes (dc_yes ⟨e.1, e.2.1, fun u hu => by
            by_cases w : u = j
            · rw [w, hhv, hhv]; exact y
            · exact e.2.2 u (by omega)⟩)
          rw [← this]
          exact ih (j + 1) m (by omega) (by omega)
        · rw [if_neg (fun z => y ((bI_eq _ _).mp z)), nm_eq, nI_1]
          have : bI (dc (KQp M C M2 C2 h i (j + 1))) = 0 := bI_no (dc_no (fun z => y (by
            have := z.2.2 j (by omega)
            rwa [hhv, hhv] at this)))
          rw [← this]
          exact ih (j + 1) m (by omega) (by omega)
      · rw [if_pos (dcI_0.mpr e), nm_eq, nI_1]
        have h3 : bI (dc (KQp M C M2 C2 h i j)) = 0 := dcI_0.mpr e
        have h4 : bI (dc (KPp M C M2 C2 h (i + 1))) = 0 := dcI_0.mpr (fun z => e (by
          have := (KPp_s M C M2 C2 h i).mp z
          exact ⟨this.1, this.2.1, fun u hu => this.2.2 u (by omega)⟩))
        rw [h3, h4]
  have outer : ∀ (d i m : Nat), i + d = n → d < m → m_X8_keeps_5 F m 46 (nI k) (nI o) (bI (dc (KPp M C M2 C2 h i))) (nI i) σ = some (bI (dc (KPp M C M2 C2 h n)), σ) := by
    intro d
    induction d with
    | zero =>
      intro i m h1 h2
      obtain ⟨m, rfl⟩ : ∃ k, m = k + 1 := ⟨m - 1, by omega⟩
      have : i = n := by omega
      subst this
      rw [m_X8_keeps_5]; dsimp only
      unfold m_X8_keeps_136
      rw [ldI_at hk (by omega), hR.1, if_pos (nI_le (Nat.le_refl _) (by omega)), gd_yes (bI_01 _)]
    | succ d ih =>
      intro i m h1 h2
      obtain ⟨m, rfl⟩ : ∃ k, m = k + 1 := ⟨m - 1, by omega⟩
      have hi : i < n := by omega
      have qi := hq i hi
      have ci := hch (q i) qi
      have cc := (hG.2 i (by omega)).1
      have cc2 := (hG2.2 _ ci.2).1
      rw [m_X8_keeps_5]; dsimp only
      unfold m_X8_keeps_136 m_X8_keeps_62
      rw [ldI_at hk (by omega), hR.1, if_neg (nI_ge hi (by omega))]
      by_cases e : KPp M C M2 C2 h i
      · rw [if_neg (fun z => dcI_0.mp z e), l8, pk_mul, nI_add, ldI_at (by omega) (by omega), (hR.2 i (by omega)).2, ldI_at (by omega) (by omega), hM i hi, ldI_at (by omega) (by omega), ci.1, pk_mul, nI_add, ldI_at (by omega) (by omega), (hR2.2 _ ci.2).2]
        by_cases y : C i = C2 (ch (q i))
        · rw [if_pos (by rw [y])]
          have : bI (dc (KQp M C M2 C2 h i 0)) = 1 := bI_yes (dc_yes ⟨e, by rw [hhv]; exact y, fun u hu => absurd hu (by omega)⟩)
          have e0 := (inner (m_X8_keeps_5 F m) i hi i 0 F (by omega) (by omega)).trans (ih (i + 1) m (by omega) (by omega))
          rw [this, nI_0] at e0
          exact e0
        · rw [if_neg (fun z => y ((nI_eq (by omega) (by omega)).mp z))]
          have : bI (dc (KQp M C M2 C2 h i 0)) = 0 := bI_no (dc_no (fun z => y (by
            have := z.2.1
            rwa [hhv] at this)))
          have e0 := (inner (m_X8_keeps_5 F m) i hi i 0 F (by omega) (by omega)).trans (ih (i + 1) m (by omega) (by omega))
          rw [this, nI_0] at e0
          exact e0
      · have h4 : bI (dc (KPp M C M2 C2 h n)) = 0 := dcI_0.mpr (fun z => e (fun v hv => z v (by omega)))
        rw [if_pos (dcI_0.mpr e), gd_yes (bI_01 _), h4, dcI_0.mpr e]
  unfold m_X8_keeps
  have := outer n 0 F (by omega) (by omega)
  rw [bI_yes (dc_yes (show KPp M C M2 C2 h 0 from fun v hv => absurd hv (by omega)))] at this
  exact this
/-- maps onto the same number of vertices -/
theorem kp_iso {n : Nat} (hn : n ≤ 8) {M C M2 C2 q : Nat → Nat} (hG : Gr n M C) (hG2 : Gr n M2 C2) (hq : IsN n q) : KPp M C M2 C2 q n ↔ Iso n M C M2 C2 q := by
  constructor
  · intro h
    refine ⟨hq, fun v hv => (h v hv).1.symm, fun u v hu hv => ?_⟩
    have qu := hq.lt hn hu
    have qv := hq.lt hn hv
    rcases Nat.lt_trichotomy u v with z | z | z
    · rw [hG.sy (by omega) (by omega), hG2.sy (by omega) (by omega)]
      exact ((h v hv).2 u z).symm
    · subst z
      rw [(hG.2 u (by omega)).2.2.2.1, (hG2.2 (q u) (by omega)).2.2.2.1]
    · exact ((h u hu).2 v z).symm
  · intro h v hv
    exact ⟨(h.2.1 v hv).symm, fun u hu => (h.2.2 v u hv (by omega)).symm⟩
end
