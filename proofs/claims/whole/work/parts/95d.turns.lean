/-! MATHEMATICS, 56: the reference looks for maps, and goes through all symmetries -/
section
/-- what a search for a map answers -/
def MapR (n : Nat) (G : (Nat → Nat) → Prop) (o : Option (Int32 × zST)) (σ : zST) : Prop := ∃ τ, ((∃ q, IsN n q ∧ G q ∧ (∀ p, IsN n p → G p → rv n q ≤ rv n p) ∧ o = some (1, τ) ∧ Mp n q τ) ∨ (o = some (0, τ) ∧ ∀ p, IsN n p → ¬ G p)) ∧ Fr (fun p _ => p = 50) σ τ
theorem isMapped_eq (F : Nat) (hF : 16777300 < F) {k o n n2 : Nat} (hk : k < 4) (ho : o < 4) {M C M2 C2 ch : Nat → Nat} {σ : zST} (hG : Gr n M C) (hR : RAt k n M C σ) (hG2 : Gr n2 M2 C2) (hR2 : RAt o n2 M2 C2 σ) (hch : ∀ j, j < n → gI σ 51 j = nI (ch j) ∧ ch j < 8) : MapR n (fun q => KPp M C M2 C2 (fun v => ch (q v)) n) (m_X8_isMapped F 46 (nI k) (nI o) σ) σ := by
  have h8 := hG.1.2
  have keep : ∀ (q : Nat → Nat) (s : zST), IsN n q → Mp n q s → Fr (fun p _ => p = 50) σ s → m_X8_keeps F 46 (nI k) (nI o) s = some (bI (dc (KPp M C M2 C2 (fun v => ch (q v)) n)), s) := fun q s hq hM hf =>
    keeps_eq F (by omega) hk ho hG (hR.mv hf (fun q j _ _ => by omega)) hG2 (hR2.mv hf (fun q j _ _ => by omega)) (fun v hv => hq.lt h8 hv) hM (fun j hj => ⟨by rw [(hf 51 j (by omega)).1, (hch j hj).1], (hch j hj).2⟩)
  have loop : ∀ (d m : Nat) (q : Nat → Nat) (s : zST), 16777216 - rv n q ≤ d → d + 1 < m → IsN n q → Mp n q s → (∀ p, IsN n p → rv n p < rv n q → ¬ KPp M C M2 C2 (fun v => ch (p v)) n) → Fr (fun p _ => p = 50) σ s → MapR n (fun q => KPp M C M2 C2 (fun v => ch (q v)) n) (m_X8_isMapped_17 F m 46 (nI k) (nI o) (bI (dc (KPp M C M2 C2 (fun v => ch (q v)) n))) s) σ := by
    intro d
    induction d with
    | zero =>
      intro m q s h1 h2 hq _ _ _
      have := rv_lt24 (hq.l8 h8)
      omega
    | succ d ih =>
      intro m q s h1 h2 hq hM hno hf
      obtain ⟨m, rfl⟩ : ∃ k, m = k + 1 := ⟨m - 1, by omega⟩
      have hr := rv_lt24 (hq.l8 h8)
      have hRs := hR.mv hf (fun q j _ _ => by omega)
      by_cases e : KPp M C M2 C2 (fun v => ch (q v)) n
      · refine ⟨s, Or.inl ⟨q, hq, e, fun p hp hg => ?_, ?_, hM⟩, hf⟩
        · apply Classical.byContradiction
          intro z
          exact hno p hp (by omega) hg
        · rw [m_X8_isMapped_17]; dsimp only
          unfold m_X8_isMapped_44
          rw [bI_yes (dc_yes e), if_neg n10, gd_yes (Or.inr rfl)]
      · rcases nextMap_eq F (by omega) hG.1.1 h8 hq hM with ⟨q', s', e1, e2, e3, e4, e5, e6⟩ | ⟨e1, e2⟩
        · have hf' := hf.tr e6
          have step : m_X8_isMapped_17 F (m + 1) 46 (nI k) (nI o) (bI (dc (KPp M C M2 C2 (fun v => ch (q v)) n))) s = m_X8_isMapped_17 F m 46 (nI k) (nI o) (bI (dc (KPp M C M2 C2 (fun v => ch (q' v)) n))) s' := by
            rw [m_X8_isMapped_17]; dsimp only
            rw [if_pos (dcI_0.mpr e), ldI_at hk (by omega), hRs.1, e1, bd_some, if_neg n10, keep q' s' e2 e3 hf', bd_some]
          rw [step]
          refine ih m q' s' (by omega) (by omega) e2 e3 (fun p hp hl => ?_) hf'
          have := e5 p hp
          by_cases y : rv n p = rv n q
          · rw [val_inj h8 hp hq y]; exact e
          · exact hno p hp (by omega)
        · refine ⟨s, Or.inr ⟨?_, fun p hp => ?_⟩, hf⟩
          · rw [m_X8_isMapped_17]; dsimp only
            unfold m_X8_isMapped_44
            rw [if_pos (dcI_0.mpr e), ldI_at hk (by omega), hRs.1, e1, bd_some, if_pos rfl, dcI_0.mpr e, gd_yes (Or.inl rfl)]
          · have := e2 p hp
            by_cases y : rv n p = rv n q
            · rw [val_inj h8 hp hq y]; exact e
            · exact hno p hp (by omega)
  obtain ⟨s1, e1, e2, e3⟩ := begins_eq F (by omega) h8 σ
  unfold m_X8_isMapped
  rw [ldI_at hk (by omega), hR.1, e1, bv_some, keep _ s1 (IsN.id n) e2 e3, bd_some]
  exact loop 16777216 F (fun k => k) s1 (by omega) (by omega) (IsN.id n) e2 (fun p hp z => by have := id_first h8 hp; omega) e3
/-- symmetries counted so far, and the vertices that they reach -/
def TS (n : Nat) (M C : Nat → Nat) (Q : (Nat → Nat) → Prop) (c : Nat) (σ : zST) : Prop := c = cd n (fun p => Q p ∧ Iso n M C M C p) ∧ ∀ v, v < n → ∃ m, m < 256 ∧ gI σ 55 v = nI m ∧ ∀ y, m.testBit y = true ↔ ∃ f, (Q f ∧ Iso n M C M C f) ∧ f v = y
theorem TS.cong {n : Nat} {M C : Nat → Nat} {P Q : (Nat → Nat) → Prop} {c : Nat} {σ : zST} (h : ∀ p, IsN n p → (P p ↔ Q p)) (hs : TS n M C P c σ) : TS n M C Q c σ := by
  refine ⟨by rw [hs.1]; exact cd_cong (fun w hw => by rw [h w hw]), fun v hv => ?_⟩
  obtain ⟨m, a, b, d⟩ := hs.2 v hv
  refine ⟨m, a, b, fun y => ?_⟩
  rw [d y]
  constructor
  · rintro ⟨f, ⟨h1, h2⟩, h3⟩; exact ⟨f, ⟨(h f h2.1).mp h1, h2⟩, h3⟩
  · rintro ⟨f, ⟨h1, h2⟩, h3⟩; exact ⟨f, ⟨(h f h2.1).mpr h1, h2⟩, h3⟩
theorem TS.mv {n : Nat} {M C : Nat → Nat} {Q : (Nat → Nat) → Prop} {c : Nat} {σ τ : zST} (hs : TS n M C Q c σ) {S : Nat → Nat → Prop} (hf : Fr S σ τ) (h0 : ∀ j, ¬ S 55 j) : TS n M C Q c τ := ⟨hs.1, fun v hv => by
  obtain ⟨m, a, b, d⟩ := hs.2 v hv
  exact ⟨m, a, by rw [(hf 55 v (h0 v)).1, b], d⟩⟩
theorem orbits_add (F : Nat) (hF : 8 < F) {k n : Nat} (hk : k < 4) (hn : n ≤ 8) {M C q : Nat → Nat} {s : zST} (hR : RAt k n M C s) (hM : Mp n q s) {m : Nat → Nat} (hm : ∀ v, v < n → gI s 55 v = nI (m v)) (hq : ∀ v, v < n → q v < 8) (k47 : Nat → Int32 → Int32 → Int32 → zST → Option (Int32 × zST)) (c : Int32) : ∃ s', m_X8_turns_66 F k47 F 46 (nI k) c 0 s = m_X8_turns_102 F k47 46 (nI k) c s' ∧ (∀ v, v < n → gI s' 55 v = nI (m v ||| 2 ^ q v)) ∧ Fr (fun p _ => p = 55) s s' := by
  refine up_inv0 (fun t (i : Int32) (s : zST) => m_X8_turns_66 F k47 t 46 (nI k) c i s) n
    (fun i t => (∀ v, v < n → gI t 55 v = nI (if v < i then m v ||| 2 ^ q v else m v)) ∧ Fr (fun p _ => p = 55) s t)
    (fun o => ∃ s', o = m_X8_turns_102 F k47 46 (nI k) c s' ∧ (∀ v, v < n → gI s' 55 v = nI (m v ||| 2 ^ q v)) ∧ Fr (fun p _ => p = 55) s s') ?_ ?_ (show n < F by omega) (s := s) ⟨fun v hv => by rw [if_neg (by omega), hm v hv], Fr.rf⟩
  · rintro t i s2 hi ⟨a1, a2⟩
    have hqi := hq i hi
    have g1 := a1 i hi
    rw [if_neg (by omega)] at g1
    refine ⟨sI s2 55 i (nI (m i ||| 2 ^ q i)), ⟨fun v hv => ?_, a2.tr (Fr.sI rfl)⟩, ?_⟩
    · have hb := a1 v hv
      rw [gI_sI]
      by_cases e : v = i
      · rw [if_pos ⟨rfl, e⟩, e, if_pos (by omega)]
      · rw [if_neg (fun z => e z.2), hb]
        by_cases y : v < i
        · rw [if_pos y, if_pos (by omega)]
        · rw [if_neg y, if_neg (by omega)]
    · show m_X8_turns_66 F k47 (t + 1) 46 (nI k) c (nI i) s2 = _
      rw [m_X8_turns_66]; dsimp only
      rw [ldI_at hk (by omega), (a2 47 k (by omega)).1, hR.1, if_neg (nI_ge hi (by omega)), ldI_at (by omega) (by omega), g1, ldI_at (by omega) (by omega), (a2 50 i (by omega)).1, hM i hi, shl1 (by omega), b_or, stI_at (by omega) (by omega), nm_eq, nI_1]
  · rintro t s2 ⟨a1, a2⟩
    refine ⟨s2, ?_, fun v hv => by have := a1 v hv; rwa [if_pos hv] at this, a2⟩
    show m_X8_turns_66 F k47 (t + 1) 46 (nI k) c (nI n) s2 = _
    rw [m_X8_turns_66]; dsimp only
    rw [ldI_at hk (by omega), (a2 47 k (by omega)).1, hR.1, if_pos (nI_le (Nat.le_refl _) (by omega))]
def FT (p _j : Nat) : Prop := p = 50 ∨ p = 51 ∨ p = 55
theorem turns_eq (F : Nat) (hF : 16777300 < F) {k n : Nat} (hk : k < 4) {M C : Nat → Nat} {σ : zST} (hG : Gr n M C) (hR : RAt k n M C σ) : ∃ τ, m_X8_turns F 46 (nI k) σ = some (nI (cd n (Iso n M C M C)), τ) ∧ (∀ v, v < n → ∃ m, m < 256 ∧ gI τ 55 v = nI m ∧ ∀ y, m.testBit y = true ↔ ∃ f, Iso n M C M C f ∧ f v = y) ∧ Fr FT σ τ := by
  have h8 := hG.1.2
  have h1n := hG.1.1
  -- the end
  have fin : ∀ m c s, TS n M C (fun _ => True) c s → Fr FT σ s → ∃ τ, m_X8_turns_47 F (m + 1) 46 (nI k) (nI c) 0 s = some (nI (cd n (Iso n M C M C)), τ) ∧ (∀ v, v < n → ∃ m, m < 256 ∧ gI τ 55 v = nI m ∧ ∀ y, m.testBit y = true ↔ ∃ f, Iso n M C M C f ∧ f v = y) ∧ Fr FT σ τ := by
    intro m c s hT hf
    refine ⟨s, ?_, fun v hv => ?_, hf⟩
    · rw [m_X8_turns_47]; dsimp only
      rw [if_pos rfl, hT.1, cd_cong (fun w _ => ⟨fun z => z.2, fun z => ⟨trivial, z⟩⟩)]
    · obtain ⟨m, a, b, d⟩ := hT.2 v hv
      refine ⟨m, a, b, fun y => ?_⟩
      rw [d y]
      constructor
      · rintro ⟨f, ⟨_, h2⟩, h3⟩; exact ⟨f, h2, h3⟩
      · rintro ⟨f, h2, h3⟩; exact ⟨f, ⟨trivial, h2⟩, h3⟩
  have loop : ∀ (d m : Nat) (q : Nat → Nat) (c : Nat) (s : zST), 16777216 - rv n q ≤ d → d + 1 < m → IsN n q → Mp n q s → (∀ j, j < n → gI s 51 j = nI j) → TS n M C (fun p => rv n p < rv n q) c s → Fr FT σ s → ∃ τ, m_X8_turns_47 F m 46 (nI k) (nI c) 1 s = some (nI (cd n (Iso n M C M C)), τ) ∧ (∀ v, v < n → ∃ m, m < 256 ∧ gI τ 55 v = nI m ∧ ∀ y, m.testBit y = true ↔ ∃ f, Iso n M C M C f ∧ f v = y) ∧ Fr FT σ τ := by
    intro d
    induction d with
    | zero =>
      intro m q c s h1 h2 hq _ _ _ _
      have := rv_lt24 (hq.l8 h8)
      omega
    | succ d ih =>
      intro m q c s h1 h2 hq hM hch hT hf
      obtain ⟨m, rfl⟩ : ∃ k, m = k + 1 := ⟨m - 1, by omega⟩
      have hr := rv_lt24 (hq.l8 h8)
      have hRs := hR.mv hf (fun q j _ _ => by unfold FT; omega)
      have hkeep := keeps_eq F (by omega) hk hk (ch := fun j => j) hG hRs hG hRs (fun v hv => hq.lt h8 hv) hM (fun j hj => ⟨hch j hj, by omega⟩)
      have hkeep : m_X8_keeps F 46 (nI k) (nI k) s = some (bI (dc (Iso n M C M C q)), s) := by
        rw [hkeep, dc_cong (kp_iso h8 hG hG hq)]
      have hmem : ∀ p, IsN n p → (rv n p ≤ rv n q ↔ (rv n p < rv n q ∨ p = q)) := fun p hp => by
        constructor
        · intro z
          by_cases y : rv n p = rv n q
          · exact Or.inr (val_inj h8 hp hq y)
          · left; omega
        · rintro (z | z)
          · omega
          · rw [z]; exact Nat.le_refl _
      -- behind one map
      have go : ∀ c s', TS n M C (fun p => rv n p ≤ rv n q) c s' → Mp n q s' → (∀ j, j < n → gI s' 51 j = nI j) → Fr FT σ s' → ∃ τ, m_X8_turns_102 F (m_X8_turns_47 F m) 46 (nI k) (nI c) s' = some (nI (cd n (Iso n M C M C)), τ) ∧ (∀ v, v < n → ∃ m, m < 256 ∧ gI τ 55 v = nI m ∧ ∀ y, m.testBit y = true ↔ ∃ f, Iso n M C M C f ∧ f v = y) ∧ Fr FT σ τ := by
        intro c s' hT' hM' hch' hf'
        have hRs' := hR.mv hf' (fun q j _ _ => by unfold FT; omega)
        unfold m_X8_turns_102
        rw [ldI_at hk (by omega), hRs'.1]
        rcases nextMap_eq F (by omega) hG.1.1 h8 hq hM' with ⟨q', s2, e1, e2, e3, e4, e5, e6⟩ | ⟨e1, e2⟩
        · rw [e1, bd_some]
          refine ih m q' c s2 (by omega) (by omega) e2 e3 (fun j hj => by rw [(e6 51 j (by omega)).1, hch' j hj]) ((hT'.cong (fun p hp => ?_)).mv e6 (fun j => by omega)) (hf'.tr (e6.mono (fun p j z => Or.inl z)))
          have := e5 p hp
          constructor <;> intro <;> omega
        · rw [e1, bd_some]
          obtain ⟨m', rfl⟩ : ∃ k, m = k + 1 := ⟨m - 1, by omega⟩
          exact fin m' c s' (hT'.cong (fun p hp => ⟨fun _ => trivial, fun _ => e2 p hp⟩)) hf'
      rw [m_X8_turns_47]; dsimp only
      rw [if_neg n10, hkeep, bd_some]
      by_cases e : Iso n M C M C q
      · rw [if_neg (fun z => dcI_0.mp z e), nI_1, nm_eq]
        have hex : ∃ m : Nat → Nat, ∀ v, v < n → m v < 256 ∧ gI s 55 v = nI (m v) ∧ ∀ y, (m v).testBit y = true ↔ ∃ f, (rv n f < rv n q ∧ Iso n M C M C f) ∧ f v = y := by
          refine ⟨fun v => if z : v < n then Classical.choose (hT.2 v z) else 0, fun v hv => ?_⟩
          have e0 : (fun v => if z : v < n then Classical.choose (hT.2 v z) else 0) v = Classical.choose (hT.2 v hv) := dif_pos hv
          rw [e0]
          exact Classical.choose_spec (hT.2 v hv)
        obtain ⟨mm, hmm⟩ := hex
        obtain ⟨s', g1, g2, g3⟩ := orbits_add F (by omega) hk h8 hRs hM (m := mm) (fun v hv => (hmm v hv).2.1) (hq.l8 h8) (m_X8_turns_47 F m) (nI (c + 1))
        rw [g1]
        refine go (c + 1) s' ⟨?_, fun v hv => ?_⟩ (fun j hj => by rw [(g3 50 j (by omega)).1, hM j hj]) (fun j hj => by rw [(g3 51 j (by omega)).1, hch j hj]) (hf.tr (g3.mono (fun p j z => Or.inr (Or.inr z))))
        · rw [hT.1, ← cd_add hq (show ¬ (rv n q < rv n q ∧ Iso n M C M C q) from fun z => by omega)]
          refine cd_cong (fun w hw => ?_)
          show ((rv n w < rv n q ∧ Iso n M C M C w) ∨ w = q) ↔ (rv n w ≤ rv n q ∧ Iso n M C M C w)
          rw [hmem w hw]
          constructor
          · rintro (⟨z1, z2⟩ | z)
            · exact ⟨Or.inl z1, z2⟩
            · exact ⟨Or.inr z, by rw [z]; exact e⟩
          · rintro ⟨z1 | z1, z2⟩
            · exact Or.inl ⟨z1, z2⟩
            · exact Or.inr z1
        · have hqv := hq.lt h8 hv
          refine ⟨mm v ||| 2 ^ q v, or_lt (hmm v hv).1 (Nat.pow_lt_pow_right (n := 8) (by omega) (by omega)), g2 v hv, fun y => ?_⟩
          rw [Nat.testBit_or, Bool.or_eq_true, (hmm v hv).2.2 y, Nat.testBit_two_pow, decide_eq_true_iff]
          constructor
          · rintro (⟨f, ⟨z1, z2⟩, z3⟩ | z)
            · exact ⟨f, ⟨by omega, z2⟩, z3⟩
            · exact ⟨q, ⟨Nat.le_refl _, e⟩, z⟩
          · rintro ⟨f, ⟨z1, z2⟩, z3⟩
            rcases (hmem f z2.1).mp z1 with z | z
            · exact Or.inl ⟨f, ⟨z, z2⟩, z3⟩
            · right; rw [← z]; exact z3
      · rw [if_pos (dcI_0.mpr e)]
        refine go c s ⟨?_, fun v hv => ?_⟩ hM hch hf
        · rw [hT.1]
          refine cd_cong (fun w hw => ?_)
          show (rv n w < rv n q ∧ Iso n M C M C w) ↔ (rv n w ≤ rv n q ∧ Iso n M C M C w)
          rw [hmem w hw]
          constructor
          · rintro ⟨z1, z2⟩; exact ⟨Or.inl z1, z2⟩
          · rintro ⟨z1 | z1, z2⟩
            · exact ⟨z1, z2⟩
            · exact absurd (by rw [← z1]; exact z2) e
        · obtain ⟨m, a, b, d⟩ := hT.2 v hv
          refine ⟨m, a, b, fun y => ?_⟩
          rw [d y]
          constructor
          · rintro ⟨f, ⟨z1, z2⟩, z3⟩; exact ⟨f, ⟨by omega, z2⟩, z3⟩
          · rintro ⟨f, ⟨z1, z2⟩, z3⟩
            rcases (hmem f z2.1).mp z1 with z | z
            · exact ⟨f, ⟨z, z2⟩, z3⟩
            · exact absurd (by rw [← z]; exact z2) e
  -- the beginning
  have start : ∀ (d i m : Nat) (s : zST), i + d = n → d < m → (∀ v, v < i → gI s 55 v = nI 0) → Fr FT σ s → ∃ τ, m_X8_turns_4 F m 46 (nI k) 0 (nI i) s = some (nI (cd n (Iso n M C M C)), τ) ∧ (∀ v, v < n → ∃ m, m < 256 ∧ gI τ 55 v = nI m ∧ ∀ y, m.testBit y = true ↔ ∃ f, Iso n M C M C f ∧ f v = y) ∧ Fr FT σ τ := by
    intro d
    have hpn := pow8 h8
    have hp1 : 1 ≤ 2 ^ n := Nat.one_le_two_pow
    induction d with
    | zero =>
      intro i m s h1 h2 h3 hf
      obtain ⟨m, rfl⟩ : ∃ k, m = k + 1 := ⟨m - 1, by omega⟩
      have : i = n := by omega
      subst this
      have hRs := hR.mv hf (fun q j _ _ => by unfold FT; omega)
      obtain ⟨s1, a1, a2, a3⟩ := chooses_eq F (by omega) (t := 2 ^ i - 1) (by omega) s
      obtain ⟨s2, b1, b2, b3⟩ := begins_eq F (by omega) h8 s1
      obtain ⟨τ, c1, c2⟩ := loop 16777216 F (fun k => k) 0 s2 (by omega) (by omega) (IsN.id i) b2 (fun j hj => by rw [(b3 51 j (by omega)).1, full_chs h8 a2 j hj]) ⟨(cd_none (fun w hw z => by have := id_first h8 hw; omega)).symm, fun v hv => ⟨0, by omega, by rw [(b3 55 v (by omega)).1, (a3 55 v (by omega)).1, h3 v hv], fun y => ⟨fun z => by rw [Nat.zero_testBit] at z; exact absurd z (by decide), fun ⟨f, ⟨z1, z2⟩, _⟩ => by have := id_first h8 z2.1; omega⟩⟩⟩ ((hf.tr (a3.mono (fun p j z => Or.inr (Or.inl z)))).tr (b3.mono (fun p j z => Or.inl z)))
      refine ⟨τ, ?_, c2⟩
      rw [m_X8_turns_4]; dsimp only
      rw [ldI_at hk (by omega), hRs.1, shl1 (by omega), l1, b_sub hp1, a1, bd_some, full_pop h8, if_pos (nI_le (Nat.le_refl _) (by omega)), ldI_at hk (by omega), (a3 47 k (by omega)).1, hRs.1, b1, bv_some]
      exact c1
    | succ d ih =>
      intro i m s h1 h2 h3 hf
      obtain ⟨m, rfl⟩ : ∃ k, m = k + 1 := ⟨m - 1, by omega⟩
      have hRs := hR.mv hf (fun q j _ _ => by unfold FT; omega)
      obtain ⟨s1, a1, a2, a3⟩ := chooses_eq F (by omega) (t := 2 ^ n - 1) (by omega) s
      obtain ⟨τ, c1, c2⟩ := ih (i + 1) m (sI s1 55 i 0) (by omega) (by omega) (fun v hv => by
        rw [gI_sI]
        by_cases e : v = i
        · rw [if_pos ⟨rfl, e⟩, nI_0]
        · rw [if_neg (fun z => e z.2), (a3 55 v (by omega)).1, h3 v (by omega)]) ((hf.tr (a3.mono (fun p j z => Or.inr (Or.inl z)))).tr (Fr.sI (Or.inr (Or.inr rfl))))
      refine ⟨τ, ?_, c2⟩
      rw [m_X8_turns_4]; dsimp only
      rw [ldI_at hk (by omega), hRs.1, shl1 (by omega), l1, b_sub hp1, a1, bd_some, full_pop h8, if_neg (nI_ge (show i < n by omega) (by omega)), stI_at (by omega) (by omega), nI_add, nm_eq]
      exact c1
  unfold m_X8_turns
  have := start n 0 F σ (by omega) (by omega) (fun v hv => absurd hv (by omega)) Fr.rf
  rw [nI_0] at this
  exact this
end
