/-! THE LAW'S TURNS -/
section
theorem nI_all (t : Int32) : ∃ a, t = nI a := ⟨t.toBitVec.toNat, by
  apply Int32.toBitVec_inj.mp
  show t.toBitVec = BitVec.ofNat 32 t.toBitVec.toNat
  rw [BitVec.ofNat_toNat, BitVec.setWidth_eq]⟩
theorem nI_31 (t : Int32) : ∃ a, a < 2 ^ 31 ∧ t &&& 2147483647 = nI a := by
  obtain ⟨a, rfl⟩ := nI_all t
  refine ⟨a &&& 2147483647, ?_, by rw [show (2147483647 : Int32) = nI 2147483647 from rfl, b_and]⟩
  rw [show 2147483647 = 2 ^ 31 - 1 from rfl, Nat.and_two_pow_sub_one_eq_mod]
  exact Nat.mod_lt _ (by omega)
theorem from26 (F : Nat) {w L a2 : Nat} (xs : Nat → Int32) (h0 : 0 < a2) (h2 : a2 ≤ 100000) (t : Int32) (σ : zST) : ∃ v, v < a2 ∧ m_L_from_26 F w L xs (nI a2) t σ = some (nI v, σ) := by
  obtain ⟨a, ha, e⟩ := nI_31 t
  refine ⟨a % a2, Nat.mod_lt _ h0, ?_⟩
  unfold m_L_from_26
  rw [e, pk_rem (by omega) (by omega) (by omega), gd_yes (nI_ne0 h0 (by omega))]
theorem from_eq (F : Nat) {w L a1 a2 : Nat} (hL : L ≤ 260) (h1 : a1 < 1000) (h0 : 0 < a2) (h2 : a2 ≤ 100000) (xs : Nat → Int32) (σ : zST) : ∃ v, v < a2 ∧ m_L_from F w L xs (nI a1) (nI a2) σ = some (nI v, σ) := by
  unfold m_L_from
  by_cases e : L = 0
  · rw [if_pos (by rw [e]; rfl)]
    exact from26 F xs h0 h2 _ σ
  · have hn : ¬ nI L = 0 := nI_ne0 (by omega) (by omega)
    rw [if_neg hn, gd_yes hn, pk_rem (by omega) (by omega) (by omega), ldT_at (Nat.mod_lt _ (by omega)) (by omega)]
    exact from26 F xs h0 h2 _ σ
def SH (q j : Nat) : Prop := SQ q j ∨ (42 ≤ q ∧ q ≤ 45) ∨ q = 47
/-- what holds between the law's turns -/
def HI (σ : zST) : Prop := GG σ ∧ ∃ (c : Nat) (zi : Nat → Nat), (∀ i, i < c → zi i < 48) ∧ GS σ c (fun i => td (zi i)) ∧ gI σ 48 0 = nI c ∧ ∀ i, i < c → gI σ 48 (i + 1) = nI (zi i)
theorem HI.mv {σ τ : zST} (h : HI σ) {S : Nat → Nat → Prop} (hf : Fr S σ τ) (h0 : ∀ q j, S q j → SH q j) : HI τ := by
  obtain ⟨h1, c, zi, h2, h3, h4, h5⟩ := h
  refine ⟨h1.mv hf (fun q j a b => ?_), c, zi, h2, h3.mv hf (fun q j a b => ?_), ?_, fun i hi => ?_⟩
  · have := h0 q j b
    unfold SH SQ at this
    unfold SA at a
    omega
  · have := h0 q j b
    unfold SH SQ at this
    unfold SC6 at a
    omega
  · rw [(hf 48 0 (fun b => by have := h0 48 0 b; unfold SH SQ at this; omega)).1, h4]
  · rw [(hf 48 (i + 1) (fun b => by have := h0 48 (i + 1) b; unfold SH SQ at this; omega)).1, h5 i hi]
def KOk (f : zST → Option (Int32 × zST)) (e : Nat) (k51 : Nat → Nat → Nat → Nat → Int32 → Int32 → zST → Option (Int32 × zST)) (o : Option (Int32 × zST)) : Prop := ∃ s, HI s ∧ o = k51 0 46 47 48 1 (nI (e + 1)) s
theorem h277 (F : Nat) (hF : 300 < F) {w L e k l : Nat} (hw : 49 ≤ w) (xs : Nat → Int32) (he : e < 60) (hk : k < 4) (hl : l < 4) (k51 : Nat → Nat → Nat → Nat → Int32 → Int32 → zST → Option (Int32 × zST)) {σ : zST} (h : HI σ) : ∃ s, HI s ∧ m_L_holds_277 F w L xs k51 0 46 47 48 (nI e) (nI k) (nI l) σ = k51 0 46 47 48 1 (nI (e + 1)) s := by
  have hend : ∀ s, m_L_holds_323 F w L xs k51 0 46 47 48 (nI e) s = k51 0 46 47 48 1 (nI (e + 1)) s := fun s => by
    unfold m_L_holds_323 m_L_holds_328
    rw [nI_1, nm_eq]
  unfold m_L_holds_277
  rw [show (6 : Int32) = nI 6 from rfl, pk_rem (by omega) (by omega) (by omega), show (5 : Int32) = nI 5 from rfl]
  by_cases q : e % 6 < 5
  · rw [if_pos (nI_lt q (by omega)), hend]
    exact ⟨σ, h, rfl⟩
  · obtain ⟨n, M, C, hG, hn, hA, hc⟩ := h.1 k hk
    obtain ⟨n2, M2, C2, hG2, hn2, hA2, hc2⟩ := h.1 l hl
    obtain ⟨s1, e1, f1⟩ := isTurned_eq F (by omega) hw hk hn hG hA
    have A1 := at_q hA hk f1
    have B1 := at_q hA2 hl f1
    have c1 : gL s1 46 k = lN (cde n M C (fun i => i)) := by rw [(f1 46 k (by unfold SQ; omega)).2, hc]
    have d1 : gL s1 46 l = lN (cde n2 M2 C2 (fun i => i)) := by rw [(f1 46 l (by unfold SQ; omega)).2, hc2]
    obtain ⟨s2, e2, f2⟩ := arePairs_eq F hF hw hk hl hn hn2 hG hG2 A1 B1 c1 d1
    have A2 := at_q A1 hk f2
    have B2 := at_q B1 hl f2
    have c2 : gL s2 46 k = lN (cde n M C (fun i => i)) := by rw [(f2 46 k (by unfold SQ; omega)).2, c1]
    have d2 : gL s2 46 l = lN (cde n2 M2 C2 (fun i => i)) := by rw [(f2 46 l (by unfold SQ; omega)).2, d1]
    obtain ⟨s3, e3, f3⟩ := arePairs_eq F hF hw hl hk hn2 hn hG2 hG B2 A2 d2 c2
    refine ⟨s3, h.mv ((f1.tr f2).tr f3) (fun q j z => Or.inl z), ?_⟩
    rw [if_neg (nI_nlt (by omega) (by omega)), ldL_at hk (by omega), hc, e1, bd_some, if_neg n10, e2, bd_some, if_neg n10, e3, bd_some, if_neg n10, hend]
theorem h235 (F : Nat) (hF : 300 < F) {w L e k l z : Nat} (hw : 49 ≤ w) (xs : Nat → Int32) (he : e < 60) (hk : k < 4) (hl : l < 4) (hz : z < 100000) (k51 : Nat → Nat → Nat → Nat → Int32 → Int32 → zST → Option (Int32 × zST)) {σ : zST} (h : HI σ) : ∃ s, HI s ∧ m_L_holds_235 F w L xs k51 0 46 47 48 1 (nI e) (nI k) (nI z) (nI l) σ = k51 0 46 47 48 1 (nI (e + 1)) s := by
  unfold m_L_holds_235
  rw [if_neg n10, l4, pk_rem (by omega) (by omega) (by omega), l3]
  by_cases q : e % 4 < 3
  · rw [if_pos (nI_lt q (by omega))]
    exact h277 F hF hw xs he hk hl k51 h
  · obtain ⟨n, M, C, hG, hn, hA, hc⟩ := h.1 k hk
    obtain ⟨s1, e1, f1⟩ := isGraph_eq F (by omega) hw hk hn hG hA
    have h1 : HI s1 := h.mv f1 (fun q j z => Or.inl z)
    obtain ⟨_, c, zi, g1, g2, g3, g4⟩ := h1
    have hc6 := g2.1
    obtain ⟨N, P, s2, e2, hN, hP, hL2, f2⟩ := close_eq F (by omega) (by omega) g1 g3 g4
    have g2' : GS s2 c (fun i => td (zi i)) := g2.mv f2 (fun q j a b => by unfold SC6 at a; omega)
    obtain ⟨s3, e3, f3⟩ := isGroup_eq F (by omega) (w := w) g2' hP hN hL2 hz
    have h3 : HI s3 := ((h.mv f1 (fun q j z => Or.inl z)).mv f2 (fun q j z => Or.inr (Or.inr z))).mv f3 (fun q j z => Or.inr (Or.inl z))
    obtain ⟨s4, h4, e4⟩ := h277 F hF (w := w) (L := L) hw xs he hk hl k51 h3
    refine ⟨s4, h4, ?_⟩
    rw [if_neg (nI_nlt (by omega) (by omega)), ldL_at hk (by omega), hc, e1, bd_some, if_neg n10, e2, bd_some, e3, bd_some, if_neg n10, e4]
theorem h178 (F : Nat) (hF : 300 < F) {w L e k l z : Nat} (hw : 49 ≤ w) (xs : Nat → Int32) (he : e < 60) (hk : k < 4) (hl : l < 4) (hz : z < 100000) (k51 : Nat → Nat → Nat → Nat → Int32 → Int32 → zST → Option (Int32 × zST)) {σ : zST} (h : HI σ) : ∃ s, HI s ∧ m_L_holds_178 F w L xs k51 0 46 47 48 1 (nI e) (nI k) (nI z) (nI l) σ = k51 0 46 47 48 1 (nI (e + 1)) s := by
  have h' := h
  obtain ⟨h1, c, zi, g1, g2, g3, g4⟩ := h'
  have hc6 := g2.1
  have h48 : z % 48 < 48 := Nat.mod_lt _ (by omega)
  unfold m_L_holds_178 m_L_holds_233
  rw [l0, ldI_at (show 0 < 8 by omega) (by omega), g3, l6]
  by_cases q : 6 ≤ c
  · rw [if_pos (nI_le q (by omega))]
    exact h235 F hF hw xs he hk hl hz k51 h
  · generalize hs1 : sI σ 48 0 (nI (c + 1)) = s1
    have b1 : gI s1 48 0 = nI (c + 1) := by rw [← hs1, gI_same]
    generalize hs2 : sI s1 48 (c + 1) (nI (z % 48)) = s2
    have f2 : Fr (fun q j => q = 48) σ s2 := by
      subst hs1
      subst hs2
      exact (Fr.sI (S := fun q _ => q = 48) rfl).tr (Fr.sI rfl)
    have b2 : gI s2 48 0 = nI (c + 1) := by
      rw [← hs2, gI_sI, if_neg (by omega), b1]
    have b3 : ∀ i, i < c + 1 → gI s2 48 (i + 1) = nI (if i = c then z % 48 else zi i) := fun i hi => by
      rw [← hs2, gI_sI]
      by_cases y : i = c
      · rw [if_pos ⟨rfl, by omega⟩, if_pos y]
      · rw [if_neg (by omega), if_neg y, ← hs1, gI_sI, if_neg (by omega), g4 i (by omega)]
    obtain ⟨s3, e3, g5, f3⟩ := x_addG F (by omega) (g2.mv f2 (fun q j a b => by unfold SC6 at a; omega)) (by omega) (td_P (z % 48))
    have hg : (fun i => if i = c then td (z % 48) else td (zi i)) = fun i => td (if i = c then z % 48 else zi i) := by
      funext i
      by_cases y : i = c
      · rw [if_pos y, if_pos y]
      · rw [if_neg y, if_neg y]
    have g6 : GS s3 (c + 1) (fun i => td (if i = c then z % 48 else zi i)) := by rw [← hg]; exact g5
    have hzi : ∀ i, i < c + 1 → (if i = c then z % 48 else zi i) < 48 := fun i hi => by
      by_cases y : i = c
      · rw [if_pos y]; exact h48
      · rw [if_neg y]; exact g1 i (by omega)
    have b4 : gI s3 48 0 = nI (c + 1) := by rw [(f3 48 0 (by unfold SC6; omega)).1, b2]
    have b5 : ∀ i, i < c + 1 → gI s3 48 (i + 1) = nI (if i = c then z % 48 else zi i) := fun i hi => by rw [(f3 48 (i + 1) (by unfold SC6; omega)).1, b3 i hi]
    obtain ⟨N, P, s4, e4, hN, hP, hL4, f4⟩ := close_eq F (by omega) (c := c + 1) (zi := fun i => if i = c then z % 48 else zi i) (by omega) hzi b4 b5
    have h3 : HI s3 := ⟨(h1.mv f2 (fun q j a b => by unfold SA at a; omega)).mv f3 (fun q j a b => by unfold SA at a; unfold SC6 at b; omega), c + 1, fun i => if i = c then z % 48 else zi i, hzi, g6, b4, b5⟩
    have h4 : HI s4 := h3.mv f4 (fun q j z => Or.inr (Or.inr z))
    obtain ⟨s5, h5, e5⟩ := h235 F hF (w := w) (L := L) hw xs he hk hl hz k51 h4
    refine ⟨s5, h5, ?_⟩
    rw [if_neg (nI_ge (show c < 6 by omega) (by omega)), ldI_at (show 0 < 8 by omega) (by omega), g3, nI_1, stI_at (show 0 < 8 by omega) (by omega), hs1, ldI_at (show 0 < 8 by omega) (by omega), b1, stI_at (show c + 1 < 8 by omega) (by omega), show (48 : Int32) = nI 48 from rfl, pk_rem (by omega) (by omega) (by omega), hs2, told_eq F (by omega) (by omega), bd_some, e3, br_inr, e4, bd_some, (g6.all hP).1, if_pos rfl, e5]
theorem h_turn (F : Nat) (hF : 300 < F) {w L e : Nat} (hw : 49 ≤ w) (hL : L ≤ 260) (xs : Nat → Int32) (he : e < 60) (n : Nat) {σ : zST} (h : HI σ) : ∃ s, HI s ∧ m_L_holds_51 F w L xs (n + 1) 0 46 47 48 1 (nI e) σ = m_L_holds_51 F w L xs n 0 46 47 48 1 (nI (e + 1)) s := by
  obtain ⟨way, hway, e1⟩ := from_eq F (w := w) (L := L) (a1 := 4 * e) (a2 := 22) hL (by omega) (by omega) (by omega) xs σ
  obtain ⟨k, hk, e2⟩ := from_eq F (w := w) (L := L) (a1 := 4 * e + 1) (a2 := 4) hL (by omega) (by omega) (by omega) xs σ
  obtain ⟨z, hz, e3⟩ := from_eq F (w := w) (L := L) (a1 := 4 * e + 2) (a2 := 100000) hL (by omega) (by omega) (by omega) xs σ
  obtain ⟨l, hl, e4⟩ := from_eq F (w := w) (L := L) (a1 := 4 * e + 3) (a2 := 4) hL (by omega) (by omega) (by omega) xs σ
  have d0 : (4 : Int32) * nI e = nI (4 * e) := by rw [l4, pk_mul]
  have d1 : nI (4 * e) + 1 = nI (4 * e + 1) := by rw [l1, nI_add]
  have d2 : nI (4 * e) + 2 = nI (4 * e + 2) := by rw [l2, nI_add]
  have d3 : nI (4 * e) + 3 = nI (4 * e + 3) := by rw [l3, nI_add]
  rw [m_L_holds_51]; dsimp only
  rw [show (60 : Int32) = nI 60 from rfl, if_neg (nI_ge he (by omega)), if_neg n10, d0, d1, d2, d3, show (22 : Int32) = nI 22 from rfl, e1, bd_some, l4, e2, bd_some, show (100000 : Int32) = nI 100000 from rfl, e3, bd_some, e4, bd_some, show (18 : Int32) = nI 18 from rfl]
  by_cases q : 18 ≤ way
  · rw [if_pos (nI_le q (by omega))]
    by_cases q2 : way = 21
    · rw [if_pos (by rw [q2]; rfl), l3, pk_rem (by omega) (by omega) (by omega)]
      by_cases q3 : z % 3 = 0
      · obtain ⟨h1, c, zi, g1, g2, g3, g4⟩ := h
        obtain ⟨s1, e5, g5, f5⟩ := x_forget F (by omega) g2
        have b1 : gI s1 48 0 = nI c := by rw [(f5 48 0 (by unfold SC6; omega)).1, g3]
        have f6 : Fr (fun q j => q = 48) s1 (sI s1 48 0 0) := Fr.sI rfl
        have h6 : HI (sI s1 48 0 0) := ⟨(h1.mv f5 (fun q j a b => by unfold SA at a; unfold SC6 at b; omega)).mv f6 (fun q j a b => by unfold SA at a; omega), 0, zi, fun i hi => absurd hi (by omega), g5.mv f6 (fun q j a b => by unfold SC6 at a; omega), by rw [gI_same]; rfl, fun i hi => absurd hi (by omega)⟩
        obtain ⟨s7, h7, e7⟩ := h235 F hF (w := w) (L := L) hw xs he hk hl hz (m_L_holds_51 F w L xs n) h6
        refine ⟨s7, h7, ?_⟩
        unfold m_L_holds_168
        rw [if_pos (by rw [q3]; rfl), e5, bd_some, show (0 : Int32) = nI 0 from rfl, ldI_at (show 0 < 8 by omega) (by omega), b1, if_pos rfl, stI_at (show 0 < 8 by omega) (by omega)]
        exact e7
      · rw [if_neg (fun y => q3 (by rw [l0] at y; exact (b_eq (by omega) (by omega)).mp y))]
        exact h178 F hF hw xs he hk hl hz _ h
    · rw [if_neg (fun y => q2 (by rw [show (21 : Int32) = nI 21 from rfl] at y; exact (b_eq (by omega) (by omega)).mp y))]
      exact h178 F hF hw xs he hk hl hz _ h
  · rw [if_neg (nI_ge (show way < 18 by omega) (by omega))]
    have h' := h
    obtain ⟨h1, c, zi, g1, g2, g3, g4⟩ := h'
    obtain ⟨s1, e5, g5, f5⟩ := acts_eq F (by omega) w hk hz hway h1
    have h6 : HI s1 := ⟨g5, c, zi, g1, g2.mv f5 (fun q j a b => by unfold SC6 at a; unfold SA at b; omega), by rw [(f5 48 0 (by unfold SA; omega)).1, g3], fun i hi => by rw [(f5 48 (i + 1) (by unfold SA; omega)).1, g4 i hi]⟩
    obtain ⟨s7, h7, e7⟩ := h235 F hF (w := w) (L := L) hw xs he hk hl hz (m_L_holds_51 F w L xs n) h6
    exact ⟨s7, h7, by rw [e5, bd_some, e7]⟩
theorem h_loop (F : Nat) (hF : 300 < F) {w L : Nat} (hw : 49 ≤ w) (hL : L ≤ 260) (xs : Nat → Int32) {σ : zST} (h : HI σ) : ∃ τ, m_L_holds_51 F w L xs 62 0 46 47 48 1 0 σ = some (1, τ) :=
  up_inv (fun m (k : Int32) (s : zST) => m_L_holds_51 F w L xs m 0 46 47 48 1 k s) 60 (fun _ s => HI s) (fun o => ∃ τ, o = some (1, τ)) (fun n i s hi hs => h_turn F hF hw hL xs hi n hs) (fun n s _ => ⟨s, by
    show m_L_holds_51 F w L xs (n + 1) 0 46 47 48 1 (nI 60) s = _
    rw [m_L_holds_51]; dsimp only
    unfold m_L_holds_336
    rw [show (60 : Int32) = nI 60 from rfl, if_pos (nI_le (Nat.le_refl _) (by omega)), gd_yes (Or.inr rfl)]⟩) 60 0 62 σ (by omega) (by omega) h
end
