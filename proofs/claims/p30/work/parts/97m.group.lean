/-! THE CLASS'S GROUP, by itself -/
section
def GS (σ : zST) (c : Nat) (g : Nat → Nat → Nat) : Prop := c ≤ 6 ∧ (∀ i, i < c → IsP (g i)) ∧ CGe c g σ ∧ CGr c g σ
def GLs (c : Nat) (g : Nat → Nat → Nat) (N : Nat) (L : Nat → Nat → Nat) : Prop := N ≤ 40320 ∧ (∀ i j, i < N → j < N → L i = L j → i = j) ∧ ∀ f, Gp c g f ↔ Hd N L f
def SC6 (q _j : Nat) : Prop := 36 ≤ q ∧ q ≤ 41
theorem GS.mv {σ τ : zST} {c : Nat} {g : Nat → Nat → Nat} (h : GS σ c g) {S : Nat → Nat → Prop} (hf : Fr S σ τ) (h0 : ∀ p j, SC6 p j → ¬ S p j) : GS τ c g := ⟨h.1, h.2.1, h.2.2.1.mv hf (fun p j _ _ => h0 p j (by unfold SC6; omega)), h.2.2.2.mv hf (fun p j _ _ => h0 p j (by unfold SC6; omega))⟩
theorem isOne_p (F : Nat) (hF : 8 < F) {p : Nat → Nat} (hp : IsP p) (σ : zST) : m_X5_isOne F (lN (en p)) σ = some (1, σ) := (isOne_in F hF (d := p) hp.d16 σ).1 (perm_hit hp)
theorem GS.all {σ : zST} {c : Nat} {g : Nat → Nat → Nat} (h : GS σ c g) {N : Nat} {L : Nat → Nat → Nat} (hl : GLs c g N L) : gI σ 38 0 = nI N ∧ ∃ b E m kt, CR 38 40320 b E m kt σ ∧ VE b E ∧ ∀ f, SS8 b E 8 f ↔ Gp c g f := by
  obtain ⟨a1, a2, a3, ⟨b, E, m, kt, h1, h2, h3⟩⟩ := h
  obtain ⟨hN, hi, h5⟩ := hl
  have hS := chain_group h1 h2 h3 h5 hN
  have hc := chain_count h1.1.2.1 hS hi h5
  exact ⟨by rw [h1.1.2.2.1, hc], b, E, m, kt, h1, h1.1.2.1, hS⟩
theorem x_order (F : Nat) {σ : zST} {c : Nat} {g : Nat → Nat → Nat} (h : GS σ c g) {N : Nat} {L : Nat → Nat → Nat} (hl : GLs c g N L) : m_X7_order F 0 σ = some (nI N, σ) := by
  show some (gI σ 38 0, σ) = _
  rw [(h.all hl).1]
theorem x_isIn (F : Nat) (hF : 8 < F) {σ : zST} {c : Nat} {g : Nat → Nat → Nat} (h : GS σ c g) {N : Nat} {L : Nat → Nat → Nat} (hl : GLs c g N L) {p : Nat → Nat} (hp : IsP p) : m_X7_isInGroup F 0 (lN (en p)) σ = some (.inr (bI (dc (Hd N L p))), σ) := by
  obtain ⟨h38, b, E, m, kt, h1, hV, hS⟩ := h.all hl
  have hr := sfr_ok hV 8 (Nat.le_refl _) p hp (fun j hj => absurd hj (by omega))
  have hid : en (fun j => j) = 1985229328 := by decide +kernel
  have hen := en_lt8 hr.1.2.1
  have hcmp : lg_cmp (lN (en (sfr b E 8 p).2)) 1985229328 = 0 ↔ en (sfr b E 8 p).2 = 1985229328 := cmp_0 (a := en (sfr b E 8 p).2) (b := 1985229328) (by omega) (by omega)
  have hin : en (sfr b E 8 p).2 = 1985229328 ↔ SS8 b E 8 p := by
    constructor
    · intro z
      have z := hr.1.en_inj IsP.id (z.trans hid.symm)
      refine ⟨hp, fun j hj => absurd hj (by omega), ?_⟩
      apply Classical.byContradiction
      intro y
      have hl : (sfr b E 8 p).1 < 8 := by have := hr.2.2.1; omega
      have := hr.2.2.2.2 hl
      rw [z, hV.2.1 _ hl] at this
      exact absurd this (by simp)
    · intro z
      have : (sfr b E 8 p).2 = fun j => j := fix_id hV.1 hr.1 (fun j hj => hr.2.2.2.1 j (by rw [z.2.2]; exact hj))
      rw [this, hid]
  have e2 : m_X1_holds F 38 (lN (en p)) σ = some (bI (dc (Hd N L p)), σ) := by
    unfold m_X1_holds
    rw [restOf_eq F hF h1.1.1 hV hp, bd_some]
    by_cases q : Hd N L p
    · rw [if_pos (hcmp.mpr (hin.mpr ((hS p).mpr ((hl.2.2 p).mpr q)))), dc_yes q]; rfl
    · rw [if_neg (fun z => q ((hl.2.2 p).mp ((hS p).mp (hin.mp (hcmp.mp z))))), dc_no q]; rfl
  show bx (m_X7_checkPermutation F (lN (en p)) σ) (fun _ s2 => bd (m_X1_holds F 38 (lN (en p)) s2) fun (x5 : Int32) s6 => gd (x5 = 0 ∨ x5 = 1) (some (Sum.inr x5, s6))) = _
  rw [checkP_ok F (isOne_p F hF hp σ), bx_inr, e2, bd_some, gd_yes (bI_01 _)]
theorem x_moves (F : Nat) (hF : 8 < F) {σ : zST} {c : Nat} {g : Nat → Nat → Nat} (h : GS σ c g) {N : Nat} {L : Nat → Nat → Nat} (hl : GLs c g N L) {x : Nat} (hx : x < 8) : m_X7_moves F 0 (nI x) σ = some (.inr (nI (mvs L x N)), σ) := by
  obtain ⟨a1, a2, a3, _⟩ := h
  have e : rch c g x 7 = mvs L x N := by
    apply Nat.eq_of_testBit_eq
    intro y
    rw [Bool.eq_iff_iff, mvs_bit]
    constructor
    · intro hy
      obtain ⟨f, hf, ef⟩ := rch_Gp 7 y hy
      obtain ⟨k, hk, ek⟩ := (hl.2.2 f).mp hf
      exact ⟨k, hk, by rw [ek, ef]⟩
    · rintro ⟨k, hk, ek⟩
      rw [← ek]
      exact rch_all a2 hx ((hl.2.2 _).mpr ⟨k, hk, rfl⟩)
  unfold m_X7_moves
  rw [if_neg (nI_pos (by omega)), l8, if_pos (nI_lt hx (by omega))]
  show bd (m_X3_reach F 36 (nI x) σ) _ = _
  rw [reach_eq F (by omega) a1 a2 hx a3, bd_some, e]
theorem x_fixing (F : Nat) (hF : 64 < F) {σ : zST} {c : Nat} {g : Nat → Nat → Nat} (h : GS σ c g) {N : Nat} {L : Nat → Nat → Nat} (hl : GLs c g N L) {a : Nat} (ha : a < 256) : ∃ τ, m_X7_fixing F 0 (nI a) σ = some (.inr (nI (cnt (fun n => fxT a (L n) 8) N)), τ) ∧ Fr (fun p _ => 42 ≤ p ∧ p ≤ 45) σ τ := by
  obtain ⟨s1, e1, f1⟩ := countFixing_eq F hF h.1 h.2.1 h.2.2.1 hl.1 (h.all hl).1 hl.2.1 hl.2.2 ha
  refine ⟨s1, ?_, f1⟩
  unfold m_X7_fixing
  rw [if_neg (nI_pos (by omega)), show (255 : Int32) = nI 255 from rfl, if_pos (nI_le (by omega) (by omega))]
  show bd (m_X3_countFixing F 36 (nI a) σ) _ = _
  rw [e1, bd_some]
theorem x_forget (F : Nat) (hF : 64 < F) {σ : zST} {c : Nat} {g : Nat → Nat → Nat} (h : GS σ c g) : ∃ τ, m_X7_forgetGenerators F 0 σ = some (nI c, τ) ∧ GS τ 0 g ∧ Fr SC6 σ τ := by
  obtain ⟨s1, e1, b1, b2, b3, b4⟩ := gclear_eq F hF 36 σ
  refine ⟨s1, ?_, ⟨by omega, fun i hi => absurd hi (by omega), ⟨b1, fun i hi => absurd hi (by omega)⟩, ⟨iv (pos 0), E0 (iv (pos 0)), 0, fun _ j => j, CR0 b2 b3, fun i hi => absurd hi (by omega), E0_Gp⟩⟩, b4.mono (fun q j z => by unfold SC6; omega)⟩
  show nm (gI σ 36 0) (fun x1 => bv (m_X3_clear F 36 σ) fun s4 => some (x1, s4)) = _
  rw [nm_eq, e1, bv_some, h.2.2.1.1]
theorem x_addG (F : Nat) (hF : 64 < F) {σ : zST} {c : Nat} {g : Nat → Nat → Nat} (h : GS σ c g) (hc6 : c < 6) {p : Nat → Nat} (hp : IsP p) : ∃ τ, m_X7_addGenerator F 0 (lN (en p)) σ = some (.inr (gI τ 38 0), τ) ∧ GS τ (c + 1) (fun i => if i = c then p else g i) ∧ Fr SC6 σ τ := by
  obtain ⟨a1, a2, a3, ⟨b, E, m, kt, h1, h2, h3⟩⟩ := h
  generalize hs1 : sI (sL σ 37 c (lN (en p))) 36 0 (nI (c + 1)) = s1
  have f1 : Fr (fun p j => (p = 37 ∧ j = c) ∨ (p = 36 ∧ j = 0)) σ s1 := by
    subst hs1
    exact (Fr.sL (by omega)).tr (Fr.sI (by omega))
  obtain ⟨s2, E', m', kt', e1, c1, c2, c3, c4, c5⟩ := add_eq F hF (q := 38) (most := 40320) (by omega) (h1.mv f1 (fun p j _ _ => by omega)) hp
  have hg' : ∀ i, i < c → (fun i => if i = c then p else g i) i = g i := fun i hi => if_neg (by omega)
  have hgP : ∀ i, i < c + 1 → IsP ((fun i => if i = c then p else g i) i) := by
    intro i hi
    show IsP (if i = c then p else g i)
    split
    · exact hp
    · exact a2 i (by omega)
  have hpG : Gp (c + 1) (fun i => if i = c then p else g i) p := by
    have := Gp.gen (c := c + 1) (g := fun i => if i = c then p else g i) (i := c) (by omega)
    have e : (if c = c then p else g c) = p := if_pos rfl
    rw [e] at this
    exact this
  generalize hgg : (fun i => if i = c then p else g i) = g' at hg' hgP hpG
  have hgc : g' c = p := by subst hgg; exact if_pos rfl
  have hE' : ∀ i x u, E' i x = some u → Gp (c + 1) g' u := c5 (Gp (c + 1) g') (Clo_Gp _ _) (fun i x u e => (h3 i x u e).more hg') hpG
  have hgen' : ∀ i, i < c + 1 → SS8 b E' 8 (g' i) := by
    intro i hi
    by_cases e : i = c
    · rw [e, hgc]; exact c3
    · rw [hg' i (by omega)]
      exact SS8_mono h1.1.2.1 c2 8 (Nat.le_refl _) _ (h2 i (by omega))
  refine ⟨s2, ?_, ⟨by omega, hgP, ⟨?_, fun i hi => ?_⟩, ⟨b, E', m', kt', c1, hgen', hE'⟩⟩, (f1.mono (fun q j z => by unfold SC6; omega)).tr (c4.mono (fun q j z => by unfold KG at z; unfold SC6; omega))⟩
  · show bx (m_X7_checkPermutation F (lN (en p)) σ) (fun _ s2 => if gI s2 36 0 < 6 then (bv (m_X3_add F 36 (lN (en p)) s2) fun (s7 : zST) => some (Sum.inr (gI s7 38 0), s7)) else (some (Sum.inl "java/lang/IllegalStateException", s2))) = _
    have e2 : m_X3_add F 36 (lN (en p)) σ = some s2 := by
      unfold m_X3_add
      rw [l6, a3.1, if_neg (nI_ge hc6 (by omega)), stL_at hc6 (by omega), gI_sL, a3.1, nI_1, nm_eq, hs1]
      show bv (m_X1_add F 38 (lN (en p)) (nI 40320) s1) _ = _
      rw [e1, bv_some]
    rw [checkP_ok F (isOne_p F (by omega) hp σ), bx_inr, a3.1, l6, if_pos (nI_lt hc6 (by omega)), e2, bv_some]
  · rw [(c4 36 0 (by unfold KG; omega)).1]
    subst hs1
    rw [gI_same]
  · rw [(c4 37 i (by unfold KG; omega)).2]
    subst hs1
    rw [gL_sI, gL_sL]
    by_cases e : i = c
    · rw [if_pos ⟨rfl, e⟩, e, hgc]
    · rw [if_neg (fun z => e z.2), hg' i (by omega), a3.2 i (by omega)]
end
