/-! MATHEMATICS, 57: form, placeOf, symmetries, orbits, orbit -/
section
/-- a call that answers a long -/
def OpL (I : zST → Prop) (cl : zST → Option (Int32 × zST)) (rf : zST → Option (Int64 × zST)) : Prop := ∀ σ, I σ → ∃ c σ1 r σ2, cl σ = some (c, σ1) ∧ rf σ1 = some (r, σ2) ∧ gI σ2 46 16 = c ∧ (c = 0 → gL σ2 60 0 = r) ∧ I σ2
theorem op_form {J : zST → Prop} (hJ : Nb J) (F : Nat) (hF : 16777300 < F) (x : Int32) : OpL (GJ J) (m_L_form F 1 0 x 60) (m_X8_form F 46 x) := by
  intro σ h
  rcases Bad.or 4 (by omega) x with hx | ⟨k, hk, rfl⟩
  · refine ⟨1, σ, 0, sI σ 46 16 1, bL_form F hx σ, ?_, gI_same _ _ _ _, fun z => absurd z (by decide +kernel), h.mv hJ (Fr.sI (by unfold SS; omega))⟩
    unfold m_X8_form
    rw [isGraph_bad F hx, bd_some, goes_1, bd_some, if_pos rfl]
  · obtain ⟨n, M, C, hG, hA, hR⟩ := h.1 k hk
    have h8 := hG.1.2
    obtain ⟨s1, b, e1, b1, f1⟩ := clcode_eq F (by omega) (p := 2 + 3 * k) (by omega) hG (hA.an h8)
    generalize hs2 : sL s1 60 0 (lN (2 ^ 52 * n + cod n M C b)) = s2
    generalize hs3 : sI s2 46 16 0 = s3
    have f3 : Fr SS σ s3 := by
      subst hs3 hs2
      exact ((f1.mono (fun p j z => by unfold SS; omega)).tr (Fr.sL (by unfold SS; omega))).tr (Fr.sI (by unfold SS; omega))
    have hR3 : RAt k n M C s3 := hR.mv f3 (fun q j _ _ => by unfold SS; omega)
    obtain ⟨s4, b', e4, _, b2, _, f4⟩ := formOf_eq F hF hk hG hR3
    have ec : cdq n M C b' = 2 ^ 52 * n + cod n M C b := by
      unfold cdq
      rw [b2.1.same b1.1]
    refine ⟨0, s2, lN (2 ^ 52 * n + cod n M C b), s4, ?_, ?_, ?_, fun _ => ?_, h.mv hJ (f3.tr (f4.mono (fun p j z => by unfold SS; omega)))⟩
    · unfold m_L_form m_X7_form
      rw [graphAt_ok F hk, bx_inr, e1, bd_some, bc_inr, out_at, hs2]
    · unfold m_X8_form
      rw [isGraph_ok F hk, bd_some, goes_0 F n10 n10, bd_some, if_neg n10, hs3, e4, bd_some, ec]
    · rw [(f4 46 16 (by omega)).1]
      subst hs3
      exact gI_same _ _ _ _
    · rw [(f4 60 0 (by omega)).2]
      subst hs3
      rw [gL_sI]
      subst hs2
      exact gL_same _ _ _ _
theorem cmp_pos {a : Nat} (h0 : 0 < a) (h : a < 2 ^ 63) : ¬ lg_cmp (lN a) 0 ≤ 0 := by
  intro z
  have h1 : 0 ≤ lg_cmp (lN a) 0 := (cmp_ge (a := a) (b := 0) h (by omega)).mpr (by omega)
  have h2 : lg_cmp (lN a) 0 = 0 := Int32.le_antisymm z h1
  have := (cmp_0 (a := a) (b := 0) h (by omega)).mp h2
  omega
theorem op_placeOf {J : zST → Prop} (hJ : Nb J) (F : Nat) (hF : 16777300 < F) (x y : Int32) : Op (GJ J) (m_L_placeOf F 1 0 x y 60) (m_X8_placeOf F 46 x y) := by
  refine Op.v hJ (cl := fun x y => m_L_placeOf F 1 0 x y 60) (rf := m_X8_placeOf F 46) (fun x hx y σ => bL_placeOf F hx y σ) (fun x hx y σ => bX_placeOf F hx y σ) (fun k n hk y hy σ hg => dL_placeOf F hk hy hg) (fun k n hk y hy σ hg h1 h8 => dX_placeOf F hk hy hg h1 h8) (fun σ h k hk n M C hG hA hR v hv => ?_) x y
  have h8 := hG.1.2
  obtain ⟨s1, b, e1, b1, _, b4, _, _, _, f1⟩ := search_eq F (by omega) (r := 21) (p := 2 + 3 * k) (by omega) hG (hA.an h8)
  generalize hs2 : sL s1 60 0 (nI (iv b v)).toInt64 = s2
  generalize hs3 : sI s2 46 16 0 = s3
  have f2 : Fr SS σ s2 := by
    subst hs2
    exact (f1.mono (fun p j z => by unfold SS; omega)).tr (Fr.sL (by unfold SS; omega))
  have f3 : Fr SS σ s3 := by
    subst hs3
    exact f2.tr (Fr.sI (by unfold SS; omega))
  have hR2 : RAt k n M C s2 := hR.mv f2 (fun q j _ _ => by unfold SS; omega)
  have hR3 : RAt k n M C s3 := hR.mv f3 (fun q j _ _ => by unfold SS; omega)
  obtain ⟨s4, b', e4, b5, b6, b7, f4⟩ := formOf_eq F hF hk hG hR3
  have hbb : b' v = iv b v := by
    rw [bst_one h8 b1 b6, iv_iv b5.1]
  have hpos : 0 < cdq n M C b' := by
    unfold cdq
    have := hG.1.1
    omega
  have hlt : cdq n M C b' < 2 ^ 63 := code_lt h8 b5.iv (fun v hv => (hG.2 v hv).1)
  refine Ok1.rd hJ h (r := nI (iv b v)) (σ1 := s2) (σ2 := s4) ?_ ?_ f2 (?_) ?_ ?_
  · unfold m_L_placeOf m_X7_placeOf
    simp only [Nat.reduceAdd]
    rw [graphAt_ok F hk, bx_inr, checkV_ok F hv (by omega) hA.1, bx_inr, e1, bv_some, bestPlace_eq F h8 b1.1.1 b4 hv, bd_some, bc_inr, out_at, hs2]
  · unfold m_X8_placeOf
    rw [isVertex_ok F hk hR2.1 h8 hv, bd_some, goes_0 F n10 n10, bd_some, if_neg n10, hs3, e4, bd_some, if_neg (cmp_pos hpos hlt), ldI_at (by omega) (by omega), b7 v hv, hbb]
  · subst hs3
    exact (Fr.sI (by unfold SS; omega)).tr (f4.mono (fun p j z => by unfold SS; omega))
  · rw [(f4 46 16 (by omega)).1]
    subst hs3
    exact gI_same _ _ _ _
  · rw [(f4 60 0 (by omega)).2]
    subst hs3
    rw [gL_sI]
    subst hs2
    exact gL_same _ _ _ _
theorem allR_len (n : Nat) : ∀ k, (allR n k).length ≤ k
  | 0 => Nat.le_refl _
  | k + 1 => by
    have := allR_len n k
    rw [allR, List.length_append]
    cases gtN n k with
    | none => show _ + 0 ≤ _; omega
    | some q => show _ + 1 ≤ _; omega
theorem cd_max (n : Nat) (p : (Nat → Nat) → Prop) : cd n p ≤ 40320 := Nat.le_trans List.countP_le_length (allR_len n 40320)
theorem cd_pos {n : Nat} {p : (Nat → Nat) → Prop} {w : Nat → Nat} (hw : IsN n w) (h : p w) : 0 < cd n p := by
  have := cd_le (n := n) (p := fun v => v = w) (q := p) (fun v => v) (fun v hv e => ⟨hv, by rw [e]; exact h⟩) (fun v v' _ _ _ _ e => e)
  rw [cd_one hw] at this
  omega
theorem op_symmetries {J : zST → Prop} (hJ : Nb J) (F : Nat) (hF : 16777300 < F) (x : Int32) : Op (GJ J) (m_L_symmetries F 1 0 x 60) (m_X8_symmetries F 46 x) := by
  refine Op.g hJ (cl := fun x => m_L_symmetries F 1 0 x 60) (rf := m_X8_symmetries F 46) (fun x hx σ => bL_symmetries F hx σ) (fun x hx σ => bX_symmetries F hx σ) (fun σ h k hk n M C hG hA hR => ?_) x
  have h8 := hG.1.2
  obtain ⟨s1, b, e1, b1, _, _, b5, b6, _, f1⟩ := search_eq F (by omega) (r := 21) (p := 2 + 3 * k) (by omega) hG (hA.an h8)
  have hA1 : At (2 + 3 * k) n M C s1 := hA.mv f1 (fun q j _ _ => by omega)
  generalize hs2 : sL s1 60 0 (nI (cd n (Iso n M C M C))).toInt64 = s2
  generalize hs3 : sI s2 46 16 0 = s3
  have f2 : Fr SS σ s2 := by
    subst hs2
    exact (f1.mono (fun p j z => by unfold SS; omega)).tr (Fr.sL (by unfold SS; omega))
  have f3 : Fr SS σ s3 := by
    subst hs3
    exact f2.tr (Fr.sI (by unfold SS; omega))
  have hR3 : RAt k n M C s3 := hR.mv f3 (fun q j _ _ => by unfold SS; omega)
  obtain ⟨s4, e4, _, f4⟩ := turns_eq F hF hk hG hR3
  refine Ok1.rd hJ h (r := nI (cd n (Iso n M C M C))) (σ1 := s2) (σ2 := s4) ?_ ?_ f2 (?_) ?_ ?_
  · unfold m_L_symmetries m_X7_symmetries
    simp only [Nat.reduceAdd]
    rw [graphAt_ok F hk, bx_inr, e1, bv_some, hA1.1, countBest_eq F (by omega) hG b5 b6, bd_some, bc_inr, out_at, hs2]
  · unfold m_X8_symmetries
    rw [isGraph_ok F hk, bd_some, goes_0 F n10 n10, bd_some, if_neg n10, hs3, e4, bd_some]
  · subst hs3
    exact (Fr.sI (by unfold SS; omega)).tr (f4.mono (fun p j z => by unfold FT at z; unfold SS; omega))
  · rw [(f4 46 16 (by unfold FT; omega)).1]
    subst hs3
    exact gI_same _ _ _ _
  · rw [(f4 60 0 (by unfold FT; omega)).2]
    subst hs3
    rw [gL_sI]
    subst hs2
    exact gL_same _ _ _ _
/-- the orbit of a vertex, as both sides keep it -/
theorem orb_one {n : Nat} (hn : n ≤ 8) {M C : Nat → Nat} {v m m' : Nat} (hv : v < n) (h : ∀ y, m.testBit y = true ↔ y < n ∧ ∃ f, Iso n M C M C f ∧ f v = y) (h' : ∀ y, m'.testBit y = true ↔ ∃ f, Iso n M C M C f ∧ f v = y) : m = m' := by
  apply Nat.eq_of_testBit_eq
  intro y
  rw [Bool.eq_iff_iff, h y, h' y]
  constructor
  · exact fun z => z.2
  · rintro ⟨f, hf, e⟩
    exact ⟨by rw [← e]; exact hf.1.lt hn hv, f, hf, e⟩
theorem iso_pos (n : Nat) (M C : Nat → Nat) : ¬ nI (cd n (Iso n M C M C)) ≤ 0 := by
  have h1 := cd_pos (p := Iso n M C M C) (IsN.id n) (Iso.id n M C)
  have h2 := cd_max n (Iso n M C M C)
  exact nI_nle h1 (by omega)
theorem exch_eq (F : Nat) {r n : Nat} (hn : n ≤ 8) {b : Nat → Nat} (hb : IsN n b) {τ : zST} (h1 : gI τ r 1 = nI (rv n (iv b))) {v m : Nat} (hv : v < n) (hm : gI τ (r + 4) (iv b v) = nI m) : m_X0_exchangeable F r (nI v) τ = some (nI m, τ) := by
  have := hb.iv.lt hn hv
  unfold m_X0_exchangeable
  rw [bestPlace_eq F hn hb h1 hv, bd_some, ldI_at (by omega) (by omega), hm]
theorem op_orbit {J : zST → Prop} (hJ : Nb J) (F : Nat) (hF : 16777300 < F) (x y : Int32) : Op (GJ J) (m_L_orbit F 1 0 x y 60) (m_X8_orbit F 46 x y) := by
  refine Op.v hJ (cl := fun x y => m_L_orbit F 1 0 x y 60) (rf := m_X8_orbit F 46) (fun x hx y σ => bL_orbit F hx y σ) (fun x hx y σ => bX_orbit F hx y σ) (fun k n hk y hy σ hg => dL_orbit F hk hy hg) (fun k n hk y hy σ hg h1 h8 => dX_orbit F hk hy hg h1 h8) (fun σ h k hk n M C hG hA hR v hv => ?_) x y
  have h8 := hG.1.2
  obtain ⟨s1, b, e1, b1, _, b4, _, _, b7, f1⟩ := search_eq F (by omega) (r := 21) (p := 2 + 3 * k) (by omega) hG (hA.an h8)
  obtain ⟨m, m1, m2, m3⟩ := b7 v hv
  generalize hs2 : sL s1 60 0 (nI m).toInt64 = s2
  generalize hs3 : sI s2 46 16 0 = s3
  have f2 : Fr SS σ s2 := by
    subst hs2
    exact (f1.mono (fun p j z => by unfold SS; omega)).tr (Fr.sL (by unfold SS; omega))
  have f3 : Fr SS σ s3 := by
    subst hs3
    exact f2.tr (Fr.sI (by unfold SS; omega))
  have hR2 : RAt k n M C s2 := hR.mv f2 (fun q j _ _ => by unfold SS; omega)
  have hR3 : RAt k n M C s3 := hR.mv f3 (fun q j _ _ => by unfold SS; omega)
  obtain ⟨s4, e4, t4, f4⟩ := turns_eq F hF hk hG hR3
  obtain ⟨m', _, n2, n3⟩ := t4 v hv
  have hmm := orb_one h8 hv m3 n3
  refine Ok1.rd hJ h (r := nI m) (σ1 := s2) (σ2 := s4) ?_ ?_ f2 (?_) ?_ ?_
  · unfold m_L_orbit m_X7_orbit
    simp only [Nat.reduceAdd]
    rw [graphAt_ok F hk, bx_inr, checkV_ok F hv (by omega) hA.1, bx_inr, e1, bv_some, exch_eq F h8 b1.1.1 b4 hv m2, bd_some, bc_inr, out_at, hs2]
  · unfold m_X8_orbit
    rw [isVertex_ok F hk hR2.1 h8 hv, bd_some, goes_0 F n10 n10, bd_some, if_neg n10, hs3, e4, bd_some, if_neg (iso_pos n M C), ldI_at (by omega) (by omega), n2, hmm]
  · subst hs3
    exact (Fr.sI (by unfold SS; omega)).tr (f4.mono (fun p j z => by unfold FT at z; unfold SS; omega))
  · rw [(f4 46 16 (by unfold FT; omega)).1]
    subst hs3
    exact gI_same _ _ _ _
  · rw [(f4 60 0 (by unfold FT; omega)).2]
    subst hs3
    rw [gL_sI]
    subst hs2
    exact gL_same _ _ _ _
theorem op_orbits {J : zST → Prop} (hJ : Nb J) (F : Nat) (hF : 16777300 < F) (x : Int32) : Op (GJ J) (m_L_orbits F 1 0 x 60) (m_X8_orbits F 46 x) := by
  refine Op.g hJ (cl := fun x => m_L_orbits F 1 0 x 60) (rf := m_X8_orbits F 46) (fun x hx σ => bL_orbits F hx σ) (fun x hx σ => bX_orbits F hx σ) (fun σ h k hk n M C hG hA hR => ?_) x
  have h8 := hG.1.2
  obtain ⟨s1, b, e1, b1, _, b4, _, _, b7, f1⟩ := search_eq F (by omega) (r := 21) (p := 2 + 3 * k) (by omega) hG (hA.an h8)
  have hA1 : At (2 + 3 * k) n M C s1 := hA.mv f1 (fun q j _ _ => by omega)
  have hex : ∃ mm : Nat → Nat, ∀ v, v < n → mm v < 256 ∧ gI s1 25 (iv b v) = nI (mm v) ∧ ∀ y, (mm v).testBit y = true ↔ y < n ∧ ∃ f, Iso n M C M C f ∧ f v = y := by
    refine ⟨fun v => if z : v < n then Classical.choose (b7 v z) else 0, fun v hv => ?_⟩
    have e0 : (fun v => if z : v < n then Classical.choose (b7 v z) else 0) v = Classical.choose (b7 v hv) := dif_pos hv
    rw [e0]
    exact Classical.choose_spec (b7 v hv)
  obtain ⟨mm, hmm⟩ := hex
  generalize hcc : (fun v => decide (mm v &&& (2 ^ v - 1) = 0)) = P
  have hP : ∀ v, P v = decide (mm v &&& (2 ^ v - 1) = 0) := fun v => by rw [← hcc]
  have hcl := cnt_le P n
  generalize hs2 : sL s1 60 0 (nI (cnt P n)).toInt64 = s2
  generalize hs3 : sI s2 46 16 0 = s3
  have f2 : Fr SS σ s2 := by
    subst hs2
    exact (f1.mono (fun p j z => by unfold SS; omega)).tr (Fr.sL (by unfold SS; omega))
  have f3 : Fr SS σ s3 := by
    subst hs3
    exact f2.tr (Fr.sI (by unfold SS; omega))
  have hR3 : RAt k n M C s3 := hR.mv f3 (fun q j _ _ => by unfold SS; omega)
  obtain ⟨s4, e4, t4, f4⟩ := turns_eq F hF hk hG hR3
  have hR4 : RAt k n M C s4 := hR3.mv f4 (fun q j _ _ => by unfold FT; omega)
  have ht : ∀ v, v < n → gI s4 55 v = nI (mm v) := fun v hv => by
    obtain ⟨m', _, n2, n3⟩ := t4 v hv
    rw [n2, orb_one h8 hv (hmm v hv).2.2 n3]
  have hz : ∀ v, v < n → (nI (mm v) &&& nI (2 ^ v - 1) = 0 ↔ P v = true) := fun v hv => by
    have h1 := (hmm v hv).1
    have h2 : mm v &&& (2 ^ v - 1) ≤ mm v := Nat.and_le_left
    rw [b_and, hP, decide_eq_true_iff, ← nI_0]
    exact nI_eq (by omega) (by omega)
  refine Ok1.rd hJ h (r := nI (cnt P n)) (σ1 := s2) (σ2 := s4) ?_ ?_ f2 (?_) ?_ ?_
  · have loop : m_X7_orbits_19 F F 0 (2 + 3 * k) 0 0 s1 = some (.inr (nI (cnt P n)), s1) := by
      refine up_loop0 (fun m (i : Int32) (a : Int32) => m_X7_orbits_19 F m 0 (2 + 3 * k) a i s1) n (fun i => nI (cnt P i)) _ (fun m i hi => ?_) (fun m => ?_) (show n < F by omega)
      · show m_X7_orbits_19 F (m + 1) 0 (2 + 3 * k) (nI (cnt P i)) (nI i) s1 = m_X7_orbits_19 F m 0 (2 + 3 * k) (nI (cnt P (i + 1))) (nI (i + 1)) s1
        rw [m_X7_orbits_19]; dsimp only
        unfold m_X7_orbits_49
        simp only [Nat.reduceAdd]
        rw [hA1.1, if_neg (nI_ge hi (by omega)), exch_eq F h8 b1.1.1 b4 hi (hmm i hi).2.1, bd_some, below_eq F (by omega), bd_some, cnt_s]
        by_cases z : P i = true
        · rw [if_pos ((hz i hi).mpr z), nm_eq, nm_eq, nI_1, nI_1, z]
          rfl
        · have z2 : P i = false := by cases q : P i; rfl; exact absurd q z
          rw [if_neg (fun w => z ((hz i hi).mp w)), nm_eq, nI_1, z2]
          rfl
      · show m_X7_orbits_19 F (m + 1) 0 (2 + 3 * k) (nI (cnt P n)) (nI n) s1 = _
        rw [m_X7_orbits_19]; dsimp only
        rw [hA1.1, if_pos (nI_le (Nat.le_refl _) (by omega))]
    unfold m_L_orbits m_X7_orbits
    simp only [Nat.reduceAdd]
    rw [graphAt_ok F hk, bx_inr, e1, bv_some, loop, bc_inr, out_at, hs2]
  · unfold m_X8_orbits
    rw [isGraph_ok F hk, bd_some, goes_0 F n10 n10, bd_some, if_neg n10, hs3, e4, bd_some, if_neg (iso_pos n M C)]
    refine up_loop0 (fun m (i : Int32) (a : Int32) => m_X8_orbits_24 F m 46 (nI k) a i s4) n (fun i => nI (cnt P i)) _ (fun m i hi => ?_) (fun m => ?_) (show n < F by omega)
    · show m_X8_orbits_24 F (m + 1) 46 (nI k) (nI (cnt P i)) (nI i) s4 = m_X8_orbits_24 F m 46 (nI k) (nI (cnt P (i + 1))) (nI (i + 1)) s4
      rw [m_X8_orbits_24]; dsimp only
      unfold m_X8_orbits_55
      rw [ldI_at hk (by omega), hR4.1, if_neg (nI_ge hi (by omega)), ldI_at (by omega) (by omega), ht i hi, shl1 (by omega), l1, b_sub Nat.one_le_two_pow, cnt_s]
      by_cases z : P i = true
      · rw [if_pos ((hz i hi).mpr z), nI_add, nm_eq, nI_add, nm_eq, z]
        rfl
      · have z2 : P i = false := by cases q : P i; rfl; exact absurd q z
        rw [if_neg (fun w => z ((hz i hi).mp w)), nI_add, nm_eq, z2, l0, nI_add, nm_eq]
        rfl
    · show m_X8_orbits_24 F (m + 1) 46 (nI k) (nI (cnt P n)) (nI n) s4 = _
      rw [m_X8_orbits_24]; dsimp only
      unfold m_X8_orbits_63
      rw [ldI_at hk (by omega), hR4.1, if_pos (nI_le (Nat.le_refl _) (by omega))]
  · subst hs3
    exact (Fr.sI (by unfold SS; omega)).tr (f4.mono (fun p j z => by unfold FT at z; unfold SS; omega))
  · rw [(f4 46 16 (by unfold FT; omega)).1]
    subst hs3
    exact gI_same _ _ _ _
  · rw [(f4 60 0 (by unfold FT; omega)).2]
    subst hs3
    rw [gL_sI]
    subst hs2
    exact gL_same _ _ _ _
end
