/-! THE CLASS'S ANSWERS, by themselves: calls that ask -/
section
def SX (q _j : Nat) : Prop := 14 ≤ q ∧ q ≤ 35
theorem x_size (F : Nat) {k n : Nat} (hk : k < 4) {M C : Nat → Nat} {σ : zST} (hA : At (2 + 3 * k) n M C σ) : m_X7_size F 0 (nI k) σ = some (.inr (nI n), σ) := by
  unfold m_X7_size
  rw [graphAt_ok F hk, bx_inr, hA.1]
theorem x_edges (F : Nat) (hF : 8 < F) {k n : Nat} (hk : k < 4) {M C : Nat → Nat} {σ : zST} (hG : Gr n M C) (hA : At (2 + 3 * k) n M C σ) : m_X7_edges F 0 (nI k) σ = some (.inr (nI (edg M)), σ) := by
  unfold m_X7_edges
  rw [graphAt_ok F hk, bx_inr, countE_cl F hF hG hA, bd_some]
theorem x_neighbours (F : Nat) {k n v : Nat} (hk : k < 4) {M C : Nat → Nat} {σ : zST} (hG : Gr n M C) (hA : At (2 + 3 * k) n M C σ) (hv : v < n) : m_X7_neighbours F 0 (nI k) (nI v) σ = some (.inr (nI (M v)), σ) := by
  have h8 := hG.1.2
  unfold m_X7_neighbours
  rw [graphAt_ok F hk, bx_inr, checkV_ok F hv (by omega) hA.1, bx_inr, ldI_at (by omega) (by omega), (hA.2 v (by omega)).1]
theorem x_colour (F : Nat) {k n v : Nat} (hk : k < 4) {M C : Nat → Nat} {σ : zST} (hG : Gr n M C) (hA : At (2 + 3 * k) n M C σ) (hv : v < n) : m_X7_colour F 0 (nI k) (nI v) σ = some (.inr (nI (C v)), σ) := by
  have h8 := hG.1.2
  unfold m_X7_colour
  rw [graphAt_ok F hk, bx_inr, checkV_ok F hv (by omega) hA.1, bx_inr, ldI_at (by omega) (by omega), (hA.2 v (by omega)).2]
theorem x_classes (F : Nat) (hF : 9 < F) {k n T : Nat} (hk : k < 4) {M C : Nat → Nat} {σ : zST} (hG : Gr n M C) (hA : At (2 + 3 * k) n M C σ) (hT : 1 ≤ T ∧ T ≤ 8 ∧ EndR n M C T) : ∃ τ, m_X7_classes F 0 (nI k) σ = some (.inr (nI (Cn n M C T)), τ) ∧ Fr SX σ τ := by
  obtain ⟨s1, e1, r1⟩ := refine_cl F hF (r := 17) (p := 2 + 3 * k) (by omega) hG hA hT
  refine ⟨s1, ?_, r1.2.2.2.2.mono (fun q j z => by unfold SX; omega)⟩
  unfold m_X7_classes
  simp only [Nat.reduceAdd]
  rw [graphAt_ok F hk, bx_inr, e1, bv_some, r1.1]
theorem x_rounds (F : Nat) (hF : 9 < F) {k n T : Nat} (hk : k < 4) {M C : Nat → Nat} {σ : zST} (hG : Gr n M C) (hA : At (2 + 3 * k) n M C σ) (hT : 1 ≤ T ∧ T ≤ 8 ∧ EndR n M C T) : ∃ τ, m_X7_rounds F 0 (nI k) σ = some (.inr (nI T), τ) ∧ Fr SX σ τ := by
  obtain ⟨s1, e1, r1⟩ := refine_cl F hF (r := 17) (p := 2 + 3 * k) (by omega) hG hA hT
  refine ⟨s1, ?_, r1.2.2.2.2.mono (fun q j z => by unfold SX; omega)⟩
  unfold m_X7_rounds
  simp only [Nat.reduceAdd]
  rw [graphAt_ok F hk, bx_inr, e1, bv_some, r1.2.1 hT.1]
theorem x_classOf (F : Nat) (hF : 9 < F) {k n v T : Nat} (hk : k < 4) {M C : Nat → Nat} {σ : zST} (hG : Gr n M C) (hA : At (2 + 3 * k) n M C σ) (hv : v < n) (hT : 1 ≤ T ∧ T ≤ 8 ∧ EndR n M C T) : ∃ τ, m_X7_classOf F 0 (nI k) (nI v) σ = some (.inr (nI (Rk n M C T v)), τ) ∧ Fr SX σ τ := by
  have h8 := hG.1.2
  obtain ⟨s1, e1, r1⟩ := refine_cl F hF (r := 17) (p := 2 + 3 * k) (by omega) hG hA hT
  refine ⟨s1, ?_, r1.2.2.2.2.mono (fun q j z => by unfold SX; omega)⟩
  unfold m_X7_classOf
  simp only [Nat.reduceAdd]
  rw [graphAt_ok F hk, bx_inr, checkV_ok F hv (by omega) hA.1, bx_inr, e1, bv_some, ldI_at (by omega) (by omega), r1.2.2.1 v hv]
theorem x_form (F : Nat) (hF : 9 < F) {k n : Nat} (hk : k < 4) {M C b : Nat → Nat} {σ : zST} (hG : Gr n M C) (hA : At (2 + 3 * k) n M C σ) (hb : Bst n M C b) : ∃ τ, m_X7_form F 0 (nI k) σ = some (.inr (lN (cde n M C b)), τ) ∧ Fr SX σ τ := by
  obtain ⟨s1, b', e1, b1, f1⟩ := clcode_eq F (by omega) (p := 2 + 3 * k) (by omega) hG (hA.an hG.1.2)
  refine ⟨s1, ?_, f1.mono (fun q j z => by unfold SX; omega)⟩
  unfold m_X7_form cde
  rw [graphAt_ok F hk, bx_inr, e1, bd_some, hb.1.same b1.1]
theorem x_placeOf (F : Nat) (hF : 9 < F) {k n v : Nat} (hk : k < 4) {M C b : Nat → Nat} {σ : zST} (hG : Gr n M C) (hA : At (2 + 3 * k) n M C σ) (hv : v < n) (hb : Bst n M C b) : ∃ τ, m_X7_placeOf F 0 (nI k) (nI v) σ = some (.inr (nI (iv b v)), τ) ∧ Fr SX σ τ := by
  have h8 := hG.1.2
  obtain ⟨s1, b', e1, b1, _, b4, _, _, _, f1⟩ := search_eq F (by omega) (r := 21) (p := 2 + 3 * k) (by omega) hG (hA.an h8)
  refine ⟨s1, ?_, f1.mono (fun q j z => by unfold SX; omega)⟩
  unfold m_X7_placeOf
  simp only [Nat.reduceAdd]
  rw [graphAt_ok F hk, bx_inr, checkV_ok F hv (by omega) hA.1, bx_inr, e1, bv_some, bestPlace_eq F h8 b1.1.1 b4 hv, bd_some, bst_one h8 b1 hb]
theorem x_symmetries (F : Nat) (hF : 9 < F) {k n : Nat} (hk : k < 4) {M C : Nat → Nat} {σ : zST} (hG : Gr n M C) (hA : At (2 + 3 * k) n M C σ) : ∃ τ, m_X7_symmetries F 0 (nI k) σ = some (.inr (nI (cd n (Iso n M C M C))), τ) ∧ Fr SX σ τ := by
  have h8 := hG.1.2
  obtain ⟨s1, b, e1, b1, _, _, b5, b6, _, f1⟩ := search_eq F (by omega) (r := 21) (p := 2 + 3 * k) (by omega) hG (hA.an h8)
  have hA1 : At (2 + 3 * k) n M C s1 := hA.mv f1 (fun q j _ _ => by omega)
  refine ⟨s1, ?_, f1.mono (fun q j z => by unfold SX; omega)⟩
  unfold m_X7_symmetries
  simp only [Nat.reduceAdd]
  rw [graphAt_ok F hk, bx_inr, e1, bv_some, hA1.1, countBest_eq F (by omega) hG b5 b6, bd_some]
/-- the orbits of a graph's vertices, as masks -/
def Orb (n : Nat) (M C mm : Nat → Nat) : Prop := ∀ v, v < n → mm v < 256 ∧ ∀ y, (mm v).testBit y = true ↔ y < n ∧ ∃ f, Iso n M C M C f ∧ f v = y
theorem x_orbit (F : Nat) (hF : 9 < F) {k n v : Nat} (hk : k < 4) {M C mm : Nat → Nat} {σ : zST} (hG : Gr n M C) (hA : At (2 + 3 * k) n M C σ) (hv : v < n) (hm : Orb n M C mm) : ∃ τ, m_X7_orbit F 0 (nI k) (nI v) σ = some (.inr (nI (mm v)), τ) ∧ Fr SX σ τ := by
  have h8 := hG.1.2
  obtain ⟨s1, b, e1, b1, _, b4, _, _, b7, f1⟩ := search_eq F (by omega) (r := 21) (p := 2 + 3 * k) (by omega) hG (hA.an h8)
  obtain ⟨m, m1, m2, m3⟩ := b7 v hv
  have e : m = mm v := by
    apply Nat.eq_of_testBit_eq
    intro y
    rw [Bool.eq_iff_iff, m3 y, (hm v hv).2 y]
  refine ⟨s1, ?_, f1.mono (fun q j z => by unfold SX; omega)⟩
  unfold m_X7_orbit
  simp only [Nat.reduceAdd]
  rw [graphAt_ok F hk, bx_inr, checkV_ok F hv (by omega) hA.1, bx_inr, e1, bv_some, exch_eq F h8 b1.1.1 b4 hv m2, bd_some, e]
theorem x_orbits (F : Nat) (hF : 9 < F) {k n : Nat} (hk : k < 4) {M C mm : Nat → Nat} {σ : zST} (hG : Gr n M C) (hA : At (2 + 3 * k) n M C σ) (hm : Orb n M C mm) : ∃ τ, m_X7_orbits F 0 (nI k) σ = some (.inr (nI (cnt (fun v => decide (mm v &&& (2 ^ v - 1) = 0)) n)), τ) ∧ Fr SX σ τ := by
  have h8 := hG.1.2
  obtain ⟨s1, b, e1, b1, _, b4, _, _, b7, f1⟩ := search_eq F (by omega) (r := 21) (p := 2 + 3 * k) (by omega) hG (hA.an h8)
  have hA1 : At (2 + 3 * k) n M C s1 := hA.mv f1 (fun q j _ _ => by omega)
  have hmm : ∀ v, v < n → gI s1 25 (iv b v) = nI (mm v) := fun v hv => by
    obtain ⟨m, m1, m2, m3⟩ := b7 v hv
    have e : m = mm v := by
      apply Nat.eq_of_testBit_eq
      intro y
      rw [Bool.eq_iff_iff, m3 y, (hm v hv).2 y]
    rw [m2, e]
  generalize hcc : (fun v => decide (mm v &&& (2 ^ v - 1) = 0)) = P
  have hP : ∀ v, P v = decide (mm v &&& (2 ^ v - 1) = 0) := fun v => by rw [← hcc]
  have hcl := cnt_le P n
  have hz : ∀ v, v < n → (nI (mm v) &&& nI (2 ^ v - 1) = 0 ↔ P v = true) := fun v hv => by
    have h1 := (hm v hv).1
    have h2 : mm v &&& (2 ^ v - 1) ≤ mm v := Nat.and_le_left
    rw [b_and, hP, decide_eq_true_iff, ← nI_0]
    exact nI_eq (by omega) (by omega)
  refine ⟨s1, ?_, f1.mono (fun q j z => by unfold SX; omega)⟩
  have loop : m_X7_orbits_19 F F 0 (2 + 3 * k) 0 0 s1 = some (.inr (nI (cnt P n)), s1) := by
    refine up_loop0 (fun m (i : Int32) (a : Int32) => m_X7_orbits_19 F m 0 (2 + 3 * k) a i s1) n (fun i => nI (cnt P i)) _ (fun m i hi => ?_) (fun m => ?_) (show n < F by omega)
    · show m_X7_orbits_19 F (m + 1) 0 (2 + 3 * k) (nI (cnt P i)) (nI i) s1 = m_X7_orbits_19 F m 0 (2 + 3 * k) (nI (cnt P (i + 1))) (nI (i + 1)) s1
      rw [m_X7_orbits_19]; dsimp only
      unfold m_X7_orbits_49
      simp only [Nat.reduceAdd]
      rw [hA1.1, if_neg (nI_ge hi (by omega)), exch_eq F h8 b1.1.1 b4 hi (hmm i hi), bd_some, below_eq F (by omega), bd_some, cnt_s]
      by_cases z : P i = true
      · rw [if_pos ((hz i hi).mpr z), nm_eq, nm_eq, nI_1, nI_1, z]
        rfl
      · have z2 : P i = false := by cases q : P i; rfl; exact absurd q z
        rw [if_neg (fun w => z ((hz i hi).mp w)), nm_eq, nI_1, z2]
        rfl
    · show m_X7_orbits_19 F (m + 1) 0 (2 + 3 * k) (nI (cnt P n)) (nI n) s1 = _
      rw [m_X7_orbits_19]; dsimp only
      rw [hA1.1, if_pos (nI_le (Nat.le_refl _) (by omega))]
  unfold m_X7_orbits
  simp only [Nat.reduceAdd]
  rw [graphAt_ok F hk, bx_inr, e1, bv_some, loop]
def Alk (n n2 : Nat) (M C M2 C2 : Nat → Nat) : Prop := n = n2 ∧ ∃ q, Iso n M C M2 C2 q
theorem x_areAlike (F : Nat) (hF : 9 < F) {k l n n2 : Nat} (hk : k < 4) (hl : l < 4) {M C M2 C2 : Nat → Nat} {σ : zST} (hG : Gr n M C) (hA : At (2 + 3 * k) n M C σ) (hG2 : Gr n2 M2 C2) (hA2 : At (2 + 3 * l) n2 M2 C2 σ) : ∃ τ, m_X7_areAlike F 0 (nI k) (nI l) σ = some (.inr (bI (dc (Alk n n2 M C M2 C2))), τ) ∧ Fr SX σ τ := by
  obtain ⟨s1, e1, f1⟩ := same_eq F (by omega) (p := 2 + 3 * k) (p2 := 2 + 3 * l) (by omega) (by omega) hG (hA.an hG.1.2) hG2 (hA2.an hG2.1.2)
  refine ⟨s1, ?_, f1.mono (fun q j z => by unfold SX; omega)⟩
  unfold m_X7_areAlike Alk
  rw [graphAt_ok F hk, bx_inr, graphAt_ok F hl, bx_inr, e1, bd_some, gd_yes (bI_01 _)]
theorem x_image (F : Nat) (hF : 9 < F) {k l n n2 v : Nat} (hk : k < 4) (hl : l < 4) {M C M2 C2 : Nat → Nat} {σ : zST} (hG : Gr n M C) (hA : At (2 + 3 * k) n M C σ) (hG2 : Gr n2 M2 C2) (hA2 : At (2 + 3 * l) n2 M2 C2 σ) (hv : v < n) : ∃ τ r, m_X7_image F 0 (nI k) (nI l) (nI v) σ = some (.inr r, τ) ∧ Fr SX σ τ ∧ ((n = n2 ∧ ∃ q, Iso n M C M2 C2 q ∧ (∀ g, Iso n M C M2 C2 g → rv n q ≤ rv n g) ∧ r = nI (q v)) ∨ (¬ Alk n n2 M C M2 C2 ∧ r = -1)) := by
  have h8 := hG.1.2
  obtain ⟨s1, e1, f1⟩ := same_eq F (by omega) (p := 2 + 3 * k) (p2 := 2 + 3 * l) (by omega) (by omega) hG (hA.an h8) hG2 (hA2.an hG2.1.2)
  by_cases e : n = n2 ∧ ∃ q, Iso n M C M2 C2 q
  · obtain ⟨rfl, f, hf⟩ := e
    obtain ⟨s2, q, e2, q1, q2, q3, f2⟩ := find_eq F (by omega) (p := 2 + 3 * k) (p2 := 2 + 3 * l) (by omega) (by omega) hG (hA.mv f1 (fun q j _ _ => by omega)) hG2 (hA2.mv f1 (fun q j _ _ => by omega)) hf
    refine ⟨s2, nI (q v), ?_, (f1.mono (fun q j z => by unfold SX; omega)).tr (f2.mono (fun q j z => by unfold SX; omega)), Or.inl ⟨rfl, q, q1, q2, rfl⟩⟩
    unfold m_X7_image
    simp only [Nat.reduceAdd]
    rw [graphAt_ok F hk, bx_inr, graphAt_ok F hl, bx_inr, checkV_ok F hv (by omega) hA.1, bx_inr, e1, bd_some, if_neg (fun z => dcI_0.mp z ⟨rfl, f, hf⟩), e2, bd_some, if_neg n10, ldI_at (by omega) (by omega), q3 v hv]
  · refine ⟨s1, -1, ?_, f1.mono (fun q j z => by unfold SX; omega), Or.inr ⟨e, rfl⟩⟩
    unfold m_X7_image m_X7_image_55
    simp only [Nat.reduceAdd]
    rw [graphAt_ok F hk, bx_inr, graphAt_ok F hl, bx_inr, checkV_ok F hv (by omega) hA.1, bx_inr, e1, bd_some, if_pos (dcI_0.mpr e)]
theorem x_copies (F : Nat) (hF : 300 < F) {k l n n2 : Nat} (hk : k < 4) (hl : l < 4) {M C M2 C2 : Nat → Nat} {σ : zST} (hG : Gr n M C) (hA : At (2 + 3 * k) n M C σ) (hG2 : Gr n2 M2 C2) (hA2 : At (2 + 3 * l) n2 M2 C2 σ) : ∃ τ, m_X7_copies F 0 (nI k) (nI l) σ = some (.inr (nI (cnt (Cpy n M C M2 C2) (2 ^ n2))), τ) ∧ Fr SX σ τ := by
  obtain ⟨s0, b, e0, b0, f0⟩ := clcode_eq F (by omega) (p := 2 + 3 * k) (by omega) hG (hA.an hG.1.2)
  obtain ⟨s1, e1, f1⟩ := copies_cl F (by omega) (p := 2 + 3 * k) (p2 := 2 + 3 * l) (by omega) (by omega) hG (hA.mv f0 (fun q j _ _ => by omega)) hG2 (hA2.mv f0 (fun q j _ _ => by omega)) b0.1
  refine ⟨s1, ?_, (f0.mono (fun p j z => by unfold SX; omega)).tr (f1.mono (fun p j z => by unfold SX; omega))⟩
  unfold m_X7_copies
  rw [graphAt_ok F hk, bx_inr, graphAt_ok F hl, bx_inr, e0, bd_some, e1]
end
