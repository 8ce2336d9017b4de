/-! MATHEMATICS, 3: calls that read or change a graph plainly -/
section
/-- scratch cells of calls on graphs -/
def SS (p j : Nat) : Prop := (14 ≤ p ∧ p < 36) ∨ p = 60 ∨ (50 ≤ p ∧ p < 56) ∨ (p = 46 ∧ (j = 9 ∨ j = 16))
/-- the cells of graph k too -/
def SK (k p j : Nat) : Prop := SS p j ∨ (2 + 3 * k ≤ p ∧ p ≤ 4 + 3 * k) ∨ (p = 47 ∧ j = k) ∨ ((p = 48 ∨ p = 49) ∧ 8 * k ≤ j ∧ j < 8 * k + 8)
theorem SS.nb {p j : Nat} (h : SS p j) : SC p j ∨ SR p j := by
  unfold SS at h; unfold SC SR; omega
theorem SK.nb {k p j : Nat} (hk : k < 4) (h : SK k p j) : SC p j ∨ SR p j := by
  unfold SK SS at h; unfold SC SR; omega
theorem GI.mv {σ τ : zST} (h : GI σ) (hf : Fr SS σ τ) : GI τ := by
  intro k hk
  obtain ⟨n, M, C, h1, h2, h3⟩ := h k hk
  exact ⟨n, M, C, h1, h2.mv hf (fun q j a b => by unfold SS; omega), h3.mv hf (fun q j a b => by unfold SS; omega)⟩
theorem GI.set {σ τ : zST} (h : GI σ) {k : Nat} {n : Nat} {M C : Nat → Nat} (hk : k < 4) (h1 : Gr n M C) (h2 : At (2 + 3 * k) n M C τ) (h3 : RAt k n M C τ) (hf : Fr (SK k) σ τ) : GI τ := by
  intro l hl
  by_cases e : l = k
  · subst e; exact ⟨n, M, C, h1, h2, h3⟩
  · obtain ⟨n, M, C, h1, h2, h3⟩ := h l hl
    refine ⟨n, M, C, h1, h2.mv hf (fun q j a b => by unfold SK SS; omega), ?_⟩
    refine ⟨by rw [(hf 47 l (by unfold SK SS; omega)).1, h3.1], fun v hv => ⟨by rw [(hf 48 _ (by unfold SK SS; omega)).1, (h3.2 v hv).1], by rw [(hf 49 _ (by unfold SK SS; omega)).1, (h3.2 v hv).2]⟩⟩
/-- what the law keeps: the graphs, and J -/
def GJ (J : zST → Prop) (σ : zST) : Prop := GI σ ∧ J σ
theorem GJ.mv {J : zST → Prop} (hJ : Nb J) {σ τ : zST} (h : GJ J σ) (hf : Fr SS σ τ) : GJ J τ := ⟨h.1.mv hf, hJ σ τ h.2 (hf.mono fun _ _ z => z.nb)⟩
theorem GJ.set {J : zST → Prop} (hJ : Nb J) {σ τ : zST} (h : GJ J σ) {k : Nat} {n : Nat} {M C : Nat → Nat} (hk : k < 4) (h1 : Gr n M C) (h2 : At (2 + 3 * k) n M C τ) (h3 : RAt k n M C τ) (hf : Fr (SK k) σ τ) : GJ J τ := ⟨h.1.set hk h1 h2 h3 hf, hJ σ τ h.2 (hf.mono fun _ _ z => z.nb hk)⟩
/-- what an Op asks of one store -/
def Ok1 (I : zST → Prop) (cl rf : zST → Option (Int32 × zST)) (σ : zST) : Prop := ∃ c σ1 r σ2, cl σ = some (c, σ1) ∧ rf σ1 = some (r, σ2) ∧ gI σ2 46 16 = c ∧ (c = 0 → gL σ2 60 0 = r.toInt64) ∧ I σ2
/-- a refused call -/
theorem Ok1.bad {J : zST → Prop} (hJ : Nb J) {cl rf : zST → Option (Int32 × zST)} {σ : zST} (h : GJ J σ) {c r : Int32} (hc : ¬ c = 0) (h1 : cl σ = some (c, σ)) (h2 : rf σ = some (r, sI σ 46 16 c)) : Ok1 (GJ J) cl rf σ := ⟨c, σ, r, _, h1, h2, gI_same _ _ _ _, fun z => absurd z hc, h.mv hJ (Fr.sI (by unfold SS; omega))⟩
/-- a call that changes no graph -/
theorem Ok1.rd {J : zST → Prop} (hJ : Nb J) {cl rf : zST → Option (Int32 × zST)} {σ σ1 σ2 : zST} (h : GJ J σ) {r : Int32} (h1 : cl σ = some (0, σ1)) (h2 : rf σ1 = some (r, σ2)) (f1 : Fr SS σ σ1) (f2 : Fr SS σ1 σ2) (ht : gI σ2 46 16 = 0) (hv : gL σ2 60 0 = r.toInt64) : Ok1 (GJ J) cl rf σ := ⟨0, σ1, r, σ2, h1, h2, ht, fun _ => hv, h.mv hJ (f1.tr f2)⟩
theorem gL_same (σ : zST) (p j : Nat) (x : Int64) : gL (sL σ p j x) p j = x := by
  rw [gL_sL, if_pos ⟨rfl, rfl⟩]
theorem out_at {β : Type} (σ : zST) (x : Int64) (k : zST → Option β) : stL σ 60 1 0 x k = k (sL σ 60 0 x) := by
  rw [l0, stL_at (by omega) (by omega)]
theorem bL_size (F : Nat) {x : Int32} (hx : Bad 4 x) (σ : zST) : m_L_size F 1 0 x 60 σ = some (1, σ) := by
  unfold m_L_size m_X7_size
  rw [graphAt_bad F hx, bx_inl, bc_inl, if_pos rfl]
theorem bX_size (F : Nat) {x : Int32} (hx : Bad 4 x) (σ : zST) : m_X8_size F 46 x σ = some (0, sI σ 46 16 1) := by
  unfold m_X8_size
  rw [isGraph_bad F hx, bd_some, goes_1, bd_some, if_pos rfl]
theorem bL_edges (F : Nat) {x : Int32} (hx : Bad 4 x) (σ : zST) : m_L_edges F 1 0 x 60 σ = some (1, σ) := by
  unfold m_L_edges m_X7_edges
  rw [graphAt_bad F hx, bx_inl, bc_inl, if_pos rfl]
theorem bX_edges (F : Nat) {x : Int32} (hx : Bad 4 x) (σ : zST) : m_X8_edges F 46 x σ = some (0, sI σ 46 16 1) := by
  unfold m_X8_edges
  rw [isGraph_bad F hx, bd_some, goes_1, bd_some, if_pos rfl]
theorem bL_complement (F : Nat) {x : Int32} (hx : Bad 4 x) (σ : zST) : m_L_complement F 1 0 x 60 σ = some (1, σ) := by
  unfold m_L_complement m_X7_complement
  rw [graphAt_bad F hx, bx_inl, bc_inl, if_pos rfl]
theorem bX_complement (F : Nat) {x : Int32} (hx : Bad 4 x) (σ : zST) : m_X8_complement F 46 x σ = some (0, sI σ 46 16 1) := by
  unfold m_X8_complement
  rw [isGraph_bad F hx, bd_some, goes_1, bd_some, if_pos rfl]
theorem bL_classes (F : Nat) {x : Int32} (hx : Bad 4 x) (σ : zST) : m_L_classes F 1 0 x 60 σ = some (1, σ) := by
  unfold m_L_classes m_X7_classes
  rw [graphAt_bad F hx, bx_inl, bc_inl, if_pos rfl]
theorem bX_classes (F : Nat) {x : Int32} (hx : Bad 4 x) (σ : zST) : m_X8_classes F 46 x σ = some (0, sI σ 46 16 1) := by
  unfold m_X8_classes
  rw [isGraph_bad F hx, bd_some, goes_1, bd_some, if_pos rfl]
theorem bL_rounds (F : Nat) {x : Int32} (hx : Bad 4 x) (σ : zST) : m_L_rounds F 1 0 x 60 σ = some (1, σ) := by
  unfold m_L_rounds m_X7_rounds
  rw [graphAt_bad F hx, bx_inl, bc_inl, if_pos rfl]
theorem bX_rounds (F : Nat) {x : Int32} (hx : Bad 4 x) (σ : zST) : m_X8_rounds F 46 x σ = some (0, sI σ 46 16 1) := by
  unfold m_X8_rounds
  rw [isGraph_bad F hx, bd_some, goes_1, bd_some, if_pos rfl]
theorem bL_form (F : Nat) {x : Int32} (hx : Bad 4 x) (σ : zST) : m_L_form F 1 0 x 60 σ = some (1, σ) := by
  unfold m_L_form m_X7_form
  rw [graphAt_bad F hx, bx_inl, bc_inl, if_pos rfl]
theorem bX_form (F : Nat) {x : Int32} (hx : Bad 4 x) (σ : zST) : m_X8_form F 46 x σ = some (0, sI σ 46 16 1) := by
  unfold m_X8_form
  rw [isGraph_bad F hx, bd_some, goes_1, bd_some, if_pos rfl]
theorem bL_symmetries (F : Nat) {x : Int32} (hx : Bad 4 x) (σ : zST) : m_L_symmetries F 1 0 x 60 σ = some (1, σ) := by
  unfold m_L_symmetries m_X7_symmetries
  rw [graphAt_bad F hx, bx_inl, bc_inl, if_pos rfl]
theorem bX_symmetries (F : Nat) {x : Int32} (hx : Bad 4 x) (σ : zST) : m_X8_symmetries F 46 x σ = some (0, sI σ 46 16 1) := by
  unfold m_X8_symmetries
  rw [isGraph_bad F hx, bd_some, goes_1, bd_some, if_pos rfl]
theorem bL_orbits (F : Nat) {x : Int32} (hx : Bad 4 x) (σ : zST) : m_L_orbits F 1 0 x 60 σ = some (1, σ) := by
  unfold m_L_orbits m_X7_orbits
  rw [graphAt_bad F hx, bx_inl, bc_inl, if_pos rfl]
theorem bX_orbits (F : Nat) {x : Int32} (hx : Bad 4 x) (σ : zST) : m_X8_orbits F 46 x σ = some (0, sI σ 46 16 1) := by
  unfold m_X8_orbits m_X8_orbits_63
  rw [isGraph_bad F hx, bd_some, goes_1, bd_some, if_pos rfl]
theorem bL_neighbours (F : Nat) {x : Int32} (hx : Bad 4 x) (y : Int32) (σ : zST) : m_L_neighbours F 1 0 x y 60 σ = some (1, σ) := by
  unfold m_L_neighbours m_X7_neighbours
  rw [graphAt_bad F hx, bx_inl, bc_inl, if_pos rfl]
theorem bX_neighbours (F : Nat) {x : Int32} (hx : Bad 4 x) (y : Int32) (σ : zST) : m_X8_neighbours F 46 x y σ = some (0, sI σ 46 16 1) := by
  unfold m_X8_neighbours
  rw [isVertex_bad F hx, bd_some, goes_1, bd_some, if_pos rfl]
theorem dL_neighbours (F : Nat) {k n : Nat} (hk : k < 4) {y : Int32} (hy : Bad n y) {σ : zST} (hg : gI σ (2 + 3 * k) 0 = nI n) : m_L_neighbours F 1 0 (nI k) y 60 σ = some (1, σ) := by
  unfold m_L_neighbours m_X7_neighbours
  rw [graphAt_ok F hk, bx_inr, checkV_bad F hy hg, bx_inl, bc_inl, if_pos rfl]
theorem dX_neighbours (F : Nat) {k n : Nat} (hk : k < 4) {y : Int32} (hy : Bad n y) {σ : zST} (hg : gI σ 47 k = nI n) (h1 : 1 ≤ n) (h8 : n ≤ 8) : m_X8_neighbours F 46 (nI k) y σ = some (0, sI σ 46 16 1) := by
  unfold m_X8_neighbours
  rw [isVertex_bad2 F hk hg h1 h8 hy, bd_some, goes_1, bd_some, if_pos rfl]
theorem bL_colour (F : Nat) {x : Int32} (hx : Bad 4 x) (y : Int32) (σ : zST) : m_L_colour F 1 0 x y 60 σ = some (1, σ) := by
  unfold m_L_colour m_X7_colour
  rw [graphAt_bad F hx, bx_inl, bc_inl, if_pos rfl]
theorem bX_colour (F : Nat) {x : Int32} (hx : Bad 4 x) (y : Int32) (σ : zST) : m_X8_colour F 46 x y σ = some (0, sI σ 46 16 1) := by
  unfold m_X8_colour
  rw [isVertex_bad F hx, bd_some, goes_1, bd_some, if_pos rfl]
theorem dL_colour (F : Nat) {k n : Nat} (hk : k < 4) {y : Int32} (hy : Bad n y) {σ : zST} (hg : gI σ (2 + 3 * k) 0 = nI n) : m_L_colour F 1 0 (nI k) y 60 σ = some (1, σ) := by
  unfold m_L_colour m_X7_colour
  rw [graphAt_ok F hk, bx_inr, checkV_bad F hy hg, bx_inl, bc_inl, if_pos rfl]
theorem dX_colour (F : Nat) {k n : Nat} (hk : k < 4) {y : Int32} (hy : Bad n y) {σ : zST} (hg : gI σ 47 k = nI n) (h1 : 1 ≤ n) (h8 : n ≤ 8) : m_X8_colour F 46 (nI k) y σ = some (0, sI σ 46 16 1) := by
  unfold m_X8_colour
  rw [isVertex_bad2 F hk hg h1 h8 hy, bd_some, goes_1, bd_some, if_pos rfl]
theorem bL_classOf (F : Nat) {x : Int32} (hx : Bad 4 x) (y : Int32) (σ : zST) : m_L_classOf F 1 0 x y 60 σ = some (1, σ) := by
  unfold m_L_classOf m_X7_classOf
  rw [graphAt_bad F hx, bx_inl, bc_inl, if_pos rfl]
theorem bX_classOf (F : Nat) {x : Int32} (hx : Bad 4 x) (y : Int32) (σ : zST) : m_X8_classOf F 46 x y σ = some (0, sI σ 46 16 1) := by
  unfold m_X8_classOf
  rw [isVertex_bad F hx, bd_some, goes_1, bd_some, if_pos rfl]
theorem dL_classOf (F : Nat) {k n : Nat} (hk : k < 4) {y : Int32} (hy : Bad n y) {σ : zST} (hg : gI σ (2 + 3 * k) 0 = nI n) : m_L_classOf F 1 0 (nI k) y 60 σ = some (1, σ) := by
  unfold m_L_classOf m_X7_classOf
  rw [graphAt_ok F hk, bx_inr, checkV_bad F hy hg, bx_inl, bc_inl, if_pos rfl]
theorem dX_classOf (F : Nat) {k n : Nat} (hk : k < 4) {y : Int32} (hy : Bad n y) {σ : zST} (hg : gI σ 47 k = nI n) (h1 : 1 ≤ n) (h8 : n ≤ 8) : m_X8_classOf F 46 (nI k) y σ = some (0, sI σ 46 16 1) := by
  unfold m_X8_classOf
  rw [isVertex_bad2 F hk hg h1 h8 hy, bd_some, goes_1, bd_some, if_pos rfl]
theorem bL_placeOf (F : Nat) {x : Int32} (hx : Bad 4 x) (y : Int32) (σ : zST) : m_L_placeOf F 1 0 x y 60 σ = some (1, σ) := by
  unfold m_L_placeOf m_X7_placeOf
  rw [graphAt_bad F hx, bx_inl, bc_inl, if_pos rfl]
theorem bX_placeOf (F : Nat) {x : Int32} (hx : Bad 4 x) (y : Int32) (σ : zST) : m_X8_placeOf F 46 x y σ = some (0, sI σ 46 16 1) := by
  unfold m_X8_placeOf
  rw [isVertex_bad F hx, bd_some, goes_1, bd_some, if_pos rfl]
theorem dL_placeOf (F : Nat) {k n : Nat} (hk : k < 4) {y : Int32} (hy : Bad n y) {σ : zST} (hg : gI σ (2 + 3 * k) 0 = nI n) : m_L_placeOf F 1 0 (nI k) y 60 σ = some (1, σ) := by
  unfold m_L_placeOf m_X7_placeOf
  rw [graphAt_ok F hk, bx_inr, checkV_bad F hy hg, bx_inl, bc_inl, if_pos rfl]
theorem dX_placeOf (F : Nat) {k n : Nat} (hk : k < 4) {y : Int32} (hy : Bad n y) {σ : zST} (hg : gI σ 47 k = nI n) (h1 : 1 ≤ n) (h8 : n ≤ 8) : m_X8_placeOf F 46 (nI k) y σ = some (0, sI σ 46 16 1) := by
  unfold m_X8_placeOf
  rw [isVertex_bad2 F hk hg h1 h8 hy, bd_some, goes_1, bd_some, if_pos rfl]
theorem bL_orbit (F : Nat) {x : Int32} (hx : Bad 4 x) (y : Int32) (σ : zST) : m_L_orbit F 1 0 x y 60 σ = some (1, σ) := by
  unfold m_L_orbit m_X7_orbit
  rw [graphAt_bad F hx, bx_inl, bc_inl, if_pos rfl]
theorem bX_orbit (F : Nat) {x : Int32} (hx : Bad 4 x) (y : Int32) (σ : zST) : m_X8_orbit F 46 x y σ = some (0, sI σ 46 16 1) := by
  unfold m_X8_orbit m_X8_orbit_31
  rw [isVertex_bad F hx, bd_some, goes_1, bd_some, if_pos rfl]
theorem dL_orbit (F : Nat) {k n : Nat} (hk : k < 4) {y : Int32} (hy : Bad n y) {σ : zST} (hg : gI σ (2 + 3 * k) 0 = nI n) : m_L_orbit F 1 0 (nI k) y 60 σ = some (1, σ) := by
  unfold m_L_orbit m_X7_orbit
  rw [graphAt_ok F hk, bx_inr, checkV_bad F hy hg, bx_inl, bc_inl, if_pos rfl]
theorem dX_orbit (F : Nat) {k n : Nat} (hk : k < 4) {y : Int32} (hy : Bad n y) {σ : zST} (hg : gI σ 47 k = nI n) (h1 : 1 ≤ n) (h8 : n ≤ 8) : m_X8_orbit F 46 (nI k) y σ = some (0, sI σ 46 16 1) := by
  unfold m_X8_orbit m_X8_orbit_31
  rw [isVertex_bad2 F hk hg h1 h8 hy, bd_some, goes_1, bd_some, if_pos rfl]
/-- a call on a graph: refused alike; what is left is the case of a graph -/
theorem Op.g {J : zST → Prop} (hJ : Nb J) {cl rf : Int32 → zST → Option (Int32 × zST)} (h1 : ∀ x, Bad 4 x → ∀ σ, cl x σ = some (1, σ)) (h2 : ∀ x, Bad 4 x → ∀ σ, rf x σ = some (0, sI σ 46 16 1)) (h3 : ∀ σ, GJ J σ → ∀ k, k < 4 → ∀ n M C, Gr n M C → At (2 + 3 * k) n M C σ → RAt k n M C σ → Ok1 (GJ J) (cl (nI k)) (rf (nI k)) σ) (x : Int32) : Op (GJ J) (cl x) (rf x) := by
  intro σ h
  rcases Bad.or 4 (by omega) x with hx | ⟨k, hk, rfl⟩
  · exact Ok1.bad hJ h (c := 1) (r := 0) (by decide +kernel) (h1 x hx σ) (h2 x hx σ)
  · obtain ⟨n, M, C, hG, hA, hR⟩ := h.1 k hk
    exact h3 σ h k hk n M C hG hA hR
theorem Op.v {J : zST → Prop} (hJ : Nb J) {cl rf : Int32 → Int32 → zST → Option (Int32 × zST)} (h1 : ∀ x, Bad 4 x → ∀ y σ, cl x y σ = some (1, σ)) (h2 : ∀ x, Bad 4 x → ∀ y σ, rf x y σ = some (0, sI σ 46 16 1)) (h4 : ∀ k n, k < 4 → ∀ y, Bad n y → ∀ σ, gI σ (2 + 3 * k) 0 = nI n → cl (nI k) y σ = some (1, σ)) (h5 : ∀ k n, k < 4 → ∀ y, Bad n y → ∀ σ, gI σ 47 k = nI n → 1 ≤ n → n ≤ 8 → rf (nI k) y σ = some (0, sI σ 46 16 1)) (h3 : ∀ σ, GJ J σ → ∀ k, k < 4 → ∀ n M C, Gr n M C → At (2 + 3 * k) n M C σ → RAt k n M C σ → ∀ v, v < n → Ok1 (GJ J) (cl (nI k) (nI v)) (rf (nI k) (nI v)) σ) (x y : Int32) : Op (GJ J) (cl x y) (rf x y) := by
  intro σ h
  rcases Bad.or 4 (by omega) x with hx | ⟨k, hk, rfl⟩
  · exact Ok1.bad hJ h (c := 1) (r := 0) (by decide +kernel) (h1 x hx y σ) (h2 x hx y σ)
  · obtain ⟨n, M, C, hG, hA, hR⟩ := h.1 k hk
    have h8 := hG.1.2
    rcases Bad.or n (by omega) y with hy | ⟨v, hv, rfl⟩
    · exact Ok1.bad hJ h (c := 1) (r := 0) (by decide +kernel) (h4 k n hk y hy σ hA.1) (h5 k n hk y hy σ hR.1 hG.1.1 hG.1.2)
    · exact h3 σ h k hk n M C hG hA hR v hv
theorem op_size {J : zST → Prop} (hJ : Nb J) (F : Nat) (x : Int32) : Op (GJ J) (m_L_size F 1 0 x 60) (m_X8_size F 46 x) := by
  refine Op.g hJ (cl := fun x => m_L_size F 1 0 x 60) (rf := m_X8_size F 46) (fun x hx σ => bL_size F hx σ) (fun x hx σ => bX_size F hx σ) (fun σ h k hk n M C hG hA hR => ?_) x
  refine Ok1.rd hJ h (r := nI n) (σ1 := sL σ 60 0 (nI n).toInt64) (σ2 := sI (sL σ 60 0 (nI n).toInt64) 46 16 0) ?_ ?_ (Fr.sL (by unfold SS; omega)) (Fr.sI (by unfold SS; omega)) (gI_same _ _ _ _) ((gL_sI _ _ _ _ _ _).trans (gL_same _ _ _ _))
  · unfold m_L_size m_X7_size
    rw [graphAt_ok F hk, bx_inr, hA.1, bc_inr, out_at]
  · unfold m_X8_size
    rw [isGraph_ok F hk, bd_some, goes_0 F n10 n10, bd_some, if_neg n10, ldI_at hk (by omega)]
    show some (gI σ 47 k, _) = _
    rw [hR.1]
theorem op_neighbours {J : zST → Prop} (hJ : Nb J) (F : Nat) (x y : Int32) : Op (GJ J) (m_L_neighbours F 1 0 x y 60) (m_X8_neighbours F 46 x y) := by
  refine Op.v hJ (cl := fun x y => m_L_neighbours F 1 0 x y 60) (rf := m_X8_neighbours F 46) (fun x hx y σ => bL_neighbours F hx y σ) (fun x hx y σ => bX_neighbours F hx y σ) (fun k n hk y hy σ hg => dL_neighbours F hk hy hg) (fun k n hk y hy σ hg h1 h8 => dX_neighbours F hk hy hg h1 h8) (fun σ h k hk n M C hG hA hR v hv => ?_) x y
  have h8 := hG.1.2
  refine Ok1.rd hJ h (r := nI (M v)) (σ1 := sL σ 60 0 (nI (M v)).toInt64) (σ2 := sI (sL σ 60 0 (nI (M v)).toInt64) 46 16 0) ?_ ?_ (Fr.sL (by unfold SS; omega)) (Fr.sI (by unfold SS; omega)) (gI_same _ _ _ _) ((gL_sI _ _ _ _ _ _).trans (gL_same _ _ _ _))
  · unfold m_L_neighbours m_X7_neighbours
    rw [graphAt_ok F hk, bx_inr, checkV_ok F hv (by omega) hA.1, bx_inr, ldI_at (by omega) (by omega), (hA.2 v (by omega)).1, bc_inr, out_at]
  · unfold m_X8_neighbours
    rw [isVertex_ok F hk (σ := sL σ 60 0 _) hR.1 h8 hv, bd_some, goes_0 F n10 n10, bd_some, if_neg n10, l8, pk_mul, nI_add, ldI_at (by omega) (by omega)]
    show some (gI σ 48 _, _) = _
    rw [(hR.2 v (by omega)).1]
theorem op_colour {J : zST → Prop} (hJ : Nb J) (F : Nat) (x y : Int32) : Op (GJ J) (m_L_colour F 1 0 x y 60) (m_X8_colour F 46 x y) := by
  refine Op.v hJ (cl := fun x y => m_L_colour F 1 0 x y 60) (rf := m_X8_colour F 46) (fun x hx y σ => bL_colour F hx y σ) (fun x hx y σ => bX_colour F hx y σ) (fun k n hk y hy σ hg => dL_colour F hk hy hg) (fun k n hk y hy σ hg h1 h8 => dX_colour F hk hy hg h1 h8) (fun σ h k hk n M C hG hA hR v hv => ?_) x y
  have h8 := hG.1.2
  refine Ok1.rd hJ h (r := nI (C v)) (σ1 := sL σ 60 0 (nI (C v)).toInt64) (σ2 := sI (sL σ 60 0 (nI (C v)).toInt64) 46 16 0) ?_ ?_ (Fr.sL (by unfold SS; omega)) (Fr.sI (by unfold SS; omega)) (gI_same _ _ _ _) ((gL_sI _ _ _ _ _ _).trans (gL_same _ _ _ _))
  · unfold m_L_colour m_X7_colour
    rw [graphAt_ok F hk, bx_inr, checkV_ok F hv (by omega) hA.1, bx_inr, ldI_at (by omega) (by omega), (hA.2 v (by omega)).2, bc_inr, out_at]
  · unfold m_X8_colour
    rw [isVertex_ok F hk (σ := sL σ 60 0 _) hR.1 h8 hv, bd_some, goes_0 F n10 n10, bd_some, if_neg n10, l8, pk_mul, nI_add, ldI_at (by omega) (by omega)]
    show some (gI σ 49 _, _) = _
    rw [(hR.2 v (by omega)).2]
end
