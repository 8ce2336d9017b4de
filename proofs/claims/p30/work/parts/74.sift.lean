/-! MATHEMATICS, 22: the chain and its sift -/
section
theorem en_pos {p : Nat → Nat} (hp : IsP p) : 0 < en p := by
  apply Nat.pos_of_ne_zero
  intro h
  have h0 := en_dig hp.d16 (i := 0) (by omega)
  have h1 := en_dig hp.d16 (i := 1) (by omega)
  rw [h, Nat.zero_div, Nat.zero_mod] at h0 h1
  have := hp.2.2 0 1 (by omega) (by omega) (h0.symm.trans h1)
  omega
/-- a cell of the table -/
def cel (o : Option (Nat → Nat)) : Nat := match o with
  | none => 0
  | some u => en u
/-- the chain with base b and table E lies at place q -/
def Ch (q : Nat) (b : Nat → Nat) (E : Nat → Nat → Option (Nat → Nat)) (σ : zST) : Prop := (∀ i, i < 8 → gI σ (q + 1) i = nI (b i)) ∧ ∀ i x, i < 8 → x < 8 → gL σ (q + 3) (8 * i + x) = lN (cel (E i x))
/-- its entries carry a point back to the base point of their level, and leave the base points before -/
def VE (b : Nat → Nat) (E : Nat → Nat → Option (Nat → Nat)) : Prop := IsP b ∧ (∀ i, i < 8 → E i (b i) = some (fun j => j)) ∧ ∀ i x u, i < 8 → x < 8 → E i x = some u → IsP u ∧ u x = b i ∧ ∀ j, j < i → u (b j) = b j
/-- the sift from level 8 - d: the level where it stops, and what is left -/
def sfr (b : Nat → Nat) (E : Nat → Nat → Option (Nat → Nat)) : Nat → (Nat → Nat) → Nat × (Nat → Nat)
  | 0, f => (8, f)
  | d + 1, f => match E (7 - d) (f (b (7 - d))) with
    | none => (7 - d, f)
    | some u => sfr b E d (fun j => u (f j))
theorem sfr_none {b : Nat → Nat} {E : Nat → Nat → Option (Nat → Nat)} {d : Nat} {f : Nat → Nat} (h : E (7 - d) (f (b (7 - d))) = none) : sfr b E (d + 1) f = (7 - d, f) := by
  rw [sfr, h]
theorem sfr_some {b : Nat → Nat} {E : Nat → Nat → Option (Nat → Nat)} {d : Nat} {f u : Nat → Nat} (h : E (7 - d) (f (b (7 - d))) = some u) : sfr b E (d + 1) f = sfr b E d (fun j => u (f j)) := by
  rw [sfr, h]
theorem cel_0 {b : Nat → Nat} {E : Nat → Nat → Option (Nat → Nat)} (hV : VE b E) {i x : Nat} (hi : i < 8) (hx : x < 8) : (lg_cmp (lN (cel (E i x))) 0 = 0 ↔ E i x = none) := by
  cases e : E i x with
  | none => exact ⟨fun _ => rfl, fun _ => by show lg_cmp (lN 0) 0 = 0; decide +kernel⟩
  | some u =>
    have hu := (hV.2.2 i x u hi hx e).1
    have h := cmp_0 (a := en u) (b := 0) (by have := en_lt8 hu.2.1; omega) (by omega)
    have hp := en_pos hu
    constructor
    · intro z
      have := h.mp z
      omega
    · intro z; exact absurd z (by simp)
theorem restOf_eq (F : Nat) (hF : 8 < F) {q : Nat} {b : Nat → Nat} {E : Nat → Nat → Option (Nat → Nat)} {σ : zST} (hC : Ch q b E σ) (hV : VE b E) {f : Nat → Nat} (hf : IsP f) : m_X1_restOf F q (lN (en f)) σ = some (lN (en (sfr b E 8 f).2), σ) := by
  have h : ∀ d i m f, i + d = 8 → d < m → IsP f → m_X1_restOf_5 F m q (lN (en f)) (nI i) σ = some (lN (en (sfr b E d f).2), σ) := by
    intro d
    induction d with
    | zero =>
      intro i m f hi hm hf
      obtain ⟨m, rfl⟩ : ∃ k, m = k + 1 := ⟨m - 1, by omega⟩
      have : i = 8 := by omega
      subst this
      rw [m_X1_restOf_5]; dsimp only
      rw [l8, if_pos (nI_le (by omega) (by omega))]; rfl
    | succ d ih =>
      intro i m f hi hm hf
      obtain ⟨m, rfl⟩ : ∃ k, m = k + 1 := ⟨m - 1, by omega⟩
      have ei : i = 7 - d := by omega
      have hi8 : i < 8 := by omega
      have hb := hV.1.2.1 i hi8
      have hx := hf.2.1 _ hb
      have hc := cel_0 hV hi8 hx
      rw [m_X1_restOf_5]; dsimp only
      unfold m_X1_restOf_68
      rw [l8, if_neg (nI_ge hi8 (by omega)), ldI_at hi8 (by omega), hC.1 i hi8, imageOf_eq F hf.2.1 hb, bd_some, pk_mul, nI_add, Nat.mul_comm i 8, ldL_at (by omega) (by omega), hC.2 i _ hi8 hx]
      cases e : E i (f (b i)) with
      | none =>
        rw [e] at hc
        rw [if_pos (hc.mpr rfl), sfr_none (by rw [← ei]; exact e)]
      | some u =>
        rw [e] at hc
        have hu := hV.2.2 i _ u hi8 hx e
        rw [if_neg (fun z => by have := hc.mp z; simp at this), ldI_at hi8 (by omega), hC.1 i hi8, sfr_some (by rw [← ei]; exact e)]
        by_cases ex : f (b i) = b i
        · have : u = fun j => j := by
            have h2 := hV.2.1 i hi8
            rw [ex] at e
            exact Option.some.inj (e.symm.trans h2)
          rw [if_pos (by rw [ex]), nm_eq, nI_1, this]
          exact ih (i + 1) m f (by omega) (by omega) hf
        · rw [if_neg (fun z => ex ((nI_eq (by omega) (by omega)).mp z))]
          show bd (m_X5_oneThenOther F (lN (en f)) (lN (en u)) σ) _ = _
          rw [then_eq F hF hf.2.1 hu.1.2.1, bd_some, nm_eq, nI_1]
          exact ih (i + 1) m _ (by omega) (by omega) (hf.comp hu.1)
  have := h 8 0 F f (by omega) hF hf
  rwa [nI_0] at this
/-- what the sift gives -/
theorem sfr_ok {b : Nat → Nat} {E : Nat → Nat → Option (Nat → Nat)} (hV : VE b E) : ∀ d, d ≤ 8 → ∀ f, IsP f → (∀ j, j < 8 - d → f (b j) = b j) → IsP (sfr b E d f).2 ∧ 8 - d ≤ (sfr b E d f).1 ∧ (sfr b E d f).1 ≤ 8 ∧ (∀ j, j < (sfr b E d f).1 → (sfr b E d f).2 (b j) = b j) ∧ ((sfr b E d f).1 < 8 → E (sfr b E d f).1 ((sfr b E d f).2 (b (sfr b E d f).1)) = none) := by
  intro d
  induction d with
  | zero => intro _ f hf hj; exact ⟨hf, Nat.le_refl _, Nat.le_refl _, hj, fun z => absurd z (by show ¬ 8 < 8; omega)⟩
  | succ d ih =>
    intro hd f hf hj
    have hi8 : 7 - d < 8 := by omega
    have hx := hf.2.1 _ (hV.1.2.1 _ hi8)
    cases e : E (7 - d) (f (b (7 - d))) with
    | none =>
      rw [sfr_none e]
      exact ⟨hf, by show 8 - (d + 1) ≤ 7 - d; omega, by show 7 - d ≤ 8; omega, fun j q => hj j (by have : j < 7 - d := q; omega), fun _ => e⟩
    | some u =>
      rw [sfr_some e]
      have hu := hV.2.2 _ _ u hi8 hx e
      have := ih (by omega) (fun j => u (f j)) (hf.comp hu.1) (fun j q => by
        show u (f (b j)) = b j
        by_cases z : j = 7 - d
        · subst z; exact hu.2.1
        · rw [hj j (by omega)]
          exact hu.2.2 j (by omega))
      exact ⟨this.1, by omega, this.2.2⟩
theorem fix_id {b f : Nat → Nat} (hb : IsP b) (hf : IsP f) (h : ∀ j, j < 8 → f (b j) = b j) : f = fun j => j := hf.ext IsP.id (fun i hi => by
  obtain ⟨j, hj, rfl⟩ := hb.onto hi
  exact h j hj)
end

