/-! MATHEMATICS, 28: keep -/
section
/-- the chain at place q: base, table, m kept elements kt -/
def CK (q : Nat) (b : Nat → Nat) (E : Nat → Nat → Option (Nat → Nat)) (m : Nat) (kt : Nat → Nat → Nat) (σ : zST) : Prop := Ch q b E σ ∧ VE b E ∧ gI σ q 0 = nI (prodFrom E 8) ∧ gI σ q 1 = nI m ∧ m + 8 = sumTo (row E) 8 ∧ (∀ a, a < m → gL σ (q + 2) a = lN (en (kt a)) ∧ IsP (kt a)) ∧ (∀ i x u, i < 8 → x < 8 → E i x = some u → x ≠ b i → ∃ a, a < m ∧ kt a = iv u) ∧ ∀ a, a < m → ∃ i x u, i < 8 ∧ x < 8 ∧ E i x = some u ∧ kt a = iv u
theorem CK.m28 {q : Nat} {b : Nat → Nat} {E : Nat → Nat → Option (Nat → Nat)} {m : Nat} {kt : Nat → Nat → Nat} {σ : zST} (h : CK q b E m kt σ) : m ≤ 28 := by
  have h1 := sumTo_lt (f := row E) (g := fun i => 8 - i) (n := 8) (fun i hi => (row_lt h.2.1 hi).1)
  have h4 : sumTo (fun i => 8 - i) 8 = 36 := rfl
  have := h.2.2.2.2.1
  omega
theorem iv_iv {f : Nat → Nat} (hf : IsP f) : iv (iv f) = f := by
  funext x
  have h := iv_l hf.iv (i := f x)
  have e := iv_l hf (i := x)
  rw [e] at h
  exact h
/-- a set of permutations closed under products and inverses -/
def Clo (Q : (Nat → Nat) → Prop) : Prop := (∀ f g, Q f → Q g → Q (fun j => f (g j))) ∧ ∀ f, IsP f → Q f → Q (iv f)
theorem sfr_Q {b : Nat → Nat} {E : Nat → Nat → Option (Nat → Nat)} {Q : (Nat → Nat) → Prop} (hQ : Clo Q) (hE : ∀ i x u, E i x = some u → Q u) : ∀ d f, Q f → Q (sfr b E d f).2
  | 0, _, h => h
  | d + 1, f, h => by
    cases e : E (7 - d) (f (b (7 - d))) with
    | none => rw [sfr_none e]; exact h
    | some u => rw [sfr_some e]; exact sfr_Q hQ hE d _ (hQ.1 u f (hE _ _ _ e) h)
theorem keep_eq (F : Nat) (hF : 8 < F) {q : Nat} {b : Nat → Nat} {E : Nat → Nat → Option (Nat → Nat)} {m : Nat} {kt : Nat → Nat → Nat} {σ : zST} (h : CK q b E m kt σ) {f : Nat → Nat} (hf : IsP f) : ∃ τ E' m' kt', m_X1_keep F q (lN (en f)) σ = some τ ∧ CK q b E' m' kt' τ ∧ (∀ i x u, E i x = some u → E' i x = some u) ∧ SS8 b E' 8 f ∧ m ≤ m' ∧ (∀ a, a < m → kt' a = kt a) ∧ Fr (fun p j => (p = q ∧ (j = 0 ∨ j = 1)) ∨ p = q + 2 ∨ p = q + 3) σ τ ∧ ∀ Q, Clo Q → (∀ i x u, E i x = some u → Q u) → Q f → ∀ i x u, E' i x = some u → Q u := by
  obtain ⟨hC, hV, h0, h1, h2, h3, h4, h5⟩ := h
  have hr := sfr_ok hV 8 (Nat.le_refl _) f hf (fun j hj => absurd hj (by omega))
  have e1 := restOf_eq F hF hC hV hf
  unfold m_X1_keep
  rw [e1, bd_some]
  generalize hl : (sfr b E 8 f).1 = l at hr
  generalize hrr : (sfr b E 8 f).2 = r at hr
  obtain ⟨hrP, _, hl8, hfix, hnone⟩ := hr
  have hid : en (fun j => j) = 1985229328 := by decide +kernel
  have hen := en_lt8 hrP.2.1
  have hcmp : lg_cmp (lN (en r)) 1985229328 = 0 ↔ en r = 1985229328 := cmp_0 (a := en r) (b := 1985229328) (by omega) (by omega)
  by_cases el : l = 8
  · have : r = fun j => j := fix_id hV.1 hrP (fun j hj => hfix j (by omega))
    refine ⟨σ, E, m, kt, ?_, ⟨hC, hV, h0, h1, h2, h3, h4, h5⟩, fun _ _ _ e => e, ⟨hf, fun j hj => absurd hj (by omega), by rw [hl, el]⟩, Nat.le_refl _, fun _ _ => rfl, Fr.rf, fun Q _ hE _ => hE⟩
    show (if lg_cmp (lN (en r)) 1985229328 = 0 then some σ else _) = _
    rw [if_pos (hcmp.mpr (by rw [this, hid]))]
  · have hl' : l < 8 := by omega
    have hn := hnone hl'
    have hb := hV.1.2.1 l hl'
    have hy := hrP.2.1 _ hb
    have hmv : r (b l) ≠ b l := fun z => by
      rw [z, hV.2.1 l hl'] at hn
      exact absurd hn (by simp)
    have hne : ¬ en r = 1985229328 := fun z => hmv (by
      have := hrP.en_inj IsP.id (z.trans hid.symm)
      rw [this])
    -- the point is no base point up to l, so there is room
    obtain ⟨j, hj, ej⟩ := hV.1.onto hy
    have hlj : l ≤ j := by
      apply Classical.byContradiction
      intro z
      have := hfix j (by omega)
      have := hrP.2.2 (b j) (b l) (hV.1.2.1 j hj) hb (by rw [this, ej])
      have := hV.1.2.2 j l hj hl' this
      omega
    have hlt := rows_lt hV hl' hlj hj (by rw [ej]; exact hn)
    have hm : m < 28 := by omega
    have hV' : VE b (updE E l (r (b l)) (iv r)) := hV.upd hn hrP.iv (iv_l hrP) (fun k hk => by
      have := hfix k hk
      have h := congrArg (iv r) this
      rw [iv_l hrP] at h
      exact h.symm)
    have hsub : ∀ i x u, E i x = some u → updE E l (r (b l)) (iv r) i x = some u := fun i x u e => updE_sub hn e
    have hrow := row_upd (u := iv r) hn hy
    generalize hs1 : sI (sL σ (q + 2) m (lN (en r))) q 1 (nI (m + 1)) = s1
    have f1 : Fr (fun p j => (p = q ∧ (j = 0 ∨ j = 1)) ∨ p = q + 2 ∨ p = q + 3) σ s1 := by
      subst hs1
      exact (Fr.sL (by omega)).tr (Fr.sI (by omega))
    have hC1 : Ch q b E s1 := by
      subst hs1
      exact ⟨fun i hi => by rw [gI_sI, if_neg (by omega), gI_sL, hC.1 i hi], fun i x hi hx => by rw [gL_sI, gL_sL, if_neg (by omega), hC.2 i x hi hx]⟩
    have hC2 : Ch q b (updE E l (r (b l)) (iv r)) (sL s1 (q + 3) (8 * l + r (b l)) (lN (en (iv r)))) := by
      refine ⟨fun i hi => by rw [gI_sL, hC1.1 i hi], fun i x hi hx => ?_⟩
      rw [gL_sL]
      unfold updE
      by_cases z : i = l ∧ x = r (b l)
      · rw [if_pos (by omega), if_pos z]; rfl
      · rw [if_neg (by omega), if_neg z, hC1.2 i x hi hx]
    have hcnt := countFrom_eq F hF hC2 hV' (i := 0) (d := 8) rfl
    refine ⟨sI (sL s1 (q + 3) (8 * l + r (b l)) (lN (en (iv r)))) q 0 (nI (prodFrom (updE E l (r (b l)) (iv r)) 8)), updE E l (r (b l)) (iv r), m + 1, fun a => if a = m then r else kt a, ?_, ⟨⟨fun i hi => by rw [gI_sI, if_neg (by omega), hC2.1 i hi], fun i x hi hx => by rw [gL_sI, hC2.2 i x hi hx]⟩, hV', gI_same _ _ _ _, ?_, ?_, ?_, ?_, ?_⟩, hsub, ?_, Nat.le_succ m, ?_, ?_, ?_⟩
    · show (if lg_cmp (lN (en r)) 1985229328 = 0 then some σ else _) = _
      have hm2 : gI s1 q 1 = nI (m + 1) := by subst hs1; rw [gI_same]
      rw [if_neg (fun z => hne (hcmp.mp z)), h1, l28, if_pos (nI_lt hm (by omega)), stL_at hm (by omega), gI_sL, h1, nI_1, nm_eq, hs1, firstMoved_eq F hF hC1 hV.1 hrP hl' hfix hmv, bd_some, ldI_at hl' (by omega), hC1.1 l hl', imageOf_eq F hrP.2.1 hb, bd_some, inv_eq F hF hrP, bd_some, l8, pk_mul, nI_add, Nat.mul_comm l 8, stL_at (by omega) (by omega), l0, hcnt, bd_some, nm_eq]
    · subst hs1
      rw [gI_sI, if_neg (by omega), gI_sL, gI_same]
    · rw [sumTo_upd (g := row E) hl' hrow.1 (fun i _ hne => hrow.2 i hne)]; omega
    · intro a ha
      subst hs1
      show _ = lN (en (if a = m then r else kt a)) ∧ IsP (if a = m then r else kt a)
      rw [gL_sI, gL_sL, if_neg (by omega), gL_sI, gL_sL]
      by_cases z : a = m
      · rw [if_pos ⟨rfl, z⟩, if_pos z]; exact ⟨rfl, hrP⟩
      · rw [if_neg (fun w => z w.2), if_neg z]; exact h3 a (by omega)
    · intro i x u hi hx e hxb
      unfold updE at e
      split at e
      · have e := Option.some.inj e
        refine ⟨m, by omega, ?_⟩
        show (if m = m then r else kt m) = iv u
        rw [if_pos rfl, ← e, iv_iv hrP]
      · obtain ⟨a, ha, ea⟩ := h4 i x u hi hx e hxb
        refine ⟨a, by omega, ?_⟩
        show (if a = m then r else kt a) = iv u
        rw [if_neg (by omega), ea]
    · intro a ha
      show ∃ i x u, i < 8 ∧ x < 8 ∧ updE E l (r (b l)) (iv r) i x = some u ∧ (if a = m then r else kt a) = iv u
      by_cases z : a = m
      · exact ⟨l, r (b l), iv r, hl', hy, updE_at _ _ _ _, by rw [if_pos z, iv_iv hrP]⟩
      · obtain ⟨i, x, u, hi, hx, e, ea⟩ := h5 a (by omega)
        exact ⟨i, x, u, hi, hx, hsub _ _ _ e, by rw [if_neg z, ea]⟩
    · refine SS8_kept hV hV' hsub 8 (Nat.le_refl _) f hf (fun j hj => absurd hj (by omega)) (fun _ => ?_)
      rw [hl, hrr]
      exact updE_at _ _ _ _
    · intro a ha
      show (if a = m then r else kt a) = kt a
      rw [if_neg (by omega)]
    · exact f1.tr ((Fr.sL (by omega)).tr (Fr.sI (by omega)))
    · intro Q hQ hE hfQ i x u e
      unfold updE at e
      split at e
      · rw [← Option.some.inj e]
        refine hQ.2 r hrP ?_
        rw [← hrr]
        exact sfr_Q hQ hE 8 f hfQ
      · exact hE i x u e
end

