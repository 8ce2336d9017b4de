/-! MATHEMATICS, 38: order, isInGroup, forgetGenerators, addGenerator -/
section
/-- cells that group calls write -/
def SG (p j : Nat) : Prop := (36 ≤ p ∧ p < 46) ∨ p = 60 ∨ (56 ≤ p ∧ p < 60) ∨ (p = 46 ∧ (j = 11 ∨ j = 14 ∨ j = 16))
theorem GI.mg {σ τ : zST} (h : GI σ) (hf : Fr SG σ τ) : GI τ := by
  intro k hk
  obtain ⟨n, M, C, h1, h2, h3⟩ := h k hk
  exact ⟨n, M, C, h1, h2.mv hf (fun q j a b => by unfold SG; omega), h3.mv hf (fun q j a b => by unfold SG; omega)⟩
theorem op_order (F : Nat) {σ : zST} (h : GJ GQ σ) : ∃ x s1 s2, m_X7_order F 0 σ = some (x, s1) ∧ m_X8_order F 46 s1 = some (x, s2) ∧ GJ GQ s2 := by
  obtain ⟨N, _, h1, h2⟩ := h.2.order
  refine ⟨nI N, σ, sI σ 46 16 0, ?_, ?_, h.1.mg (Fr.sI (by unfold SG; omega)), GQ.nb _ _ h.2 (Fr.sI (by unfold SC SR; omega))⟩
  · show some (gI σ 38 0, σ) = _
    rw [h1]
  · show some (gI (sI σ 46 16 0) 46 14, _) = _
    rw [gI_sI, if_neg (by omega), h2]
theorem KM.sg {p j : Nat} (h : KM p j) : SG p j := by unfold KM KL at h; unfold SG; omega
theorem Clo_Gp (c : Nat) (g : Nat → Nat → Nat) : Clo (Gp c g) := ⟨fun _ _ hf hg => hf.mul hg, fun _ hp hf => Gp.iv hp hf⟩
theorem E0_Gp {b : Nat → Nat} {c : Nat} {g : Nat → Nat → Nat} : ∀ i x u, E0 b i x = some u → Gp c g u := by
  intro i x u e
  unfold E0 at e
  split at e
  · rw [← Option.some.inj e]; exact Gp.id c g
  · exact absurd e (by simp)
/-- a chain begun anew -/
theorem CR0 {q most a : Nat} {τ : zST} (h : CK q (iv (pos a)) (E0 (iv (pos a))) 0 (fun _ j => j) τ) (h2 : gI τ q 2 = nI 0) : CR q most (iv (pos a)) (E0 (iv (pos a))) 0 (fun _ j => j) τ := ⟨h, h2, Or.inl (fun x y hx => absurd hx (by omega))⟩
theorem gclear_eq (F : Nat) (hF : 64 < F) (q : Nat) (σ : zST) : ∃ τ, m_X3_clear F q σ = some τ ∧ gI τ q 0 = nI 0 ∧ CK (q + 2) (iv (pos 0)) (E0 (iv (pos 0))) 0 (fun _ j => j) τ ∧ gI τ (q + 2) 2 = nI 0 ∧ Fr (fun p _ => q ≤ p ∧ p ≤ q + 5) σ τ := by
  obtain ⟨τ, e, h1, h2, h3⟩ := restart_eq F hF (q := q + 2) (a := 0) (by omega) (sI σ q 0 0)
  refine ⟨τ, ?_, ?_, h1, h2, (Fr.sI (by omega)).tr (h3.mono (fun p _ h => by omega))⟩
  · unfold m_X3_clear
    show bv (m_X1_restart F (q + 2) (nI 0) (sI σ q 0 0)) _ = _
    rw [e, bv_some]
  · rw [(h3 q 0 (by omega)).1, gI_same, nI_0]
theorem op_forget (F : Nat) (hF : 40321 < F) {σ : zST} (h : GJ GQ σ) : ∃ x s1 s2, m_X7_forgetGenerators F 0 σ = some (x, s1) ∧ m_X8_forgetGenerators F 46 s1 = some (x, s2) ∧ GJ GQ s2 := by
  obtain ⟨hG, c, g, a1, a2, a3, a4, a5, a6⟩ := h
  obtain ⟨s1, e1, b1, b2, b3, b4⟩ := gclear_eq F (by omega) 36 σ
  have f1 : Fr SG σ s1 := b4.mono (fun p j z => by unfold SG; omega)
  have hR : RGe 0 g (sI (sI s1 46 16 0) 46 11 0) := ⟨by rw [gI_same, nI_0], fun i j hi => absurd hi (by omega)⟩
  obtain ⟨s2, e2, d1, d2, d3⟩ := closes_eq F hF (c := 0) (g := g) (by omega) (fun i hi => absurd hi (by omega)) hR
  have f2 : Fr SG s1 s2 := ((Fr.sI (by unfold SG; omega)).tr (Fr.sI (by unfold SG; omega))).tr (d3.mono (fun _ _ z => z.sg))
  have h11 : gI s1 46 11 = nI c := by rw [(b4 46 11 (by omega)).1, a5.1]
  have f3 : Fr (fun p j => KM p j ∨ (p = 46 ∧ (j = 16 ∨ j = 11))) s1 s2 := ((Fr.sI (by omega)).tr (Fr.sI (by omega))).tr (d3.mono (fun _ _ z => Or.inl z))
  refine ⟨nI c, s1, s2, ?_, ?_, hG.mg (f1.tr f2), 0, g, by omega, fun i hi => absurd hi (by omega), ⟨?_, fun i hi => absurd hi (by omega)⟩, ⟨iv (pos 0), E0 (iv (pos 0)), 0, fun _ j => j, ?_, fun i hi => absurd hi (by omega), E0_Gp⟩, d2, d1⟩
  · show nm (gI σ 36 0) (fun x1 => bv (m_X3_clear F 36 σ) fun s4 => some (x1, s4)) = _
    rw [nm_eq, e1, bv_some, a3.1]
  · unfold m_X8_forgetGenerators
    rw [nm_eq, nm_eq, nm_eq, e2, bv_some, gI_sI, if_neg (by omega), h11]
  · rw [(f3 36 0 (by unfold KM KL; omega)).1, b1]
  · exact (CR0 b2 b3).mv f3 (fun p j h1 h2 => by unfold KM KL; omega)
theorem checkP_ok (F : Nat) {x : Int64} {σ : zST} (h : m_X5_isOne F x σ = some (1, σ)) : m_X7_checkPermutation F x σ = some (.inr (), σ) := by
  unfold m_X7_checkPermutation
  rw [h, bd_some, if_neg (by decide +kernel)]
theorem checkP_bad (F : Nat) {x : Int64} {σ : zST} (h : m_X5_isOne F x σ = some (0, σ)) : m_X7_checkPermutation F x σ = some (.inl "java/lang/IllegalArgumentException", σ) := by
  unfold m_X7_checkPermutation
  rw [h, bd_some, if_pos rfl]
theorem images_eq (F : Nat) (hF : 8 < F) {p : Nat → Nat} (hp : IsP p) (σ : zST) : m_X8_images F 46 (lN (en p)) σ = some (wI σ 59 8 (fun k => nI (p k))) := by
  unfold m_X8_images
  have h := up_loop0 (fun n (i : Int32) (s : zST) => m_X8_images_2 F n 46 (lN (en p)) i s) 8 (fun i => wI σ 59 i (fun k => nI (p k))) (some (wI σ 59 8 (fun k => nI (p k))))
    (fun n i hi => by
      show m_X8_images_2 F (n + 1) 46 (lN (en p)) (nI i) _ = m_X8_images_2 F n 46 (lN (en p)) (nI (i + 1)) _
      rw [m_X8_images_2]; dsimp only
      rw [l8, if_neg (nI_ge hi (by omega)), stI_at hi (by omega), dig_L p hp.d16 hi, L_to32, nm_eq, nI_1, ← wI_s])
    (fun n => by
      show m_X8_images_2 F (n + 1) 46 (lN (en p)) (nI 8) _ = _
      rw [m_X8_images_2]; dsimp only
      rw [l8, if_pos (nI_le (by omega) (by omega))]) hF
  rw [wI_0] at h
  exact h
theorem op_isIn (F : Nat) (hF : 8 < F) (x : Int64) : Op (GJ GQ) (m_L_isInGroup F 1 0 x 60) (m_X8_isInGroup F 46 x) := by
  intro σ h
  rcases arg_or F hF x with ⟨p, hp, rfl, hx⟩ | hx
  · obtain ⟨hG, c, g, a1, a2, a3, ⟨b, E, m, kt, h1, h2, h3⟩, a5, ⟨N, L, h4, h5⟩⟩ := h
    have hN := inj_40320 (fun k hk => (h4.2.1 k hk).1) h4.2.2.1
    have hS := chain_group h1 h2 h3 h5 hN
    have hV := h1.1.2.1
    have hr := sfr_ok hV 8 (Nat.le_refl _) p hp (fun j hj => absurd hj (by omega))
    have hid : en (fun j => j) = 1985229328 := by decide +kernel
    have hen := en_lt8 hr.1.2.1
    have hcmp : lg_cmp (lN (en (sfr b E 8 p).2)) 1985229328 = 0 ↔ en (sfr b E 8 p).2 = 1985229328 := cmp_0 (a := en (sfr b E 8 p).2) (b := 1985229328) (by omega) (by omega)
    have hin : en (sfr b E 8 p).2 = 1985229328 ↔ SS8 b E 8 p := by
      constructor
      · intro z
        have z := hr.1.en_inj IsP.id (z.trans hid.symm)
        refine ⟨hp, fun j hj => absurd hj (by omega), ?_⟩
        apply Classical.byContradiction
        intro y
        have hl : (sfr b E 8 p).1 < 8 := by have := hr.2.2.1; omega
        have := hr.2.2.2.2 hl
        rw [z, hV.2.1 _ hl] at this
        exact absurd this (by simp)
      · intro z
        have : (sfr b E 8 p).2 = fun j => j := fix_id hV.1 hr.1 (fun j hj => hr.2.2.2.1 j (by rw [z.2.2]; exact hj))
        rw [this, hid]
    have hb : (if lg_cmp (lN (en (sfr b E 8 p).2)) 1985229328 = 0 then (1 : Int32) else 0) = gI σ 58 (num p 8) := by
      rcases h4.2.2.2 p hp with ⟨e, hk⟩ | ⟨e, hk⟩
      · rw [if_pos (hcmp.mpr (hin.mpr ((hS p).mpr ((h5 p).mpr hk)))), e]
      · rw [if_neg (fun z => by
          obtain ⟨k, h6, h7⟩ := (h5 p).mp ((hS p).mp (hin.mp (hcmp.mp z)))
          exact hk k h6 h7), e]
    have h01 : gI σ 58 (num p 8) = 0 ∨ gI σ 58 (num p 8) = 1 := by
      rcases h4.2.2.2 p hp with ⟨e, _⟩ | ⟨e, _⟩
      · exact Or.inr e
      · exact Or.inl e
    refine ⟨0, sL σ 60 0 (gI σ 58 (num p 8)).toInt64, gI σ 58 (num p 8), wI (sI (sL σ 60 0 (gI σ 58 (num p 8)).toInt64) 46 16 0) 59 8 (fun k => nI (p k)), ?_, ?_, ?_, fun _ => ?_, ?_⟩
    · have e : m_X7_isInGroup F 0 (lN (en p)) σ = some (.inr (gI σ 58 (num p 8)), σ) := by
        show bx (m_X7_checkPermutation F (lN (en p)) σ) (fun _ s2 => bd (m_X1_holds F 38 (lN (en p)) s2) fun (x5 : Int32) s6 => gd (x5 = 0 ∨ x5 = 1) (some (Sum.inr x5, s6))) = _
        have e2 : m_X1_holds F 38 (lN (en p)) σ = some (gI σ 58 (num p 8), σ) := by
          unfold m_X1_holds
          rw [restOf_eq F hF h1.1.1 hV hp, bd_some, ← hb]
          split <;> rfl
        rw [checkP_ok F (hx σ).1, bx_inr, e2, bd_some, gd_yes h01]
      unfold m_L_isInGroup m_L_isInGroup_15
      rw [e, bc_inr]
      rcases h01 with z | z
      · rw [z, if_pos rfl, out_at]; rfl
      · rw [z, if_neg (by decide +kernel), out_at]; rfl
    · unfold m_X8_isInGroup m_X8_isInGroup_13
      rw [(hx _).2, bd_some, if_neg (by decide +kernel), nm_eq, gI_same, if_pos (by decide +kernel), images_eq F hF hp, bv_some, numbered_eq F hF hp.2.1 (fun j hj => by rw [gI_wI, if_pos ⟨rfl, hj⟩]), bd_some, ldI_at (num8 p) (by omega), gI_wI, if_neg (by omega), gI_sI, if_neg (by omega), gI_sL, gd_yes h01]
    · rw [gI_wI, if_neg (by omega), gI_same]
    · rw [gL_wI, gL_sI, gL_same]
    · have f1 : Fr (fun p j => p = 60 ∨ p = 59 ∨ (p = 46 ∧ j = 16)) σ (wI (sI (sL σ 60 0 (gI σ 58 (num p 8)).toInt64) 46 16 0) 59 8 (fun k => nI (p k))) := ((Fr.sL (by omega)).tr (Fr.sI (by omega))).tr (Fr.wI (fun j _ => by omega))
      exact ⟨hG.mg (f1.mono (fun p j z => by unfold SG; omega)), GQ.mv ⟨c, g, a1, a2, a3, ⟨b, E, m, kt, h1, h2, h3⟩, a5, ⟨N, L, h4, h5⟩⟩ f1 (fun p j z => by omega)⟩
  · refine Ok1.bad GQ.nb h (c := 1) (r := 0) (by decide +kernel) ?_ ?_
    · unfold m_L_isInGroup m_X7_isInGroup
      rw [checkP_bad F (hx σ).1, bx_inl, bc_inl, if_pos rfl]
    · unfold m_X8_isInGroup m_X8_isInGroup_13
      rw [(hx σ).2, bd_some, if_pos rfl, nm_eq, gI_same, if_neg (by decide +kernel)]
end
