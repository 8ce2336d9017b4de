/-! MATHEMATICS, 39: addGenerator -/
section
theorem Gp.more {c : Nat} {g g' : Nat → Nat → Nat} (hg : ∀ i, i < c → g' i = g i) {f : Nat → Nat} (h : Gp c g f) : Gp (c + 1) g' f :=
  Gp.least (S := Gp (c + 1) g') (Gp.id _ _) (fun i hi f hf => by
    rw [← hg i hi]
    exact hf.step (by omega)) h
theorem addG_loop (F : Nat) {c : Nat} (hc : c < 6) {p : Nat → Nat} (hp : IsP p) {s0 : zST} (h11 : gI s0 46 11 = nI c) (hi : ∀ j, j < 8 → gI s0 59 j = nI (p j)) (hF : 8 < F) : ∃ s, m_X8_addGenerator_45 F F 46 0 s0 = (bv (m_X8_closes F 46 s) fun s16 => some (gI s16 46 14, s16)) ∧ gI s 46 11 = nI (c + 1) ∧ (∀ j, j < 8 → gI s 56 (8 * c + j) = nI (p j)) ∧ Fr (fun p j => (p = 56 ∧ 8 * c ≤ j) ∨ (p = 46 ∧ j = 11)) s0 s := by
  refine up_inv0 (fun n (i : Int32) (s : zST) => m_X8_addGenerator_45 F n 46 i s) 8
    (fun i s => (∀ j, j < i → gI s 56 (8 * c + j) = nI (p j)) ∧ Fr (fun p j => p = 56 ∧ 8 * c ≤ j) s0 s)
    (fun o => ∃ s, o = (bv (m_X8_closes F 46 s) fun s16 => some (gI s16 46 14, s16)) ∧ gI s 46 11 = nI (c + 1) ∧ (∀ j, j < 8 → gI s 56 (8 * c + j) = nI (p j)) ∧ Fr (fun p j => (p = 56 ∧ 8 * c ≤ j) ∨ (p = 46 ∧ j = 11)) s0 s) ?_ ?_ hF (s := s0) ⟨fun j hj => absurd hj (by omega), Fr.rf⟩
  · rintro n i s hi8 ⟨h1, h2⟩
    refine ⟨sI s 56 (8 * c + i) (nI (p i)), ⟨fun j hj => ?_, h2.tr (Fr.sI (by omega))⟩, ?_⟩
    · rw [gI_sI]
      by_cases e : j = i
      · subst e; rw [if_pos ⟨rfl, rfl⟩]
      · rw [if_neg (by omega), h1 j (by omega)]
    · show m_X8_addGenerator_45 F (n + 1) 46 (nI i) s = _
      rw [m_X8_addGenerator_45]; dsimp only
      rw [l8, if_neg (nI_ge hi8 (by omega)), ldI_at hi8 (by omega), (h2 59 i (by omega)).1, hi i hi8, (h2 46 11 (by omega)).1, h11, pk_mul, nI_add, stI_at (by omega) (by omega), nm_eq, nI_1]
  · rintro n s ⟨h1, h2⟩
    refine ⟨sI s 46 11 (nI (c + 1)), ?_, gI_same _ _ _ _, fun j hj => by rw [gI_sI, if_neg (by omega), h1 j hj], (h2.mono (fun _ _ z => Or.inl z)).tr (Fr.sI (by omega))⟩
    show m_X8_addGenerator_45 F (n + 1) 46 (nI 8) s = _
    rw [m_X8_addGenerator_45]; dsimp only
    rw [l8, if_pos (nI_le (by omega) (by omega)), (h2 46 11 (by omega)).1, h11, nI_1, nm_eq]
theorem op_addG (F : Nat) (hF : 40321 < F) (x : Int64) : Op (GJ GQ) (m_L_addGenerator F 1 0 x 60) (m_X8_addGenerator F 46 x) := by
  intro σ h
  rcases arg_or F (by omega) x with ⟨p, hp, rfl, hx⟩ | hx
  · have h' := h
    obtain ⟨hG, c, g, a1, a2, a3, ⟨b, E, m, kt, h1, h2, h3⟩, a5, a6⟩ := h
    by_cases hc : c = 6
    · subst hc
      refine Ok1.bad GQ.nb h' (c := 2) (r := 0) (by decide +kernel) ?_ ?_
      · have e : m_X7_addGenerator F 0 (lN (en p)) σ = some (.inl "java/lang/IllegalStateException", σ) := by
          show bx (m_X7_checkPermutation F (lN (en p)) σ) (fun _ s2 => if gI s2 36 0 < 6 then (bv (m_X3_add F 36 (lN (en p)) s2) fun (s7 : zST) => some (Sum.inr (gI s7 38 0), s7)) else (some (Sum.inl "java/lang/IllegalStateException", s2))) = _
          rw [checkP_ok F (hx σ).1, bx_inr, a3.1, if_neg (by decide +kernel)]
        unfold m_L_addGenerator
        rw [e, bc_inl, if_neg (by decide), if_pos rfl]
      · unfold m_X8_addGenerator m_X8_addGenerator_26
        rw [(hx σ).2, bd_some, if_neg (by decide +kernel), a5.1, if_pos (by decide +kernel), nm_eq, gI_same, if_neg (by decide +kernel)]
    · have hc6 : c < 6 := by omega
      generalize hs1 : sI (sL σ 37 c (lN (en p))) 36 0 (nI (c + 1)) = s1
      have f1 : Fr (fun p j => (p = 37 ∧ j = c) ∨ (p = 36 ∧ j = 0)) σ s1 := by
        subst hs1
        exact (Fr.sL (by omega)).tr (Fr.sI (by omega))
      obtain ⟨s2, E', m', kt', e1, c1, c2, c3, c4, c5⟩ := add_eq F (by omega) (q := 38) (most := 40320) (by omega) (h1.mv f1 (fun p j _ _ => by omega)) hp
      have hg' : ∀ i, i < c → (fun i => if i = c then p else g i) i = g i := fun i hi => if_neg (by omega)
      have hgP : ∀ i, i < c + 1 → IsP ((fun i => if i = c then p else g i) i) := by
        intro i hi
        show IsP (if i = c then p else g i)
        split
        · exact hp
        · exact a2 i (by omega)
      have hpG : Gp (c + 1) (fun i => if i = c then p else g i) p := by
        have := Gp.gen (c := c + 1) (g := fun i => if i = c then p else g i) (i := c) (by omega)
        have e : (if c = c then p else g c) = p := if_pos rfl
        rw [e] at this
        exact this
      generalize hgg : (fun i => if i = c then p else g i) = g' at hg' hgP hpG
      have hgc : g' c = p := by subst hgg; exact if_pos rfl
      have hE' : ∀ i x u, E' i x = some u → Gp (c + 1) g' u := c5 (Gp (c + 1) g') (Clo_Gp _ _) (fun i x u e => (h3 i x u e).more hg') hpG
      have hgen' : ∀ i, i < c + 1 → SS8 b E' 8 (g' i) := by
        intro i hi
        by_cases e : i = c
        · rw [e, hgc]; exact c3
        · rw [hg' i (by omega)]
          exact SS8_mono h1.1.2.1 c2 8 (Nat.le_refl _) _ (h2 i (by omega))
      -- the reference
      generalize hs3 : sL s2 60 0 (gI s2 38 0).toInt64 = s3
      have f3 : Fr (fun p j => ((p = 37 ∧ j = c) ∨ (p = 36 ∧ j = 0)) ∨ KG 38 p j ∨ p = 60) σ s3 := by
        subst hs3
        exact ((f1.mono (fun _ _ z => Or.inl z)).tr (c4.mono (fun _ _ z => Or.inr (Or.inl z)))).tr (Fr.sL (by omega))
      generalize hs4 : wI (sI s3 46 16 0) 59 8 (fun k => nI (p k)) = s4
      have f4 : Fr (fun p j => (p = 46 ∧ j = 16) ∨ p = 59) s3 s4 := by
        subst hs4
        exact (Fr.sI (by omega)).tr (Fr.wI (fun j _ => by omega))
      obtain ⟨s5, e5, d1, d2, d3⟩ := addG_loop F hc6 hp (s0 := s4) (by rw [(f4 46 11 (by omega)).1, (f3 46 11 (by unfold KG; omega)).1, a5.1]) (fun j hj => by subst hs4; rw [gI_wI, if_pos ⟨rfl, hj⟩]) (by omega)
      have hR5 : RGe (c + 1) g' s5 := by
        refine ⟨d1, fun i j hi hj => ?_⟩
        by_cases e : i = c
        · rw [e, hgc]; exact d2 j hj
        · rw [hg' i (by omega), (d3 56 _ (by omega)).1, (f4 56 _ (by omega)).1, (f3 56 _ (by unfold KG; omega)).1, a5.2 i j (by omega) hj]
      obtain ⟨s6, e6, g1, g2, g3⟩ := closes_eq F hF (c := c + 1) (by omega) hgP hR5
      have f6 : Fr (fun p j => p = 56 ∨ KM p j ∨ (p = 46 ∧ (j = 16 ∨ j = 11))) s3 s6 := ((f4.mono (fun p j z => by unfold KM; omega)).tr (d3.mono (fun p j z => by omega))).tr (g3.mono (fun p j z => Or.inr (Or.inl z)))
      have hQ : GQ s6 := by
        refine ⟨c + 1, g', by omega, hgP, ⟨?_, fun i hi => ?_⟩, ⟨b, E', m', kt', ?_, hgen', hE'⟩, g2, g1⟩
        · rw [(f6 36 0 (by unfold KM KL; omega)).1]
          subst hs3
          rw [gI_sL, (c4 36 0 (by unfold KG; omega)).1]
          subst hs1
          rw [gI_same]
        · rw [(f6 37 i (by unfold KM KL; omega)).2]
          subst hs3
          rw [gL_sL, if_neg (by omega), (c4 37 i (by unfold KG; omega)).2]
          subst hs1
          rw [gL_sI, gL_sL]
          by_cases e : i = c
          · rw [if_pos ⟨rfl, e⟩, e, hgc]
          · rw [if_neg (fun z => e z.2), hg' i (by omega), a3.2 i (by omega)]
        · have c1' : CR 38 40320 b E' m' kt' s3 := by
            subst hs3
            exact c1.mv (Fr.sL (S := fun p _ => p = 60) rfl) (fun p j _ _ => by omega)
          exact c1'.mv f6 (fun p j _ _ => by unfold KM KL; omega)
      obtain ⟨N, hN, n1, n2⟩ := hQ.order
      have n3 : gI s2 38 0 = nI N := by
        rw [(f6 38 0 (by unfold KM KL; omega)).1] at n1
        subst hs3
        rw [gI_sL] at n1
        exact n1
      refine ⟨0, s3, nI N, s6, ?_, ?_, ?_, fun _ => ?_, hG.mg ?_, hQ⟩
      · have e : m_X7_addGenerator F 0 (lN (en p)) σ = some (.inr (gI s2 38 0), s2) := by
          show bx (m_X7_checkPermutation F (lN (en p)) σ) (fun _ s2 => if gI s2 36 0 < 6 then (bv (m_X3_add F 36 (lN (en p)) s2) fun (s7 : zST) => some (Sum.inr (gI s7 38 0), s7)) else (some (Sum.inl "java/lang/IllegalStateException", s2))) = _
          have e2 : m_X3_add F 36 (lN (en p)) σ = some s2 := by
            unfold m_X3_add
            rw [l6, a3.1, if_neg (nI_ge hc6 (by omega)), stL_at hc6 (by omega), gI_sL, a3.1, nI_1, nm_eq, hs1]
            show bv (m_X1_add F 38 (lN (en p)) (nI 40320) s1) _ = _
            rw [e1, bv_some]
          rw [checkP_ok F (hx σ).1, bx_inr, a3.1, l6, if_pos (nI_lt hc6 (by omega)), e2, bv_some]
        unfold m_L_addGenerator
        rw [e, bc_inr, out_at, hs3]
      · unfold m_X8_addGenerator m_X8_addGenerator_26
        have h11 : gI s3 46 11 = nI c := by rw [(f3 46 11 (by unfold KG; omega)).1, a5.1]
        rw [(hx s3).2, bd_some, if_neg (by decide +kernel), h11, l6, if_neg (fun z => hc ((nI_eq (by omega) (by omega)).mp z)), nm_eq, gI_same, if_pos (by decide +kernel), images_eq F (by omega) hp, bv_some, hs4, e5, e6, bv_some, n2]
      · rw [(g3 46 16 (by unfold KM KL; omega)).1, (d3 46 16 (by omega)).1]
        subst hs4
        rw [gI_wI, if_neg (by omega), gI_same]
      · rw [(f6 60 0 (by unfold KM KL; omega)).2]
        subst hs3
        rw [gL_same, n3]
      · exact (f3.mono (fun p j z => by unfold KG at z; unfold SG; omega)).tr (f6.mono (fun p j z => by unfold KM KL at z; unfold SG; omega))
  · refine Ok1.bad GQ.nb h (c := 1) (r := 0) (by decide +kernel) ?_ ?_
    · unfold m_L_addGenerator m_X7_addGenerator
      rw [checkP_bad F (hx σ).1, bx_inl, bc_inl, if_pos rfl]
    · unfold m_X8_addGenerator m_X8_addGenerator_26
      rw [(hx σ).2, bd_some, if_pos rfl, nm_eq, gI_same, if_neg (by decide +kernel)]
end
