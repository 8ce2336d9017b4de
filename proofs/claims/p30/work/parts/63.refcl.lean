/-! MATHEMATICS, 14: the class's refinement, its rounds -/
section
/-- after t rounds -/
def RS (r n : Nat) (M C : Nat → Nat) (σ : zST) (t : Nat) (s : zST) : Prop := gI s r 0 = nI (Cn n M C t) ∧ (0 < t → gI s r 1 = nI t) ∧ (∀ v, v < n → gI s (r + 1) v = nI (Rk n M C t v)) ∧ (∀ c, c < 8 → gI s (r + 2) c = nI (memb (Rk n M C t) n c)) ∧ Fr (fun q _ => r ≤ q ∧ q ≤ r + 3) σ s
theorem refRound (F : Nat) (hF : 8 < F) {r p n : Nat} (hp : p + 2 < r) {M C : Nat → Nat} {σ s : zST} (hG : Gr n M C) (hA : At p n M C σ) {t : Nat} (hs : RS r n M C σ t s) (k41 : Nat → Nat → Int32 → Int32 → zST → Option zST) : ∃ s', RS r n M C σ (t + 1) s' ∧ m_X6_refine_63 F k41 F r p (nI (Cn n M C t)) (nI (t + 1)) 0 s = k41 r p (nI (Cn n M C t)) (nI (t + 2)) s' := by
  have h8 := hG.1.2
  obtain ⟨a, b, c, d, f⟩ := hs
  have hA1 : At p n M C s := hA.mv f (fun q j a b => by omega)
  let K : Nat → Nat := fun u => key M (fun w => Rk n M C t w) n u
  have hKl : ∀ v, v < n → K v < 2 ^ 63 := fun v hv => key_lt M _ n v (Rk_lt h8 M C t hv)
  have hwk : Keys r n K (wL s (r + 3) n (fun v => lN (K v))) := fun v hv => ⟨by rw [gL_wL, if_pos ⟨rfl, hv⟩], hKl v hv⟩
  obtain ⟨τ, e, g1, g2, g3, g4⟩ := number_eq F hF h8 hwk
  refine ⟨sI τ r 1 (nI (t + 1)), ⟨?_, ?_, ?_, ?_, ?_⟩, ?_⟩
  · rw [gI_sI, if_neg (by omega), g1]; rfl
  · intro _; rw [gI_same]
  · intro v hv; rw [gI_sI, if_neg (by omega), g2 v hv]; rfl
  · intro q hq; rw [gI_sI, if_neg (by omega), g3 q hq]; rfl
  · exact f.tr ((Fr.wL (by intros; omega)).tr ((g4.mono (fun p j h => by omega)).tr (Fr.sI (by omega))))
  · have h := up_loop0 (fun m (i : Int32) (s : zST) => m_X6_refine_63 F k41 m r p (nI (Cn n M C t)) (nI (t + 1)) i s) n (fun i => wL s (r + 3) i (fun v => lN (K v))) (k41 r p (nI (Cn n M C t)) (nI (t + 2)) (sI τ r 1 (nI (t + 1))))
      (fun m i hi => by
        show m_X6_refine_63 F k41 (m + 1) r p _ _ (nI i) (wL s (r + 3) i (fun v => lN (K v))) = _
        have hA2 : At p n M C (wL s (r + 3) i (fun v => lN (K v))) := hA1.mv (S := fun q _ => q = r + 3) (Fr.wL (by intros; rfl)) (fun q j a b => by omega)
        rw [m_X6_refine_63]; dsimp only
        rw [hA2.1, if_neg (nI_ge hi (by omega)), keyOf_eq F hF h8 hi hG hA2 (R := fun w => Rk n M C t w) (c i hi) (Rk_lt h8 M C t hi) d, bd_some, stL_at (by omega) (by omega), nm_eq, nI_1]
        rw [← wL_s])
      (fun m => by
        show m_X6_refine_63 F k41 (m + 1) r p _ _ (nI n) (wL s (r + 3) n (fun v => lN (K v))) = _
        have hA2 : At p n M C (wL s (r + 3) n (fun v => lN (K v))) := hA1.mv (S := fun q _ => q = r + 3) (Fr.wL (by intros; rfl)) (fun q j a b => by omega)
        rw [m_X6_refine_63]; dsimp only
        rw [hA2.1, if_pos (nI_le (by omega) (by omega)), e, bv_some, nm_eq, nm_eq, nI_1]) (show n < F by omega)
    rw [wL_0] at h
    exact h
theorem refine_cl (F : Nat) (hF : 9 < F) {r p n : Nat} (hp : p + 2 < r) {M C : Nat → Nat} {σ : zST} (hG : Gr n M C) (hA : At p n M C σ) {T : Nat} (hT : 1 ≤ T ∧ T ≤ 8 ∧ EndR n M C T) : ∃ τ, m_X6_refine F r p σ = some τ ∧ RS r n M C σ T τ := by
  have h8 := hG.1.2
  have hloop : ∀ d t m s, t + d = T → d < m → RS r n M C σ t s → ∃ τ, m_X6_refine_41 F m r p (nI (Cp n M C t)) (nI (t + 1)) s = some τ ∧ RS r n M C σ T τ := by
    intro d
    induction d with
    | zero =>
      intro t m s ht hm hs
      obtain ⟨m, rfl⟩ : ∃ k, m = k + 1 := ⟨m - 1, by omega⟩
      have : t = T := by omega
      subst this
      refine ⟨s, ?_, hs⟩
      have hc := hT.2.2.1
      have := Cn_le n M C t
      rw [m_X6_refine_41]; dsimp only
      by_cases h : 8 < t + 1
      · rw [l8, if_pos (nI_lt h (by omega))]
      · have : Cp n M C t ≤ 8 := by
          cases t with
          | zero => exact Nat.zero_le _
          | succ t => have := Cn_le n M C t; show Cn n M C t ≤ 8; omega
        rw [l8, if_neg (nI_nlt (by omega) (by omega)), hs.1, if_pos (nI_le hc (by omega))]
    | succ d ih =>
      intro t m s ht hm hs
      obtain ⟨m, rfl⟩ : ∃ k, m = k + 1 := ⟨m - 1, by omega⟩
      obtain ⟨s', h1, h2⟩ := refRound F (by omega) hp hG hA hs (m_X6_refine_41 F m)
      obtain ⟨τ, e, h3⟩ := ih (t + 1) m s' (by omega) (by omega) h1
      refine ⟨τ, ?_, h3⟩
      have := Cn_le n M C t
      have := hT.2.2.2 t (by omega)
      rw [m_X6_refine_41]; dsimp only
      rw [l8, if_neg (nI_nlt (by omega) (by omega)), hs.1, if_neg (nI_ge (by omega) (by omega)), nm_eq, h2]
      exact e
  have hwk : Keys r n C (wL σ (r + 3) n (fun v => lN (C v))) := fun v hv => ⟨by rw [gL_wL, if_pos ⟨rfl, hv⟩], by have := (hG.2 v (by omega)).1; omega⟩
  obtain ⟨τ, e, g1, g2, g3, g4⟩ := number_eq F (by omega) h8 hwk
  have hs0 : RS r n M C σ 0 τ := ⟨g1, fun z => absurd z (by omega), g2, g3, (Fr.wL (by intros; omega)).tr (g4.mono (fun p j h => by omega))⟩
  obtain ⟨τ', e', h'⟩ := hloop T 0 F τ (by omega) (by omega) hs0
  refine ⟨τ', ?_, h'⟩
  unfold m_X6_refine
  have h := up_loop0 (fun m (i : Int32) (s : zST) => m_X6_refine_2 F m r p i s) n (fun i => wL σ (r + 3) i (fun v => lN (C v))) (some τ')
    (fun m i hi => by
      show m_X6_refine_2 F (m + 1) r p (nI i) (wL σ (r + 3) i (fun v => lN (C v))) = _
      have hA2 : At p n M C (wL σ (r + 3) i (fun v => lN (C v))) := hA.mv (S := fun q _ => q = r + 3) (Fr.wL (by intros; rfl)) (fun q j a b => by omega)
      have hc := (hG.2 i (by omega)).1
      rw [m_X6_refine_2]; dsimp only
      rw [hA2.1, if_neg (nI_ge hi (by omega)), ldI_at (by omega) (by omega), (hA2.2 i (by omega)).2, nI_l (by omega), stL_at (by omega) (by omega), nm_eq, nI_1]
      rw [← wL_s])
    (fun m => by
      show m_X6_refine_2 F (m + 1) r p (nI n) (wL σ (r + 3) n (fun v => lN (C v))) = _
      have hA2 : At p n M C (wL σ (r + 3) n (fun v => lN (C v))) := hA.mv (S := fun q _ => q = r + 3) (Fr.wL (by intros; rfl)) (fun q j a b => by omega)
      rw [m_X6_refine_2]; dsimp only
      rw [hA2.1, if_pos (nI_le (by omega) (by omega)), e, bv_some]
      exact e') (show n < F by omega)
  rw [wL_0] at h
  exact h
end

