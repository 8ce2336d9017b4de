/-! MATHEMATICS, 7: copy, swap -/
section
/-- what a call without an answer asks of one store -/
def OkV (I : zST → Prop) (cl : zST → Option (Int32 × zST)) (rf : zST → Option zST) (σ : zST) : Prop := ∃ c σ1 σ2, cl σ = some (c, σ1) ∧ rf σ1 = some σ2 ∧ gI σ2 46 16 = c ∧ I σ2
theorem OkV.bad {J : zST → Prop} (hJ : Nb J) {cl : zST → Option (Int32 × zST)} {rf : zST → Option zST} {σ : zST} (h : GJ J σ) {c : Int32} (h1 : cl σ = some (c, σ)) (h2 : rf σ = some (sI σ 46 16 c)) : OkV (GJ J) cl rf σ := ⟨c, σ, _, h1, h2, gI_same _ _ _ _, h.mv hJ (Fr.sI (by unfold SS; omega))⟩
theorem OkV.st {J : zST → Prop} (hJ : Nb J) {cl : zST → Option (Int32 × zST)} {rf : zST → Option zST} {σ σ1 σ2 : zST} (h : GJ J σ) {k n : Nat} {M C : Nat → Nat} (hk : k < 4) (h1 : cl σ = some (0, σ1)) (h2 : rf σ1 = some σ2) (hG : Gr n M C) (hA : At (2 + 3 * k) n M C σ2) (hR : RAt k n M C σ2) (f1 : Fr (SK k) σ σ1) (f2 : Fr (SK k) σ1 σ2) (ht : gI σ2 46 16 = 0) : OkV (GJ J) cl rf σ := ⟨0, σ1, σ2, h1, h2, ht, h.set hJ hk hG hA hR (f1.tr f2)⟩
theorem wI_s2 (σ : zST) {p q : Nat} (hpq : p ≠ q) (n : Nat) (f g : Nat → Int32) : sI (sI (wI (wI σ p n f) q n g) p n (f n)) q n (g n) = wI (wI σ p (n + 1) f) q (n + 1) g := zST_ext (fun r i => by
  rw [gI_sI, gI_sI, gI_wI, gI_wI, gI_wI, gI_wI]
  repeat' split
  all_goals first | rfl | (exfalso; omega) | (congr 1; omega)) (fun r i => rfl)
theorem become_eq (F : Nat) (hF : 8 < F) {p q n : Nat} (hpq : p = q ∨ p + 2 < q ∨ q + 2 < p) {M C : Nat → Nat} {σ : zST} (h : At q n M C σ) : m_X2_become F p q σ = some (wI (wI (sI σ p 0 (nI n)) (p + 1) 8 (fun v => nI (M v))) (p + 2) 8 (fun v => nI (C v))) := by
  unfold m_X2_become
  rw [nm_eq, h.1]
  have h := up_loop0 (fun n (i : Int32) (s : zST) => m_X2_become_10 F n p q i s) 8 (fun i => wI (wI (sI σ p 0 (nI n)) (p + 1) i (fun v => nI (M v))) (p + 2) i (fun v => nI (C v))) (some (wI (wI (sI σ p 0 (nI n)) (p + 1) 8 (fun v => nI (M v))) (p + 2) 8 (fun v => nI (C v))))
    (fun m i hi => by
      show m_X2_become_10 F (m + 1) p q (nI i) _ = _
      rw [m_X2_become_10]; dsimp only
      rw [l8, if_neg (nI_ge hi (by omega)), ldI_at hi (by omega), stI_at hi (by omega), ldI_at hi (by omega), stI_at hi (by omega), nm_eq, nI_1, gI_sI (wI _ _ _ _) (p + 1) i, if_neg (by omega), gI_wI, if_neg (by omega), gI_wI, if_neg (by omega), gI_sI, if_neg (by omega), (h.2 i hi).1, gI_wI, if_neg (by omega), gI_wI, if_neg (by omega), gI_sI, if_neg (by omega), (h.2 i hi).2]
      rw [wI_s2 (sI σ p 0 (nI n)) (by omega) i (fun v => nI (M v)) (fun v => nI (C v))])
    (fun m => by
      show m_X2_become_10 F (m + 1) p q (nI 8) _ = _
      rw [m_X2_become_10]; dsimp only
      rw [l8, if_pos (nI_le (by omega) (by omega))]) hF
  rw [wI_0, wI_0] at h
  exact h
theorem copy_loop (F j k : Nat) (hj : j < 4) (hk : k < 4) (hF : 8 < F) {M C : Nat → Nat} {σ : zST} (h : ∀ v, v < 8 → gI σ 48 (8 * j + v) = nI (M v) ∧ gI σ 49 (8 * j + v) = nI (C v)) : m_X8_copy_41 F F 46 (nI j) (nI k) 0 σ = some (wO (wO σ 48 (8 * k) 8 (fun v => nI (M v))) 49 (8 * k) 8 (fun v => nI (C v))) := by
  have h := up_loop0 (fun n (i : Int32) (s : zST) => m_X8_copy_41 F n 46 (nI j) (nI k) i s) 8 (fun i => wO (wO σ 48 (8 * k) i (fun v => nI (M v))) 49 (8 * k) i (fun v => nI (C v))) (some (wO (wO σ 48 (8 * k) 8 (fun v => nI (M v))) 49 (8 * k) 8 (fun v => nI (C v))))
    (fun n i hi => by
      show m_X8_copy_41 F (n + 1) 46 (nI j) (nI k) (nI i) _ = _
      rw [m_X8_copy_41]; dsimp only
      rw [l8, if_neg (nI_ge hi (by omega)), pk_mul, nI_add, pk_mul, nI_add, ldI_at (by omega) (by omega), stI_at (by omega) (by omega), ldI_at (by omega) (by omega), stI_at (by omega) (by omega), nm_eq, nI_1]
      simp only [Nat.reduceAdd]
      rw [gI_sI (wO _ _ _ _ _) 48, if_neg (by omega), wO_off _ _ _ _ _ (by omega), wO_off _ _ _ _ _ (by omega), (h i hi).1, wO_off _ _ _ _ _ (by omega), wO_off _ _ _ _ _ (by omega), (h i hi).2]
      rw [wO_s2 σ (by omega) (8 * k) i (fun v => nI (M v)) (fun v => nI (C v))])
    (fun n => by
      show m_X8_copy_41 F (n + 1) 46 (nI j) (nI k) (nI 8) _ = _
      rw [m_X8_copy_41]; dsimp only
      rw [l8, if_pos (nI_le (by omega) (by omega))]) hF
  rw [wO_0, wO_0] at h
  exact h
theorem op_copy {J : zST → Prop} (hJ : Nb J) (F : Nat) (hF : 8 < F) (x y : Int32) (σ : zST) (h : GJ J σ) : OkV (GJ J) (m_L_copy F 0 x y) (m_X8_copy F 46 x y) σ := by
  rcases Bad.or 4 (by omega) x with hx | ⟨j, hj, rfl⟩
  · refine OkV.bad hJ h (c := 1) ?_ ?_
    · unfold m_L_copy m_X7_copy
      rw [graphAt_bad F hx, bx_inl, bc_inl, if_pos rfl]
    · unfold m_X8_copy m_X8_copy_19 m_X8_copy_20
      rw [isGraph_bad F hx, bd_some, if_pos rfl, goes_1, bd_some, if_pos rfl]
  rcases Bad.or 4 (by omega) y with hy | ⟨k, hk, rfl⟩
  · refine OkV.bad hJ h (c := 1) ?_ ?_
    · unfold m_L_copy m_X7_copy
      rw [graphAt_ok F hj, bx_inr, graphAt_bad F hy, bx_inl, bc_inl, if_pos rfl]
    · unfold m_X8_copy m_X8_copy_19 m_X8_copy_20
      rw [isGraph_ok F hj, bd_some, if_neg n10, isGraph_bad F hy, bd_some, if_pos rfl, goes_1, bd_some, if_pos rfl]
  obtain ⟨n, M, C, hG, hA, hR⟩ := h.1 j hj
  generalize hs1 : wI (wI (sI σ (2 + 3 * k) 0 (nI n)) (2 + 3 * k + 1) 8 (fun v => nI (M v))) (2 + 3 * k + 2) 8 (fun v => nI (C v)) = s1
  have hA1 : At (2 + 3 * k) n M C s1 := by
    subst hs1
    refine ⟨by rw [gI_wI, if_neg (by omega), gI_wI, if_neg (by omega), gI_same], fun v hv => ⟨by rw [gI_wI, if_neg (by omega), gI_wI, if_pos (by omega)], by rw [gI_wI, if_pos (by omega)]⟩⟩
  have f1 : Fr (fun p _ => 2 + 3 * k ≤ p ∧ p ≤ 4 + 3 * k) σ s1 := by
    subst hs1
    exact ((Fr.sI (by omega)).tr (Fr.wI (by intros; omega))).tr (Fr.wI (by intros; omega))
  have hR1 : RAt j n M C (sI s1 46 16 0) := hR.mv (S := fun p _ => p ≤ 46) ((f1.mono (fun p j h => by omega)).tr (Fr.sI (by omega))) (fun q j a b => by omega)
  refine OkV.st hJ h hk (n := n) (M := M) (C := C) (σ1 := s1) (σ2 := wO (wO (sI (sI s1 46 16 0) 47 k (nI n)) 48 (8 * k) 8 (fun v => nI (M v))) 49 (8 * k) 8 (fun v => nI (C v))) ?_ ?_ hG ?_ ?_ ?_ ?_ ?_
  · unfold m_L_copy m_X7_copy
    rw [graphAt_ok F hj, bx_inr, graphAt_ok F hk, bx_inr, become_eq F hF (by omega) hA, bv_some, bc_inr, hs1]
  · unfold m_X8_copy m_X8_copy_19 m_X8_copy_20
    rw [isGraph_ok F hj, bd_some, if_neg n10, isGraph_ok F hk, bd_some, if_neg n10, goes_0 F n10 n10, bd_some, if_neg n10, ldI_at hj (by omega), stI_at hk (by omega)]
    simp only [Nat.reduceAdd]
    rw [hR1.1, copy_loop F j k hj hk hF (M := M) (C := C) (fun v hv => ⟨by rw [gI_sI, if_neg (by omega), (hR1.2 v hv).1], by rw [gI_sI, if_neg (by omega), (hR1.2 v hv).2]⟩)]
  · refine hA1.mv (S := fun p _ => p = 60 ∨ p = 46 ∨ p = 47 ∨ p = 48 ∨ p = 49) (((Fr.sI (by omega)).tr (Fr.sI (by omega))).tr ((Fr.wO (by intros; omega)).tr (Fr.wO (by intros; omega)))) (fun q j a b => by omega)
  · refine ⟨by rw [wO_off _ _ _ _ _ (by omega), wO_off _ _ _ _ _ (by omega), gI_same], fun v hv => ⟨by rw [wO_off _ _ _ _ _ (by omega), wO_at _ _ _ _ _ hv], by rw [wO_at _ _ _ _ _ hv]⟩⟩
  · exact f1.mono (fun p j h => by unfold SK SS; omega)
  · exact ((Fr.sI (by unfold SK SS; omega)).tr (Fr.sI (by unfold SK SS; omega))).tr ((Fr.wO (by intros; unfold SK SS; omega)).tr (Fr.wO (by intros; unfold SK SS; omega)))
  · rw [wO_off _ _ _ _ _ (by omega), wO_off _ _ _ _ _ (by omega), gI_sI, if_neg (by omega), gI_same]
end
