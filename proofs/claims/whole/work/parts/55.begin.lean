/-! MATHEMATICS, 6: begin, copy -/
section
/-- the cells o + j, j < n, of p become f j -/
def wO (σ : zST) (p o n : Nat) (f : Nat → Int32) : zST := (fun q j => if q = p ∧ o ≤ j ∧ j < o + n then f (j - o) else gI σ q j, σ.2)
theorem gI_wO (σ : zST) (p o n : Nat) (f : Nat → Int32) (q i : Nat) : gI (wO σ p o n f) q i = if q = p ∧ o ≤ i ∧ i < o + n then f (i - o) else gI σ q i := rfl
theorem gL_wO (σ : zST) (p o n : Nat) (f : Nat → Int32) (q i : Nat) : gL (wO σ p o n f) q i = gL σ q i := rfl
theorem wO_0 (σ : zST) (p o : Nat) (f : Nat → Int32) : wO σ p o 0 f = σ := zST_ext (fun q i => by
  rw [gI_wO, if_neg (by omega)]) (fun q i => rfl)
theorem wO_at (σ : zST) (p o n : Nat) (f : Nat → Int32) {i : Nat} (h : i < n) : gI (wO σ p o n f) p (o + i) = f i := by
  rw [gI_wO, if_pos (by omega), Nat.add_sub_cancel_left]
theorem wO_off (σ : zST) (p o n : Nat) (f : Nat → Int32) {q i : Nat} (h : ¬ (q = p ∧ o ≤ i ∧ i < o + n)) : gI (wO σ p o n f) q i = gI σ q i := if_neg h
theorem wO_s2 (σ : zST) {p q : Nat} (hpq : p ≠ q) (o n : Nat) (f g : Nat → Int32) : sI (sI (wO (wO σ p o n f) q o n g) p (o + n) (f n)) q (o + n) (g n) = wO (wO σ p o (n + 1) f) q o (n + 1) g := zST_ext (fun r i => by
  rw [gI_sI, gI_sI, gI_wO, gI_wO, gI_wO, gI_wO]
  repeat' split
  all_goals first | rfl | (exfalso; omega) | (congr 1; omega)) (fun r i => rfl)
theorem Fr.wO {S : Nat → Nat → Prop} {σ : zST} {p o n : Nat} {f : Nat → Int32} (h : ∀ j, o ≤ j → j < o + n → S p j) : Fr S σ (wO σ p o n f) := fun q i hq => ⟨by
  rw [gI_wO, if_neg (fun z => hq (by rw [z.1]; exact h _ z.2.1 z.2.2))], rfl⟩
theorem begin_loop (F k : Nat) (hk : k < 4) (hF : 8 < F) (r : Int32) (σ : zST) : m_X8_begin_37 F F 46 (nI k) r 0 σ = some (r, wO (wO σ 48 (8 * k) 8 (fun _ => nI 0)) 49 (8 * k) 8 (fun _ => nI 0)) := by
  have h := up_loop0 (fun n (i : Int32) (s : zST) => m_X8_begin_37 F n 46 (nI k) r i s) 8 (fun i => wO (wO σ 48 (8 * k) i (fun _ => nI 0)) 49 (8 * k) i (fun _ => nI 0)) (some (r, wO (wO σ 48 (8 * k) 8 (fun _ => nI 0)) 49 (8 * k) 8 (fun _ => nI 0)))
    (fun n i hi => by
      show m_X8_begin_37 F (n + 1) 46 (nI k) r (nI i) _ = _
      rw [m_X8_begin_37]; dsimp only
      rw [l8, if_neg (nI_ge hi (by omega)), pk_mul, nI_add, l0, stI_at (by omega) (by omega), stI_at (by omega) (by omega), nm_eq, nI_1]
      simp only [Nat.reduceAdd]
      rw [wO_s2 σ (by omega) (8 * k) i (fun _ => nI 0) (fun _ => nI 0)])
    (fun n => by
      show m_X8_begin_37 F (n + 1) 46 (nI k) r (nI 8) _ = _
      rw [m_X8_begin_37]; dsimp only
      rw [l8, if_pos (nI_le (by omega) (by omega))]) hF
  rw [wO_0, wO_0] at h
  exact h
theorem clear_eq (F p : Nat) (hF : 8 < F) (x : Int32) (σ : zST) : m_X2_clear F p x σ = some (wI (wI (sI σ p 0 x) (p + 1) 8 (fun _ => 0)) (p + 2) 8 (fun _ => 0)) := by
  unfold m_X2_clear
  rw [nm_eq, fillI F (p + 1) hF, bv_some, fillI F (p + 2) hF, bv_some]
theorem Gr0 {n : Nat} (h1 : 1 ≤ n) (h8 : n ≤ 8) : Gr n (fun _ => 0) (fun _ => 0) := ⟨⟨h1, h8⟩, fun v hv => ⟨Nat.zero_lt_succ 7, Nat.two_pow_pos n, fun _ => rfl, Nat.zero_testBit v, fun u hu => (Nat.zero_testBit v).trans (Nat.zero_testBit u).symm⟩⟩
theorem op_begin {J : zST → Prop} (hJ : Nb J) (F : Nat) (hF : 8 < F) (x y : Int32) : Op (GJ J) (m_L_begin F 1 0 x y 60) (m_X8_begin F 46 x y) := by
  intro σ h
  rcases Bad.or 4 (by omega) x with hx | ⟨k, hk, rfl⟩
  · have hg : ∀ b : Int32, bd (m_X8_goes F 46 0 b σ) (fun x7 s8 => if x7 = 0 then some ((0 : Int32), s8) else ldI s8 (46 + 1) 4 x fun x11 => stI s8 (46 + 1) 4 x y fun s14 => m_X8_begin_37 F F 46 x x11 0 s14) = some (0, sI σ 46 16 1) := by
      intro b
      rw [goes_1, bd_some, if_pos rfl]
    refine Ok1.bad hJ h (c := 1) (r := 0) (by decide +kernel) ?_ ?_
    · unfold m_L_begin m_X7_begin
      rw [graphAt_bad F hx, bx_inl, bc_inl, if_pos rfl]
    · unfold m_X8_begin m_X8_in m_X8_in_14
      rw [isGraph_bad F hx, bd_some]
      split
      · rw [bd_some, hg]
      · split
        · rw [bd_some, hg]
        · rw [bd_some, hg]
  obtain ⟨n, M, C, hG, hA, hR⟩ := h.1 k hk
  have hbad : y < 1 ∨ 8 < y → Ok1 (GJ J) (m_L_begin F 1 0 (nI k) y 60) (m_X8_begin F 46 (nI k) y) σ := by
    intro hy
    refine Ok1.bad hJ h (c := 2) (r := 0) (by decide +kernel) ?_ ?_
    · unfold m_L_begin m_X7_begin m_X7_begin_17
      rw [graphAt_ok F hk, bx_inr]
      have e : (if y < 1 then (some (Sum.inl "java/lang/IllegalArgumentException", σ) : Option (zX Int32 × zST)) else if y ≤ 8 then nm (gI σ (2 + 3 * k) 0) fun x7 => bv (m_X2_clear F (2 + 3 * k) y σ) fun s10 => some (Sum.inr x7, s10) else some (Sum.inl "java/lang/IllegalArgumentException", σ)) = some (Sum.inl "java/lang/IllegalArgumentException", σ) := by
        rcases hy with hy | hy
        · rw [if_pos hy]
        · by_cases h0 : y < 1
          · rw [if_pos h0]
          · rw [if_neg h0, if_neg (Int32.not_le.mpr hy)]
      rw [e, bc_inl, if_neg (by decide), if_pos rfl]
    · unfold m_X8_begin m_X8_in m_X8_in_14
      rw [isGraph_ok F hk, bd_some]
      have e : (if y < 1 then some ((0 : Int32), σ) else if 8 < y then some (0, σ) else some (1, σ)) = some (0, σ) := by
        rcases hy with hy | hy
        · rw [if_pos hy]
        · by_cases h0 : y < 1
          · rw [if_pos h0]
          · rw [if_neg h0, if_pos hy]
      rw [e, bd_some, goes_2 F n10, bd_some, if_pos rfl]
  by_cases h1 : y < 1
  · exact hbad (Or.inl h1)
  by_cases h8 : 8 < y
  · exact hbad (Or.inr h8)
  obtain ⟨j, hj, rfl⟩ := nI_of (x := y) (fun z => h1 (Int32.lt_trans z (by decide +kernel)))
  rw [l1, nI_ltI hj (by omega)] at h1
  rw [l8, nI_ltI (by omega) hj] at h8
  generalize hs1 : wI (wI (sI σ (2 + 3 * k) 0 (nI j)) (2 + 3 * k + 1) 8 (fun _ => 0)) (2 + 3 * k + 2) 8 (fun _ => 0) = s1
  have hA1 : At (2 + 3 * k) j (fun _ => 0) (fun _ => 0) s1 := by
    subst hs1
    refine ⟨by rw [gI_wI, if_neg (by omega), gI_wI, if_neg (by omega), gI_same], fun v hv => ⟨by rw [gI_wI, if_neg (by omega), gI_wI, if_pos (by omega)]; rfl, by rw [gI_wI, if_pos (by omega)]; rfl⟩⟩
  have f1 : Fr (fun p _ => 2 + 3 * k ≤ p ∧ p ≤ 4 + 3 * k) σ s1 := by
    subst hs1
    exact ((Fr.sI (by omega)).tr (Fr.wI (by intros; omega))).tr (Fr.wI (by intros; omega))
  have g1 : gI (sI (sL s1 60 0 (nI n).toInt64) 46 16 0) (46 + 1) k = nI n := by
    rw [gI_sI, if_neg (by omega), gI_sL, (f1 _ _ (by omega)).1, hR.1]
  refine Ok1.st hJ h hk (r := nI n) (n := j) (M := fun _ => 0) (C := fun _ => 0) (σ1 := sL s1 60 0 (nI n).toInt64) (σ2 := wO (wO (sI (sI (sL s1 60 0 (nI n).toInt64) 46 16 0) 47 k (nI j)) 48 (8 * k) 8 (fun _ => nI 0)) 49 (8 * k) 8 (fun _ => nI 0)) ?_ ?_ (Gr0 (by omega) (by omega)) ?_ ?_ ?_ ?_ ?_ ?_
  · unfold m_L_begin m_X7_begin
    rw [graphAt_ok F hk, bx_inr, l1, if_neg (by rw [nI_ltI hj (by omega)]; omega), l8, if_pos (nI_le (by omega) (by omega)), nm_eq, clear_eq F _ hF, bv_some, bc_inr, hs1, hA.1, out_at]
  · unfold m_X8_begin m_X8_in m_X8_in_14
    rw [isGraph_ok F hk, bd_some, l1, if_neg (by rw [nI_ltI hj (by omega)]; omega), l8, if_neg (nI_nlt (by omega) (by omega)), bd_some, ← l1, goes_0 F n10 n10, bd_some, if_neg n10, ldI_at hk (by omega), stI_at hk (by omega), begin_loop F k hk hF, g1]
  · refine hA1.mv (S := fun p _ => p = 60 ∨ p = 46 ∨ p = 47 ∨ p = 48 ∨ p = 49) ((((Fr.sL (by omega)).tr (Fr.sI (by omega))).tr (Fr.sI (by omega))).tr ((Fr.wO (by intros; omega)).tr (Fr.wO (by intros; omega)))) (fun q j a b => by omega)
  · refine ⟨by rw [wO_off _ _ _ _ _ (by omega), wO_off _ _ _ _ _ (by omega), gI_same], fun v hv => ⟨by rw [wO_off _ _ _ _ _ (by omega), wO_at _ _ _ _ _ hv], by rw [wO_at _ _ _ _ _ hv]⟩⟩
  · exact (f1.mono (fun p j h => by unfold SK SS; omega)).tr (Fr.sL (by unfold SK SS; omega))
  · exact ((Fr.sI (by unfold SK SS; omega)).tr (Fr.sI (by unfold SK SS; omega))).tr ((Fr.wO (by intros; unfold SK SS; omega)).tr (Fr.wO (by intros; unfold SK SS; omega)))
  · rw [wO_off _ _ _ _ _ (by omega), wO_off _ _ _ _ _ (by omega), gI_sI, if_neg (by omega), gI_same]
  · rw [gL_wO, gL_wO, gL_sI, gL_sI, gL_same]
end
