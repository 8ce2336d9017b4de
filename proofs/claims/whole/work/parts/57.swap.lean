/-! MATHEMATICS, 8: swap -/
section
def swp (a b v : Nat) : Nat := if v = a then b else if v = b then a else v
def sbit (m a b : Nat) : Nat := if m.testBit a = m.testBit b then m else m ^^^ (2 ^ a ||| 2 ^ b)
theorem swp_swp (a b v : Nat) : swp a b (swp a b v) = v := by
  unfold swp; repeat' split
  all_goals omega
theorem swp_lt {a b v n : Nat} (ha : a < n) (hb : b < n) : swp a b v < n ↔ v < n := by
  unfold swp; repeat' split
  all_goals omega
theorem swp_ge {a b v n : Nat} (ha : a < n) (hb : b < n) (h : n ≤ v) : swp a b v = v := by
  unfold swp; rw [if_neg (by omega), if_neg (by omega)]
theorem swp_id (a v : Nat) : swp a a v = v := by
  unfold swp; repeat' split
  all_goals omega
theorem sbit_bit (m a b i : Nat) : (sbit m a b).testBit i = m.testBit (swp a b i) := by
  unfold sbit swp
  by_cases h : m.testBit a = m.testBit b
  · rw [if_pos h]
    split
    · rename_i e; rw [e, h]
    · split
      · rename_i e; rw [e, h]
      · rfl
  · rw [if_neg h, Nat.testBit_xor, Nat.testBit_or, Nat.testBit_two_pow, Nat.testBit_two_pow]
    split
    · rename_i e; subst e
      revert h; cases m.testBit i <;> cases m.testBit b <;> simp
    · split
      · rename_i e; subst e
        revert h; cases m.testBit i <;> cases m.testBit a <;> simp
      · rename_i e1 e2
        have h1 : ¬ a = i := fun z => e1 z.symm
        have h2 : ¬ b = i := fun z => e2 z.symm
        simp [h1, h2]
theorem sbit_id (m a : Nat) : sbit m a a = m := by
  unfold sbit; rw [if_pos rfl]
theorem sbit_lt {m a b n : Nat} (hm : m < 2 ^ n) (ha : a < n) (hb : b < n) : sbit m a b < 2 ^ n := by
  unfold sbit
  split
  · exact hm
  · exact Nat.xor_lt_two_pow hm (Nat.or_lt_two_pow (Nat.pow_lt_pow_right (by omega) ha) (Nat.pow_lt_pow_right (by omega) hb))
/-- the graph with a and b exchanged -/
def swM (M : Nat → Nat) (a b v : Nat) : Nat := sbit (M (swp a b v)) a b
def swC (C : Nat → Nat) (a b v : Nat) : Nat := C (swp a b v)
theorem swap_Gr {n : Nat} {M C : Nat → Nat} (h : Gr n M C) {a b : Nat} (ha : a < n) (hb : b < n) : Gr n (swM M a b) (swC C a b) := by
  have h8 := h.1.2
  have l8 : ∀ v, v < 8 → swp a b v < 8 := fun v hv => (swp_lt (by omega) (by omega)).mpr hv
  refine ⟨h.1, fun v hv => ?_⟩
  obtain ⟨h1, h2, h3, h4, h5⟩ := h.2 _ (l8 v hv)
  refine ⟨h1, sbit_lt h2 ha hb, fun hn => ?_, ?_, fun u hu => ?_⟩
  · unfold swM
    rw [h3 (by rw [swp_ge ha hb hn]; exact hn)]
    unfold sbit; rw [Nat.zero_testBit, Nat.zero_testBit, if_pos rfl]
  · unfold swM
    rw [sbit_bit, h4]
  · unfold swM
    rw [sbit_bit, sbit_bit]
    exact h5 _ (l8 u hu)
theorem swapped_eq (F : Nat) {m a b : Nat} (hm : m < 256) (ha : a < 8) (hb : b < 8) (σ : zST) : m_X8_swapped F (nI m) (nI a) (nI b) σ = some (nI (sbit m a b), σ) := by
  unfold m_X8_swapped
  rw [nm_eq]
  have e : (jshr (nI m) (nI a) ^^^ jshr (nI m) (nI b)) &&& 1 = nI (if m.testBit a = m.testBit b then 0 else 1) := by
    rw [b_shr (by omega) (by omega), b_shr (by omega) (by omega), b_xor, l1, b_and, Nat.and_xor_distrib_right, tb_and1, tb_and1]
    cases m.testBit a <;> cases m.testBit b <;> rfl
  rw [e]
  unfold sbit
  split
  · rw [b_shl 0 (by omega), b_shl 0 (by omega), b_or, b_xor]
    simp
  · rw [b_shl 1 (by omega), b_shl 1 (by omega), b_or, b_xor, Nat.one_mul, Nat.one_mul]
theorem sI_self {σ : zST} {p j : Nat} {x : Int32} (h : gI σ p j = x) : sI σ p j x = σ := zST_ext (fun q i => by
  rw [gI_sI]; split
  · rename_i e; rw [e.1, e.2, h]
  · rfl) (fun _ _ => rfl)
theorem swap_loop_cl (F p n a b : Nat) (hF : 8 < F) (h8 : n ≤ 8) (ha : a < 8) (hb : b < 8) {M : Nat → Nat} {σ : zST} (hn : gI σ p 0 = nI n) (hM : ∀ v, v < 8 → gI σ (p + 1) v = nI (M v) ∧ M v < 256) : m_X2_exchange_57 F F p (nI a) (nI b) 0 σ = some (wI σ (p + 1) n (fun v => nI (sbit (M v) a b))) := by
  have h := up_loop0 (fun m (i : Int32) (s : zST) => m_X2_exchange_57 F m p (nI a) (nI b) i s) n (fun i => wI σ (p + 1) i (fun v => nI (sbit (M v) a b))) (some (wI σ (p + 1) n (fun v => nI (sbit (M v) a b))))
    (fun m i hi => by
      have hm : M i < 2 ^ 31 := by have := (hM i (by omega)).2; omega
      have e0 : gI (wI σ (p + 1) i (fun v => nI (sbit (M v) a b))) p 0 = nI n := by rw [gI_wI, if_neg (by omega), hn]
      have e1 : gI (wI σ (p + 1) i (fun v => nI (sbit (M v) a b))) (p + 1) i = nI (M i) := by rw [gI_wI, if_neg (by omega), (hM i (by omega)).1]
      show m_X2_exchange_57 F (m + 1) p (nI a) (nI b) (nI i) _ = _
      rw [m_X2_exchange_57]; dsimp only
      unfold m_X2_exchange_108
      rw [e0, if_neg (nI_ge hi (by omega)), ldI_at (by omega) (by omega), e1, isIn_b F hm (by omega), bd_some, ldI_at (by omega) (by omega), e1, isIn_b F hm (by omega), bd_some, ← wI_s]
      by_cases e : (M i).testBit a = (M i).testBit b
      · have e3 : sbit (M i) a b = M i := by unfold sbit; rw [if_pos e]
        rw [if_pos ((bI_eq _ _).mpr e), nm_eq, nI_1, sI_self (by rw [e1, e3])]
      · have e3 : sbit (M i) a b = M i ^^^ (2 ^ a ||| 2 ^ b) := by unfold sbit; rw [if_neg e]
        rw [if_neg (fun z => e ((bI_eq _ _).mp z)), ldI_at (by omega) (by omega), e1, stI_at (by omega) (by omega), nm_eq, nI_1, shl1 (by omega), shl1 (by omega), b_or, b_xor, e3])
    (fun m => by
      have e0 : gI (wI σ (p + 1) n (fun v => nI (sbit (M v) a b))) p 0 = nI n := by rw [gI_wI, if_neg (by omega), hn]
      show m_X2_exchange_57 F (m + 1) p (nI a) (nI b) (nI n) _ = _
      rw [m_X2_exchange_57]; dsimp only
      rw [e0, if_pos (nI_le (by omega) (by omega))]) (Nat.lt_of_le_of_lt h8 hF)
  rw [wI_0] at h
  exact h
theorem swap_loop_ref (F k a b : Nat) (hk : k < 4) (hF : 8 < F) (ha : a < 8) (hb : b < 8) {M : Nat → Nat} {σ : zST} (hM : ∀ v, v < 8 → gI σ 48 (8 * k + v) = nI (M v) ∧ M v < 256) : m_X8_swap_103 F F 46 (nI k) (nI a) (nI b) 0 σ = some (wO σ 48 (8 * k) 8 (fun v => nI (sbit (M v) a b))) := by
  have h := up_loop0 (fun m (i : Int32) (s : zST) => m_X8_swap_103 F m 46 (nI k) (nI a) (nI b) i s) 8 (fun i => wO σ 48 (8 * k) i (fun v => nI (sbit (M v) a b))) (some (wO σ 48 (8 * k) 8 (fun v => nI (sbit (M v) a b))))
    (fun m i hi => by
      show m_X8_swap_103 F (m + 1) 46 (nI k) (nI a) (nI b) (nI i) _ = _
      rw [m_X8_swap_103]; dsimp only
      rw [l8, if_neg (nI_ge hi (by omega)), pk_mul, nI_add, ldI_at (by omega) (by omega)]
      simp only [Nat.reduceAdd]
      rw [wO_off _ _ _ _ _ (by omega), (hM i hi).1, swapped_eq F (hM i hi).2 ha hb, bd_some, stI_at (by omega) (by omega), nm_eq, nI_1]
      congr 1
      exact zST_ext (fun r j => by
        rw [gI_sI, gI_wO, gI_wO]
        repeat' split
        all_goals first | rfl | (exfalso; omega) | (rename_i e _; rw [e.2, Nat.add_sub_cancel_left])) (fun r i => rfl))
    (fun m => by
      show m_X8_swap_103 F (m + 1) 46 (nI k) (nI a) (nI b) (nI 8) _ = _
      rw [m_X8_swap_103]; dsimp only
      rw [l8, if_pos (nI_le (by omega) (by omega))]) hF
  rw [wO_0] at h
  exact h
theorem swap_cl (F : Nat) (hF : 8 < F) {p n a b : Nat} {M C : Nat → Nat} {σ : zST} (hG : Gr n M C) (hA : At p n M C σ) (ha : a < n) (hb : b < n) : ∃ τ, m_X2_exchange F p (nI a) (nI b) σ = some τ ∧ At p n (swM M a b) (swC C a b) τ ∧ Fr (fun q _ => p ≤ q ∧ q ≤ p + 2) σ τ := by
  have h8 := hG.1.2
  unfold m_X2_exchange
  rw [ldI_at (by omega) (by omega), ldI_at (by omega) (by omega), stI_at (by omega) (by omega), stI_at (by omega) (by omega), ldI_at (by omega) (by omega), ldI_at (by omega) (by omega), stI_at (by omega) (by omega), stI_at (by omega) (by omega)]
  generalize hs : sI (sI (sI (sI σ (p + 2) a (gI σ (p + 2) b)) (p + 2) b (gI σ (p + 2) a)) (p + 1) a (gI (sI (sI σ (p + 2) a (gI σ (p + 2) b)) (p + 2) b (gI σ (p + 2) a)) (p + 1) b)) (p + 1) b (gI (sI (sI σ (p + 2) a (gI σ (p + 2) b)) (p + 2) b (gI σ (p + 2) a)) (p + 1) a) = s
  have f1 : Fr (fun q _ => p ≤ q ∧ q ≤ p + 2) σ s := by
    subst hs
    exact ((Fr.sI (by omega)).tr (Fr.sI (by omega))).tr ((Fr.sI (by omega)).tr (Fr.sI (by omega)))
  have e0 : gI s p 0 = nI n := by
    subst hs
    rw [gI_sI, if_neg (by omega), gI_sI, if_neg (by omega), gI_sI, if_neg (by omega), gI_sI, if_neg (by omega), hA.1]
  have e1 : ∀ v, v < 8 → gI s (p + 1) v = nI (M (swp a b v)) := by
    intro v hv
    subst hs
    simp only [gI_sI]
    unfold swp
    by_cases h1 : v = a
    · subst h1
      by_cases h2 : v = b
      · subst h2
        simp [(hA.2 v hv).1]
      · simp [h2, (hA.2 b (by omega)).1]
    · by_cases h2 : v = b
      · subst h2
        simp [h1, (hA.2 a (by omega)).1]
      · simp [h1, h2, (hA.2 v hv).1]
  have e2 : ∀ v, v < 8 → gI s (p + 2) v = nI (C (swp a b v)) := by
    intro v hv
    subst hs
    simp only [gI_sI]
    unfold swp
    by_cases h1 : v = a
    · subst h1
      by_cases h2 : v = b
      · subst h2
        simp [(hA.2 v hv).2]
      · simp [h2, (hA.2 b (by omega)).2]
    · by_cases h2 : v = b
      · subst h2
        simp [h1, (hA.2 a (by omega)).2]
      · simp [h1, h2, (hA.2 v hv).2]
  have l8 : ∀ v, v < 8 → swp a b v < 8 := fun v hv => (swp_lt (by omega) (by omega)).mpr hv
  rw [swap_loop_cl F p n a b hF h8 (by omega) (by omega) (M := fun v => M (swp a b v)) e0 (fun v hv => ⟨e1 v hv, hG.lt (l8 v hv)⟩)]
  refine ⟨_, rfl, ⟨by rw [gI_wI, if_neg (by omega), e0], fun v hv => ⟨?_, by rw [gI_wI, if_neg (by omega), e2 v hv]; rfl⟩⟩, f1.tr (Fr.wI (by intros; omega))⟩
  rw [gI_wI]
  by_cases h : v < n
  · rw [if_pos ⟨rfl, h⟩]; rfl
  · rw [if_neg (by omega), e1 v hv]
    have z : M (swp a b v) = 0 := (hG.2 _ (l8 v hv)).2.2.1 (by rw [swp_ge ha hb (by omega)]; omega)
    unfold swM
    rw [z]
    unfold sbit; rw [Nat.zero_testBit, Nat.zero_testBit, if_pos rfl]
theorem op_swap {J : zST → Prop} (hJ : Nb J) (F : Nat) (hF : 8 < F) (x y z : Int32) (σ : zST) (h : GJ J σ) : OkV (GJ J) (m_L_swap F 0 x y z) (m_X8_swap F 46 x y z) σ := by
  rcases Bad.or 4 (by omega) x with hx | ⟨k, hk, rfl⟩
  · refine OkV.bad hJ h (c := 1) ?_ ?_
    · unfold m_L_swap m_X7_swap
      rw [graphAt_bad F hx, bx_inl, bc_inl, if_pos rfl]
    · unfold m_X8_swap
      rw [areV_1 F hx, bd_some, goes_1, bd_some, if_pos rfl]
  obtain ⟨n, M, C, hG, hA, hR⟩ := h.1 k hk
  have h8 := hG.1.2
  rcases Bad.or n (by omega) y with hy | ⟨a, ha, rfl⟩
  · refine OkV.bad hJ h (c := 1) ?_ ?_
    · unfold m_L_swap m_X7_swap
      rw [graphAt_ok F hk, bx_inr, checkV_bad F hy hA.1, bx_inl, bc_inl, if_pos rfl]
    · unfold m_X8_swap
      rw [areV_2 F hk hR.1 hG.1.1 h8 hy, bd_some, goes_1, bd_some, if_pos rfl]
  rcases Bad.or n (by omega) z with hz | ⟨b, hb, rfl⟩
  · refine OkV.bad hJ h (c := 1) ?_ ?_
    · unfold m_L_swap m_X7_swap
      rw [graphAt_ok F hk, bx_inr, checkV_ok F ha (by omega) hA.1, bx_inr, checkV_bad F hz hA.1, bx_inl, bc_inl, if_pos rfl]
    · unfold m_X8_swap
      rw [areV_3 F hk hR.1 h8 ha hz, bd_some, goes_1, bd_some, if_pos rfl]
  obtain ⟨s1, hc, hA1, f1⟩ := swap_cl F hF hG hA ha hb
  have hL : m_L_swap F 0 (nI k) (nI a) (nI b) σ = some (0, s1) := by
    unfold m_L_swap m_X7_swap
    rw [graphAt_ok F hk, bx_inr, checkV_ok F ha (by omega) hA.1, bx_inr, checkV_ok F hb (by omega) hA.1, bx_inr, hc, bv_some, bc_inr]
  have hR1 : RAt k n M C (sI s1 46 16 0) := hR.mv (S := fun p _ => p ≤ 46) ((f1.mono (fun p j h => by omega)).tr (Fr.sI (by omega))) (fun q j a b => by omega)
  have hR0 : gI s1 47 k = nI n := by rw [(f1 47 k (by omega)).1, hR.1]
  have f1' : Fr (SK k) σ s1 := f1.mono (fun p j h => by unfold SK SS; omega)
  by_cases hab : a = b
  · subst hab
    have eM : swM M a a = M := by funext v; unfold swM; rw [sbit_id, swp_id]
    have eC : swC C a a = C := by funext v; unfold swC; rw [swp_id]
    refine OkV.st hJ h hk (n := n) (M := M) (C := C) (σ1 := s1) (σ2 := sI s1 46 16 0) hL ?_ hG ?_ hR1 f1' (Fr.sI (by unfold SK SS; omega)) (gI_same _ _ _ _)
    · unfold m_X8_swap
      rw [areV_ok F hk hR0 h8 ha ha, bd_some, goes_0 F n10 n10, bd_some, if_neg n10, if_pos rfl]
    · rw [eM, eC] at hA1
      exact hA1.mv (S := fun p _ => p = 46) (Fr.sI rfl) (fun q j a b => by omega)
  · have hne : ¬ nI a = nI b := fun z => hab ((nI_eq (by omega) (by omega)).mp z)
    generalize hs0 : sI s1 46 16 0 = s0 at *
    generalize hs2 : sI (sI (sI (sI s0 48 (8 * k + a) (gI s0 48 (8 * k + b))) 48 (8 * k + b) (gI s0 48 (8 * k + a))) 49 (8 * k + a) (gI (sI (sI s0 48 (8 * k + a) (gI s0 48 (8 * k + b))) 48 (8 * k + b) (gI s0 48 (8 * k + a))) 49 (8 * k + b))) 49 (8 * k + b) (gI (sI (sI s0 48 (8 * k + a) (gI s0 48 (8 * k + b))) 48 (8 * k + b) (gI s0 48 (8 * k + a))) 49 (8 * k + a)) = s2
    have e0 : gI s2 47 k = nI n := by
      subst hs2
      rw [gI_sI, if_neg (by omega), gI_sI, if_neg (by omega), gI_sI, if_neg (by omega), gI_sI, if_neg (by omega), hR1.1]
    have e1 : ∀ v, v < 8 → gI s2 48 (8 * k + v) = nI (M (swp a b v)) := by
      intro v hv
      subst hs2
      simp only [gI_sI]
      unfold swp
      by_cases h1 : v = a
      · subst h1
        simp [hab, (hR1.2 b (by omega)).1]
      · by_cases h2 : v = b
        · subst h2
          simp [h1, (hR1.2 a (by omega)).1]
        · simp [h1, h2, (hR1.2 v hv).1]
    have e2 : ∀ v, v < 8 → gI s2 49 (8 * k + v) = nI (C (swp a b v)) := by
      intro v hv
      subst hs2
      simp only [gI_sI]
      unfold swp
      by_cases h1 : v = a
      · subst h1
        simp [hab, (hR1.2 b (by omega)).2]
      · by_cases h2 : v = b
        · subst h2
          simp [h1, (hR1.2 a (by omega)).2]
        · simp [h1, h2, (hR1.2 v hv).2]
    have l8' : ∀ v, v < 8 → swp a b v < 8 := fun v hv => (swp_lt (by omega) (by omega)).mpr hv
    have f2 : Fr (fun p j => (p = 46 ∧ j = 16) ∨ ((p = 48 ∨ p = 49) ∧ 8 * k ≤ j ∧ j < 8 * k + 8)) s1 s2 := by
      subst hs2; subst hs0
      exact (Fr.sI (by omega)).tr (((Fr.sI (by omega)).tr (Fr.sI (by omega))).tr ((Fr.sI (by omega)).tr (Fr.sI (by omega))))
    have f3 := f2.tr (Fr.wO (σ := s2) (p := 48) (o := 8 * k) (n := 8) (f := fun v => nI (sbit (M (swp a b v)) a b)) (by intros; omega))
    refine OkV.st hJ h hk (n := n) (M := swM M a b) (C := swC C a b) (σ1 := s1) (σ2 := wO s2 48 (8 * k) 8 (fun v => nI (sbit (M (swp a b v)) a b))) hL ?_ (swap_Gr hG ha hb) ?_ ?_ f1' (f3.mono (fun p j h => by unfold SK SS; omega)) ?_
    · unfold m_X8_swap
      rw [areV_ok F hk hR0 h8 ha hb, bd_some, goes_0 F n10 n10, bd_some, if_neg n10, if_neg hne, l8, pk_mul, nI_add, nI_add, nm_eq, nm_eq, ldI_at (by omega) (by omega), ldI_at (by omega) (by omega), stI_at (by omega) (by omega), stI_at (by omega) (by omega), ldI_at (by omega) (by omega), ldI_at (by omega) (by omega), stI_at (by omega) (by omega), stI_at (by omega) (by omega), hs0]
      simp only [Nat.reduceAdd]
      rw [hs2, swap_loop_ref F k a b hk hF (by omega) (by omega) (M := fun v => M (swp a b v)) (fun v hv => ⟨e1 v hv, hG.lt (l8' v hv)⟩)]
    · exact hA1.mv f3 (fun q j a b => by omega)
    · exact ⟨by rw [wO_off _ _ _ _ _ (by omega), e0], fun v hv => ⟨by rw [wO_at _ _ _ _ _ hv]; rfl, by rw [wO_off _ _ _ _ _ (by omega), e2 v hv]; rfl⟩⟩
    · rw [wO_off _ _ _ _ _ (by omega)]
      subst hs2; subst hs0
      rw [gI_sI, if_neg (by omega), gI_sI, if_neg (by omega), gI_sI, if_neg (by omega), gI_sI, if_neg (by omega), gI_same]
end
