/-! MATHEMATICS, 8: swap -/
section
def swp (a b v : Nat) : Nat := if v = a then b else if v = b then a else v
def sbit (m a b : Nat) : Nat := if m.testBit a = m.testBit b then m else m ^^^ (2 ^ a ||| 2 ^ b)
theorem swp_swp (a b v : Nat) : swp a b (swp a b v) = v := by
  unfold swp; repeat' split
  all_goals omega
theorem swp_lt {a b v n : Nat} (ha : a < n) (hb : b < n) : swp a b v < n ↔ v < n := by
  unfold swp; repeat' split
  all_goals omega
theorem swp_ge {a b v n : Nat} (ha : a < n) (hb : b < n) (h : n ≤ v) : swp a b v = v := by
  unfold swp; rw [if_neg (by omega), if_neg (by omega)]
theorem swp_id (a v : Nat) : swp a a v = v := by
  unfold swp; repeat' split
  all_goals omega
theorem sbit_bit (m a b i : Nat) : (sbit m a b).testBit i = m.testBit (swp a b i) := by
  unfold sbit swp
  by_cases h : m.testBit a = m.testBit b
  · rw [if_pos h]
    split
    · rename_i e; rw [e, h]
    · split
      · rename_i e; rw [e, h]
      · rfl
  · rw [if_neg h, Nat.testBit_xor, Nat.testBit_or, Nat.testBit_two_pow, Nat.testBit_two_pow]
    split
    · rename_i e; subst e
      revert h; cases m.testBit i <;> cases m.testBit b <;> simp
    · split
      · rename_i e; subst e
        revert h; cases m.testBit i <;> cases m.testBit a <;> simp
      · rename_i e1 e2
        have h1 : ¬ a = i := fun z => e1 z.symm
        have h2 : ¬ b = i := fun z => e2 z.symm
        simp [h1, h2]
theorem sbit_id (m a : Nat) : sbit m a a = m := by
  unfold sbit; rw [if_pos rfl]
theorem sbit_lt {m a b n : Nat} (hm : m < 2 ^ n) (ha : a < n) (hb : b < n) : sbit m a b < 2 ^ n := by
  unfold sbit
  split
  · exact hm
  · exact Nat.xor_lt_two_pow hm (Nat.or_lt_two_pow (Nat.pow_lt_pow_right (by omega) ha) (Nat.pow_lt_pow_right (by omega) hb))
/-- the graph with a and b exchanged -/
def swM (M : Nat → Nat) (a b v : Nat) : Nat := sbit (M (swp a b v)) a b
def swC (C : Nat → Nat) (a b v : Nat) : Nat := C (swp a b v)
theorem swap_Gr {n : Nat} {M C : Nat → Nat} (h : Gr n M C) {a b : Nat} (ha : a < n) (hb : b < n) : Gr n (swM M a b) (swC C a b) := by
  have h8 := h.1.2
  have l8 : ∀ v, v < 8 → swp a b v < 8 := fun v hv => (swp_lt (by omega) (by omega)).mpr hv
  refine ⟨h.1, fun v hv => ?_⟩
  obtain ⟨h1, h2, h3, h4, h5⟩ := h.2 _ (l8 v hv)
  refine ⟨h1, sbit_lt h2 ha hb, fun hn => ?_, ?_, fun u hu => ?_⟩
  · unfold swM
    rw [h3 (by rw [swp_ge ha hb hn]; exact hn)]
    unfold sbit; rw [Nat.zero_testBit, Nat.zero_testBit, if_pos rfl]
  · unfold swM
    rw [sbit_bit, h4]
  · unfold swM
    rw [sbit_bit, sbit_bit]
    exact h5 _ (l8 u hu)
theorem sI_self {σ : zST} {p j : Nat} {x : Int32} (h : gI σ p j = x) : sI σ p j x = σ := zST_ext (fun q i => by
  rw [gI_sI]; split
  · rename_i e; rw [e.1, e.2, h]
  · rfl) (fun _ _ => rfl)
theorem swap_loop_cl (F p n a b : Nat) (hF : 8 < F) (h8 : n ≤ 8) (ha : a < 8) (hb : b < 8) {M : Nat → Nat} {σ : zST} (hn : gI σ p 0 = nI n) (hM : ∀ v, v < 8 → gI σ (p + 1) v = nI (M v) ∧ M v < 256) : m_X2_exchange_57 F F p (nI a) (nI b) 0 σ = some (wI σ (p + 1) n (fun v => nI (sbit (M v) a b))) := by
  have h := up_loop0 (fun m (i : Int32) (s : zST) => m_X2_exchange_57 F m p (nI a) (nI b) i s) n (fun i => wI σ (p + 1) i (fun v => nI (sbit (M v) a b))) (some (wI σ (p + 1) n (fun v => nI (sbit (M v) a b))))
    (fun m i hi => by
      have hm : M i < 2 ^ 31 := by have := (hM i (by omega)).2; omega
      have e0 : gI (wI σ (p + 1) i (fun v => nI (sbit (M v) a b))) p 0 = nI n := by rw [gI_wI, if_neg (by omega), hn]
      have e1 : gI (wI σ (p + 1) i (fun v => nI (sbit (M v) a b))) (p + 1) i = nI (M i) := by rw [gI_wI, if_neg (by omega), (hM i (by omega)).1]
      show m_X2_exchange_57 F (m + 1) p (nI a) (nI b) (nI i) _ = _
      rw [m_X2_exchange_57]; dsimp only
      unfold m_X2_exchange_108
      rw [e0, if_neg (nI_ge hi (by omega)), ldI_at (by omega) (by omega), e1, isIn_b F hm (by omega), bd_some, ldI_at (by omega) (by omega), e1, isIn_b F hm (by omega), bd_some, ← wI_s]
      by_cases e : (M i).testBit a = (M i).testBit b
      · have e3 : sbit (M i) a b = M i := by unfold sbit; rw [if_pos e]
        rw [if_pos ((bI_eq _ _).mpr e), nm_eq, nI_1, sI_self (by rw [e1, e3])]
      · have e3 : sbit (M i) a b = M i ^^^ (2 ^ a ||| 2 ^ b) := by unfold sbit; rw [if_neg e]
        rw [if_neg (fun z => e ((bI_eq _ _).mp z)), ldI_at (by omega) (by omega), e1, stI_at (by omega) (by omega), nm_eq, nI_1, shl1 (by omega), shl1 (by omega), b_or, b_xor, e3])
    (fun m => by
      have e0 : gI (wI σ (p + 1) n (fun v => nI (sbit (M v) a b))) p 0 = nI n := by rw [gI_wI, if_neg (by omega), hn]
      show m_X2_exchange_57 F (m + 1) p (nI a) (nI b) (nI n) _ = _
      rw [m_X2_exchange_57]; dsimp only
      rw [e0, if_pos (nI_le (by omega) (by omega))]) (Nat.lt_of_le_of_lt h8 hF)
  rw [wI_0] at h
  exact h
theorem swap_cl (F : Nat) (hF : 8 < F) {p n a b : Nat} {M C : Nat → Nat} {σ : zST} (hG : Gr n M C) (hA : At p n M C σ) (ha : a < n) (hb : b < n) : ∃ τ, m_X2_exchange F p (nI a) (nI b) σ = some τ ∧ At p n (swM M a b) (swC C a b) τ ∧ Fr (fun q _ => p ≤ q ∧ q ≤ p + 2) σ τ := by
  have h8 := hG.1.2
  unfold m_X2_exchange
  rw [ldI_at (by omega) (by omega), ldI_at (by omega) (by omega), stI_at (by omega) (by omega), stI_at (by omega) (by omega), ldI_at (by omega) (by omega), ldI_at (by omega) (by omega), stI_at (by omega) (by omega), stI_at (by omega) (by omega)]
  generalize hs : sI (sI (sI (sI σ (p + 2) a (gI σ (p + 2) b)) (p + 2) b (gI σ (p + 2) a)) (p + 1) a (gI (sI (sI σ (p + 2) a (gI σ (p + 2) b)) (p + 2) b (gI σ (p + 2) a)) (p + 1) b)) (p + 1) b (gI (sI (sI σ (p + 2) a (gI σ (p + 2) b)) (p + 2) b (gI σ (p + 2) a)) (p + 1) a) = s
  have f1 : Fr (fun q _ => p ≤ q ∧ q ≤ p + 2) σ s := by
    subst hs
    exact ((Fr.sI (by omega)).tr (Fr.sI (by omega))).tr ((Fr.sI (by omega)).tr (Fr.sI (by omega)))
  have e0 : gI s p 0 = nI n := by
    subst hs
    rw [gI_sI, if_neg (by omega), gI_sI, if_neg (by omega), gI_sI, if_neg (by omega), gI_sI, if_neg (by omega), hA.1]
  have e1 : ∀ v, v < 8 → gI s (p + 1) v = nI (M (swp a b v)) := by
    intro v hv
    subst hs
    simp only [gI_sI]
    unfold swp
    by_cases h1 : v = a
    · subst h1
      by_cases h2 : v = b
      · subst h2
        simp [(hA.2 v hv).1]
      · simp [h2, (hA.2 b (by omega)).1]
    · by_cases h2 : v = b
      · subst h2
        simp [h1, (hA.2 a (by omega)).1]
      · simp [h1, h2, (hA.2 v hv).1]
  have e2 : ∀ v, v < 8 → gI s (p + 2) v = nI (C (swp a b v)) := by
    intro v hv
    subst hs
    simp only [gI_sI]
    unfold swp
    by_cases h1 : v = a
    · subst h1
      by_cases h2 : v = b
      · subst h2
        simp [(hA.2 v hv).2]
      · simp [h2, (hA.2 b (by omega)).2]
    · by_cases h2 : v = b
      · subst h2
        simp [h1, (hA.2 a (by omega)).2]
      · simp [h1, h2, (hA.2 v hv).2]
  have l8 : ∀ v, v < 8 → swp a b v < 8 := fun v hv => (swp_lt (by omega) (by omega)).mpr hv
  rw [swap_loop_cl F p n a b hF h8 (by omega) (by omega) (M := fun v => M (swp a b v)) e0 (fun v hv => ⟨e1 v hv, hG.lt (l8 v hv)⟩)]
  refine ⟨_, rfl, ⟨by rw [gI_wI, if_neg (by omega), e0], fun v hv => ⟨?_, by rw [gI_wI, if_neg (by omega), e2 v hv]; rfl⟩⟩, f1.tr (Fr.wI (by intros; omega))⟩
  rw [gI_wI]
  by_cases h : v < n
  · rw [if_pos ⟨rfl, h⟩]; rfl
  · rw [if_neg (by omega), e1 v hv]
    have z : M (swp a b v) = 0 := (hG.2 _ (l8 v hv)).2.2.1 (by rw [swp_ge ha hb (by omega)]; omega)
    unfold swM
    rw [z]
    unfold sbit; rw [Nat.zero_testBit, Nat.zero_testBit, if_pos rfl]
end

