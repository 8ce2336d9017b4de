/-! MATHEMATICS, 10: complement -/
section
def coM (n : Nat) (M : Nat → Nat) (v : Nat) : Nat := if v < n then M v ^^^ ((2 ^ n - 1) ^^^ ((2 ^ n - 1) &&& 2 ^ v)) else M v
theorem coM_bit {n : Nat} (M : Nat → Nat) {v : Nat} (hv : v < n) (i : Nat) : (coM n M v).testBit i = ((M v).testBit i != (decide (i < n) && !decide (i = v))) := by
  unfold coM
  rw [if_pos hv, Nat.testBit_xor, Nat.testBit_xor, Nat.testBit_and, Nat.testBit_two_pow_sub_one, Nat.testBit_two_pow]
  have e : decide (v = i) = decide (i = v) := by rw [decide_eq_decide]; omega
  rw [e]
  cases (M v).testBit i <;> cases decide (i < n) <;> cases decide (i = v) <;> rfl
theorem bit_big {m n i : Nat} (h : m < 2 ^ n) (hi : n ≤ i) : m.testBit i = false := Nat.testBit_lt_two_pow (Nat.lt_of_lt_of_le h (Nat.pow_le_pow_right (by omega) hi))
theorem co_ref {n m v : Nat} (hv : v < n) (hm : m < 2 ^ n) (hb : m.testBit v = false) : m ^^^ ((2 ^ n - 1) ^^^ ((2 ^ n - 1) &&& 2 ^ v)) = ((2 ^ n - 1) ^^^ ((2 ^ n - 1) &&& m)) ^^^ (((2 ^ n - 1) ^^^ ((2 ^ n - 1) &&& m)) &&& 2 ^ v) := by
  apply Nat.eq_of_testBit_eq
  intro i
  simp only [Nat.testBit_xor, Nat.testBit_and, Nat.testBit_two_pow_sub_one, Nat.testBit_two_pow]
  by_cases h1 : i < n
  · by_cases h2 : v = i
    · subst h2
      rw [hb]; simp [h1]
    · simp [h1, h2]
  · rw [bit_big hm (by omega)]
    simp [h1]
theorem co_lt {n m v : Nat} (hm : m < 2 ^ n) : m ^^^ ((2 ^ n - 1) ^^^ ((2 ^ n - 1) &&& 2 ^ v)) < 2 ^ n := by
  have h0 : 2 ^ n - 1 < 2 ^ n := Nat.sub_one_lt (Nat.pos_iff_ne_zero.mp (Nat.two_pow_pos n))
  exact Nat.xor_lt_two_pow hm (Nat.xor_lt_two_pow h0 (Nat.lt_of_le_of_lt Nat.and_le_left h0))
theorem co_Gr {n : Nat} {M C : Nat → Nat} (h : Gr n M C) : Gr n (coM n M) C := by
  refine ⟨h.1, fun v hv => ?_⟩
  obtain ⟨h1, h2, h3, h4, h5⟩ := h.2 v hv
  refine ⟨h1, ?_, fun hn => by unfold coM; rw [if_neg (by omega), h3 hn], ?_, fun u hu => ?_⟩
  · unfold coM
    split
    · exact co_lt h2
    · exact h2
  · by_cases hn : v < n
    · rw [coM_bit M hn, h4]; simp
    · unfold coM; rw [if_neg hn, h4]
  · by_cases hn : v < n
    · by_cases hm : u < n
      · rw [coM_bit M hn, coM_bit M hm, h5 u hu]
        have e : decide (u = v) = decide (v = u) := by rw [decide_eq_decide]; omega
        rw [e]; simp [hn, hm]
      · have : coM n M u = M u := by unfold coM; rw [if_neg hm]
        rw [this, coM_bit M hn, (h.2 u hu).2.2.1 (by omega), Nat.zero_testBit, bit_big h2 (by omega)]
        simp [hm]
    · have : coM n M v = M v := by unfold coM; rw [if_neg hn]
      by_cases hm : u < n
      · rw [this, coM_bit M hm, h5 u hu, h3 (by omega), Nat.zero_testBit]
        simp [hn]
      · have e : coM n M u = M u := by unfold coM; rw [if_neg hm]
        rw [this, e, h5 u hu]
theorem co_cl (F : Nat) (hF : 8 < F) {p n : Nat} {M C : Nat → Nat} {σ : zST} (hG : Gr n M C) (hA : At p n M C σ) : m_X2_invertEdges F p σ = some (wI σ (p + 1) n (fun v => nI (coM n M v))) := by
  have h8 := hG.1.2
  have h := up_loop0 (fun m (i : Int32) (s : zST) => m_X2_invertEdges_2 F m p i s) n (fun i => wI σ (p + 1) i (fun v => nI (coM n M v))) (some (wI σ (p + 1) n (fun v => nI (coM n M v))))
    (fun m i hi => by
      have e0 : gI (wI σ (p + 1) i (fun v => nI (coM n M v))) p 0 = nI n := by rw [gI_wI, if_neg (by omega), hA.1]
      have e1 : gI (wI σ (p + 1) i (fun v => nI (coM n M v))) (p + 1) i = nI (M i) := by rw [gI_wI, if_neg (by omega), (hA.2 i (by omega)).1]
      have e2 : coM n M i = M i ^^^ ((2 ^ n - 1) ^^^ ((2 ^ n - 1) &&& 2 ^ i)) := by unfold coM; rw [if_pos hi]
      show m_X2_invertEdges_2 F (m + 1) p (nI i) _ = _
      rw [m_X2_invertEdges_2]; dsimp only
      rw [e0, if_neg (nI_ge hi (by omega)), ldI_at (by omega) (by omega), e1, below_eq F (by omega), bd_some, stI_at (by omega) (by omega), nm_eq, nI_1, shl1 (by omega), b_not, b_xor, ← e2, ← wI_s])
    (fun m => by
      have e0 : gI (wI σ (p + 1) n (fun v => nI (coM n M v))) p 0 = nI n := by rw [gI_wI, if_neg (by omega), hA.1]
      show m_X2_invertEdges_2 F (m + 1) p (nI n) _ = _
      rw [m_X2_invertEdges_2]; dsimp only
      rw [e0, if_pos (nI_le (by omega) (by omega))]) (Nat.lt_of_le_of_lt h8 hF)
  rw [wI_0] at h
  exact h
theorem co_At {p n : Nat} {M C : Nat → Nat} {σ : zST} (hA : At p n M C σ) : At p n (coM n M) C (wI σ (p + 1) n (fun v => nI (coM n M v))) := by
  refine ⟨by rw [gI_wI, if_neg (by omega), hA.1], fun v hv => ⟨?_, by rw [gI_wI, if_neg (by omega), (hA.2 v hv).2]⟩⟩
  rw [gI_wI]
  by_cases h : v < n
  · rw [if_pos ⟨rfl, h⟩]
  · rw [if_neg (by omega), (hA.2 v hv).1]
    unfold coM; rw [if_neg h]
theorem co_RAt {k n : Nat} {M C : Nat → Nat} {σ : zST} (hR : RAt k n M C σ) : RAt k n (coM n M) C (wO σ 48 (8 * k) n (fun v => nI (coM n M v))) := by
  refine ⟨by rw [wO_off _ _ _ _ _ (by omega), hR.1], fun v hv => ⟨?_, by rw [wO_off _ _ _ _ _ (by omega), (hR.2 v hv).2]⟩⟩
  by_cases h : v < n
  · rw [wO_at _ _ _ _ _ h]
  · rw [wO_off _ _ _ _ _ (by omega), (hR.2 v hv).1]
    unfold coM; rw [if_neg h]
end

