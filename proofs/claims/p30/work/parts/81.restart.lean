/-! MATHEMATICS, 29: restart -/
section
/-- the place of point v in the base of the asked points a -/
def pos (a v : Nat) : Nat := if v < 8 then (if a.testBit v then cnt (fun j => a.testBit j) v else pop a + (v - cnt (fun j => a.testBit j) v)) else v
theorem cnt_lt_of {P : Nat → Bool} {v w : Nat} (h : v < w) (hv : P v = true) : cnt P v < cnt P w := by
  have : ∀ d, cnt P v < cnt P (v + 1 + d) := by
    intro d
    induction d with
    | zero => rw [Nat.add_zero, cnt_s, hv]; show _ < _ + 1; omega
    | succ d ih => rw [Nat.add_succ, cnt_s]; omega
  have e := this (w - (v + 1))
  rwa [show v + 1 + (w - (v + 1)) = w from by omega] at e
theorem cnt_gap {P : Nat → Bool} {v w : Nat} (h : v < w) (hv : P v = false) : w - cnt P w > v - cnt P v := by
  have : ∀ d, (v + 1 + d) - cnt P (v + 1 + d) > v - cnt P v := by
    intro d
    induction d with
    | zero =>
      rw [Nat.add_zero, cnt_s, hv]
      have := cnt_le P v
      show v + 1 - (cnt P v + 0) > _
      omega
    | succ d ih =>
      rw [Nat.add_succ, cnt_s]
      have := cnt_le P (v + 1 + d)
      have : (P (v + 1 + d)).toNat ≤ 1 := by cases P (v + 1 + d) <;> decide
      omega
  have e := this (w - (v + 1))
  rwa [show v + 1 + (w - (v + 1)) = w from by omega] at e
theorem cnt_step (P : Nat → Bool) (v : Nat) : ∀ d, cnt P (v + d) ≤ cnt P v + d
  | 0 => Nat.le_refl _
  | d + 1 => by
    have := cnt_step P v d
    have : (P (v + d)).toNat ≤ 1 := by cases P (v + d) <;> decide
    rw [Nat.add_succ, cnt_s]; omega
theorem pos_P (a : Nat) : IsP (pos a) := by
  have hp : pop a = cnt (fun j => a.testBit j) 8 := rfl
  refine ⟨fun i hi => if_neg (by omega), fun v hv => ?_, fun v w hv hw e => ?_⟩
  · unfold pos
    rw [if_pos hv]
    have h1 := cnt_step (fun j => a.testBit j) v (8 - v)
    rw [show v + (8 - v) = 8 from by omega] at h1
    split
    · rename_i hb
      have := cnt_lt_of (P := fun j => a.testBit j) hv hb
      have := pop_le a
      omega
    · rename_i hb
      have hg := cnt_gap (P := fun j => a.testBit j) hv (by simpa using hb)
      have := pop_le a
      omega
  · unfold pos at e
    rw [if_pos hv, if_pos hw] at e
    have l1 : ∀ v, v < 8 → a.testBit v = true → cnt (fun j => a.testBit j) v < pop a := fun v hv hb => cnt_lt_of (P := fun j => a.testBit j) hv hb
    by_cases b1 : a.testBit v = true
    · by_cases b2 : a.testBit w = true
      · rw [if_pos b1, if_pos b2] at e
        rcases Nat.lt_trichotomy v w with q | q | q
        · have := cnt_lt_of (P := fun j => a.testBit j) q b1; omega
        · exact q
        · have := cnt_lt_of (P := fun j => a.testBit j) q b2; omega
      · rw [if_pos b1, if_neg b2] at e
        have := l1 v hv b1
        omega
    · by_cases b2 : a.testBit w = true
      · rw [if_neg b1, if_pos b2] at e
        have := l1 w hw b2
        omega
      · rw [if_neg b1, if_neg b2] at e
        rcases Nat.lt_trichotomy v w with q | q | q
        · have := cnt_gap (P := fun j => a.testBit j) q (by simpa using b1); omega
        · exact q
        · have := cnt_gap (P := fun j => a.testBit j) q (by simpa using b2); omega
/-- filling an array of longs -/
theorem fillL (F p ln : Nat) (hln : ln < 2 ^ 31) (hF : ln < F) (x : Int64) (σ : zST) : m_J7_fill_d0a16 F ln p x σ = some (wL σ p ln (fun _ => x)) := by
  unfold m_J7_fill_d0a16
  rw [nm_eq]
  have h := up_loop0 (fun n (i : Int32) (s : zST) => m_J7_fill_d0a16_6 F ln n p x i (nI ln) s) ln (fun i => wL σ p i (fun _ => x)) (some (wL σ p ln (fun _ => x)))
    (fun n i hi => by
      show m_J7_fill_d0a16_6 F ln (n + 1) p x (nI i) (nI ln) _ = _
      rw [m_J7_fill_d0a16_6]; dsimp only
      rw [if_neg (nI_ge hi hln), stL_at hi hln, nm_eq, nI_1, ← wL_s])
    (fun n => by
      show m_J7_fill_d0a16_6 F ln (n + 1) p x (nI ln) (nI ln) _ = _
      rw [m_J7_fill_d0a16_6]; dsimp only
      rw [if_pos (nI_le (by omega) hln)]) hF
  rw [wL_0] at h
  exact h
end

