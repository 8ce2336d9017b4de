/-! MATHEMATICS, 21: a permutation or no permutation, on both sides -/
section
theorem cmp_z {v : Int64} (h : lg_cmp v 0 = 0) : v = 0 := by
  unfold lg_cmp at h
  split at h
  · exact absurd h (by decide +kernel)
  · split at h
    · rename_i e; exact e
    · exact absurd h (by decide +kernel)
theorem out_or (x : Int64) : (∃ a, a < 2 ^ 32 ∧ x = lN a) ∨ (¬ lg_cmp (jlushr x 32) 0 = 0 ∧ (lg_cmp x 0 < 0 ∨ (¬ lg_cmp x 0 < 0 ∧ 0 ≤ lg_cmp x 4294967296))) := by
  have hx : x = lN x.toBitVec.toNat := by
    apply Int64.toBitVec.inj
    show x.toBitVec = BitVec.ofNat 64 x.toBitVec.toNat
    rw [BitVec.ofNat_toNat, BitVec.setWidth_eq]
  have ht := x.toBitVec.isLt
  by_cases h : x.toBitVec.toNat < 2 ^ 32
  · exact Or.inl ⟨_, h, hx⟩
  · refine Or.inr ⟨fun z => ?_, ?_⟩
    · have e := congrArg (fun v : Int64 => v.toBitVec.toNat) (cmp_z z)
      have e : (x.toBitVec >>> (32 : BitVec 64)).toNat = 0 := e
      rw [BitVec.ushiftRight_eq', BitVec.toNat_ushiftRight, Nat.shiftRight_eq_div_pow] at e
      have e : x.toBitVec.toNat / 2 ^ 32 = 0 := e
      omega
    · by_cases h2 : x.toBitVec.toNat < 2 ^ 63
      · right
        generalize x.toBitVec.toNat = t at *
        subst hx
        exact ⟨cmp_lt0 h2, (cmp_ge h2 (show 4294967296 < 2 ^ 63 by omega)).mpr (by omega)⟩
      · left
        have hneg : x.toInt < 0 := by
          show x.toBitVec.toInt < 0
          rw [BitVec.toInt_eq_toNat_cond, if_neg (by omega)]
          omega
        unfold lg_cmp
        rw [if_neg (show ¬ (0 : Int64) < x from fun z => by
          have := Int64.lt_iff_toInt_lt.mp z
          rw [show (0 : Int64).toInt = 0 from by decide +kernel] at this
          omega), if_neg (fun z => by rw [z] at hneg; exact absurd hneg (by decide +kernel))]
        decide +kernel
end

