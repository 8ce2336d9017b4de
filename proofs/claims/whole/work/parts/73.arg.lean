/-! MATHEMATICS, 21: a permutation or no permutation, on both sides -/
section
theorem cmp_z {v : Int64} (h : lg_cmp v 0 = 0) : v = 0 := by
  unfold lg_cmp at h
  split at h
  · exact absurd h (by decide +kernel)
  · split at h
    · rename_i e; exact e
    · exact absurd h (by decide +kernel)
theorem out_or (x : Int64) : (∃ a, a < 2 ^ 32 ∧ x = lN a) ∨ (¬ lg_cmp (jlushr x 32) 0 = 0 ∧ (lg_cmp x 0 < 0 ∨ (¬ lg_cmp x 0 < 0 ∧ 0 ≤ lg_cmp x 4294967296))) := by
  have hx : x = lN x.toBitVec.toNat := by
    apply Int64.toBitVec.inj
    show x.toBitVec = BitVec.ofNat 64 x.toBitVec.toNat
    rw [BitVec.ofNat_toNat, BitVec.setWidth_eq]
  have ht := x.toBitVec.isLt
  by_cases h : x.toBitVec.toNat < 2 ^ 32
  · exact Or.inl ⟨_, h, hx⟩
  · refine Or.inr ⟨fun z => ?_, ?_⟩
    · have e := congrArg (fun v : Int64 => v.toBitVec.toNat) (cmp_z z)
      have e : (x.toBitVec >>> (32 : BitVec 64)).toNat = 0 := e
      rw [BitVec.ushiftRight_eq', BitVec.toNat_ushiftRight, Nat.shiftRight_eq_div_pow] at e
      have e : x.toBitVec.toNat / 2 ^ 32 = 0 := e
      omega
    · by_cases h2 : x.toBitVec.toNat < 2 ^ 63
      · right
        generalize x.toBitVec.toNat = t at *
        subst hx
        exact ⟨cmp_lt0 h2, (cmp_ge h2 (show 4294967296 < 2 ^ 63 by omega)).mpr (by omega)⟩
      · left
        have hneg : x.toInt < 0 := by
          show x.toBitVec.toInt < 0
          rw [BitVec.toInt_eq_toNat_cond, if_neg (by omega)]
          omega
        unfold lg_cmp
        rw [if_neg (show ¬ (0 : Int64) < x from fun z => by
          have := Int64.lt_iff_toInt_lt.mp z
          rw [show (0 : Int64).toInt = 0 from by decide +kernel] at this
          omega), if_neg (fun z => by rw [z] at hneg; exact absurd hneg (by decide +kernel))]
        decide +kernel
theorem isPerm_out (F : Nat) (hF : 8 < F) {x : Int64} (h : lg_cmp x 0 < 0 ∨ (¬ lg_cmp x 0 < 0 ∧ 0 ≤ lg_cmp x 4294967296)) (σ : zST) : m_X8_isPermutation F x σ = some (0, σ) := by
  unfold m_X8_isPermutation
  refine up_inv0 (fun m (i : Int32) (s : Int32) => m_X8_isPermutation_4 F m x s i σ) 8 (fun _ _ => True) (fun o => o = some (0, σ)) (fun m i s hi _ => ?_) (fun m s _ => ?_) hF trivial
  · have e : m_X8_isPermutation_4 F (m + 1) x s (nI i) σ = (if 0 ≤ lg_cmp (jlshr x (4 * nI i) &&& 15) 8 then m_X8_isPermutation_4 F m x (s ||| 0) (nI (i + 1)) σ else m_X8_isPermutation_4 F m x (s ||| jshl 1 ((jlshr x (4 * nI i) &&& 15).toInt32)) (nI (i + 1)) σ) := by
      rw [m_X8_isPermutation_4]; dsimp only
      unfold m_X8_isPermutation_40
      rw [l8, if_neg (nI_ge hi (by omega)), nm_eq]
      split
      · rw [nm_eq, nm_eq, nI_1]
      · rw [nm_eq, nm_eq, nI_1]
    by_cases q : 0 ≤ lg_cmp (jlshr x (4 * nI i) &&& 15) 8
    · exact ⟨_, trivial, e.trans (if_pos q)⟩
    · exact ⟨_, trivial, e.trans (if_neg q)⟩
  · show m_X8_isPermutation_4 F (m + 1) x s (nI 8) σ = _
    rw [m_X8_isPermutation_4]; dsimp only
    unfold m_X8_isPermutation_73
    rw [l8, if_pos (nI_le (by omega) (by omega))]
    rcases h with h | ⟨h1, h2⟩
    · rw [if_pos h]
    · rw [if_neg h1, if_pos h2]
/-- an argument: a permutation for both sides, or for none -/
theorem arg_or (F : Nat) (hF : 8 < F) (x : Int64) : (∃ p, IsP p ∧ x = lN (en p) ∧ ∀ σ, m_X5_isOne F x σ = some (1, σ) ∧ m_X8_isPermutation F x σ = some (1, σ)) ∨ ∀ σ, m_X5_isOne F x σ = some (0, σ) ∧ m_X8_isPermutation F x σ = some (0, σ) := by
  rcases out_or x with ⟨a, ha, rfl⟩ | ⟨h1, h2⟩
  · have h16 : ∀ i, i < 8 → (fun i => a / 2 ^ (4 * i) % 16) i < 16 := fun i _ => Nat.mod_lt _ (by omega)
    have ea := en_of ha
    by_cases q : Hit (fun i => a / 2 ^ (4 * i) % 16)
    · left
      refine ⟨_, (hit_perm q).1, ?_, fun σ => ⟨?_, ?_⟩⟩
      · exact congrArg lN (ea.trans (en_cong (d := fun i => a / 2 ^ (4 * i) % 16) (fun i hi => (if_pos hi).symm)))
      · rw [ea]; exact (isOne_in F hF h16 σ).1 q
      · rw [ea]; exact (isPerm_in F hF h16 σ).1 q
    · right
      intro σ
      rw [ea]
      exact ⟨(isOne_in F hF h16 σ).2 q, (isPerm_in F hF h16 σ).2 q⟩
  · right
    intro σ
    refine ⟨?_, isPerm_out F hF h2 σ⟩
    unfold m_X5_isOne
    rw [if_neg h1]
end
