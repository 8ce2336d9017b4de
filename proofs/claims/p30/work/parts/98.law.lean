theorem law_ok : ∀ (L : Nat) (xs : Nat → Int32), L ≤ 260 → ∃ (F : Nat) (τg τ : zST), m_X3_clear F 0 s0_Group = some τg ∧ m_L_holds_26 F 49 L xs F 0 46 47 48 0 (s1 τg) = some (1, τ) := by
  sorry
