/-! THE LAW, from its start -/
section
theorem s1_I (g : zST) (p j : Nat) : gI (s1 g) p j = if p = 2 ∨ p = 5 ∨ p = 8 ∨ p = 11 ∨ p = 14 then (if j = 0 then 4 else 0) else if 36 ≤ p ∧ p < 46 then gI g (p - 36) j else 0 := by
  unfold gI s1
  dsimp only
  split
  · rfl
  · split <;> rfl
theorem s1_L (g : zST) (p j : Nat) : gL (s1 g) p j = if 36 ≤ p ∧ p < 46 then gL g (p - 36) j else 0 := by
  unfold gL s1
  dsimp only
  split <;> rfl
theorem s1_g (g : zST) {p : Nat} (hp : p < 10) (j : Nat) : gI (s1 g) (36 + p) j = gI g p j ∧ gL (s1 g) (36 + p) j = gL g p j := by
  rw [s1_I, s1_L, if_neg (by omega), if_pos (by omega), if_pos (by omega), Nat.add_sub_cancel_left]
  exact ⟨rfl, rfl⟩
theorem ck_s1 {g : zST} {b : Nat → Nat} {E : Nat → Nat → Option (Nat → Nat)} {c : Nat} {kt : Nat → Nat → Nat} (h : CK 2 b E c kt g) : CK 38 b E c kt (s1 g) := by
  obtain ⟨⟨a, a'⟩, c1, d, e, f, g1, i, j⟩ := h
  refine ⟨⟨fun k hk => ?_, fun k y hk hy => ?_⟩, c1, ?_, ?_, f, fun k hk => ⟨?_, (g1 k hk).2⟩, i, j⟩
  · exact ((s1_g g (p := 3) (by omega) k).1).trans (a k hk)
  · exact ((s1_g g (p := 5) (by omega) _).2).trans (a' k y hk hy)
  · exact ((s1_g g (p := 2) (by omega) 0).1).trans d
  · exact ((s1_g g (p := 2) (by omega) 1).1).trans e
  · exact ((s1_g g (p := 4) (by omega) k).2).trans (g1 k hk).1
theorem law_ok : ∀ (L : Nat) (xs : Nat → Int32), L ≤ 260 → ∃ (F : Nat) (τg τ : zST), m_X3_clear F 0 s0_Group = some τg ∧ m_L_holds_26 F 49 L xs F 0 46 47 48 0 (s1 τg) = some (1, τ) := by
  intro L xs hL
  obtain ⟨F, hF⟩ : ∃ F, F = 1000 := ⟨_, rfl⟩
  obtain ⟨τg, e1, a1, a2, a3, _⟩ := gclear_eq F (by omega) 0 s0_Group
  have hGS : GS (s1 τg) 0 (fun i => td ((fun _ => 0) i)) := ⟨by omega, fun i hi => absurd hi (by omega), ⟨((s1_g τg (p := 0) (by omega) 0).1).trans a1, fun i hi => absurd hi (by omega)⟩, ⟨iv (pos 0), E0 (iv (pos 0)), 0, fun _ j => j, CR0 (ck_s1 a2) (((s1_g τg (p := 2) (by omega) 2).1).trans a3), fun i hi => absurd hi (by omega), E0_Gp⟩⟩
  have hAt : ∀ k, k < 4 → At (2 + 3 * k) 4 (fun _ => 0) (fun _ => 0) (s1 τg) := fun k hk => by
    have h1 : ∀ x v, x = 2 + 3 * k + 1 ∨ x = 2 + 3 * k + 2 → gI (s1 τg) x v = nI 0 := fun x v hx => by
      rw [s1_I, if_neg (by omega), if_neg (by omega), nI_0]
    exact ⟨by rw [s1_I, if_pos (by omega), if_pos rfl]; rfl, fun v hv => ⟨h1 _ v (Or.inl rfl), h1 _ v (Or.inr rfl)⟩⟩
  have h48 : gI (s1 τg) 48 0 = nI 0 := by rw [s1_I, if_neg (by omega), if_neg (by omega), nI_0]
  have run : ∃ τ, m_L_holds_26 F 49 L xs F 0 46 47 48 0 (s1 τg) = some (1, τ) := by
    refine up_inv0 (fun m (k : Int32) (s : zST) => m_L_holds_26 F 49 L xs m 0 46 47 48 k s) 4 (fun k s => Fr (fun q _ => q = 46) (s1 τg) s ∧ ∀ j, j < k → gL s 46 j = lN (4 * 2 ^ 52)) (fun o => ∃ τ, o = some (1, τ)) (fun m k s hk hI => ?_) (fun m s hI => ?_) (show 4 < F by omega) ⟨fun q j _ => ⟨rfl, rfl⟩, fun j hj => absurd hj (by omega)⟩
    · obtain ⟨f, h⟩ := hI
      refine ⟨sL s 46 k (lN (4 * 2 ^ 52)), ⟨f.tr (Fr.sL rfl), fun j hj => ?_⟩, ?_⟩
      · rw [gL_sL]
        by_cases y : j = k
        · rw [if_pos ⟨rfl, y⟩]
        · rw [if_neg (fun z => y z.2), h j (by omega)]
      · show m_L_holds_26 F 49 L xs (m + 1) 0 46 47 48 (nI k) s = m_L_holds_26 F 49 L xs m 0 46 47 48 (nI (k + 1)) (sL s 46 k (lN (4 * 2 ^ 52)))
        rw [m_L_holds_26]; dsimp only
        rw [l4, if_neg (nI_ge hk (by omega)), stL_at hk (by omega), nI_1, nm_eq]
        rfl
    · obtain ⟨f, h⟩ := hI
      show ∃ τ, m_L_holds_26 F 49 L xs (m + 1) 0 46 47 48 (nI 4) s = some (1, τ)
      rw [m_L_holds_26]; dsimp only
      rw [l4, if_pos (nI_le (Nat.le_refl _) (by omega))]
      refine h_loop F (by omega) (Nat.le_refl _) hL xs ⟨fun k hk => ?_, 0, fun _ => 0, fun i hi => absurd hi (by omega), hGS.mv f (fun q j a b => by unfold SC6 at a; omega), by rw [(f 48 0 (by omega)).1, h48], fun i hi => absurd hi (by omega)⟩
      exact ⟨4, fun _ => 0, fun _ => 0, Gr0 (by omega) (by omega), by omega, (hAt k hk).mv f (fun q j a b c => by omega), by rw [h k hk, cde_0]⟩
  obtain ⟨τ, e3⟩ := run
  exact ⟨F, τg, τ, e1, e3⟩
end
