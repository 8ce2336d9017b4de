/-! MATHEMATICS, 38: order, isInGroup, forgetGenerators, addGenerator -/
section
/-- cells that group calls write -/
def SG (p j : Nat) : Prop := (36 ≤ p ∧ p < 46) ∨ p = 60 ∨ (56 ≤ p ∧ p < 60) ∨ (p = 46 ∧ (j = 11 ∨ j = 14 ∨ j = 16))
theorem GI.mg {σ τ : zST} (h : GI σ) (hf : Fr SG σ τ) : GI τ := by
  intro k hk
  obtain ⟨n, M, C, h1, h2, h3⟩ := h k hk
  exact ⟨n, M, C, h1, h2.mv hf (fun q j a b => by unfold SG; omega), h3.mv hf (fun q j a b => by unfold SG; omega)⟩
theorem KM.sg {p j : Nat} (h : KM p j) : SG p j := by unfold KM KL at h; unfold SG; omega
theorem Clo_Gp (c : Nat) (g : Nat → Nat → Nat) : Clo (Gp c g) := ⟨fun _ _ hf hg => hf.mul hg, fun _ hp hf => Gp.iv hp hf⟩
theorem E0_Gp {b : Nat → Nat} {c : Nat} {g : Nat → Nat → Nat} : ∀ i x u, E0 b i x = some u → Gp c g u := by
  intro i x u e
  unfold E0 at e
  split at e
  · rw [← Option.some.inj e]; exact Gp.id c g
  · exact absurd e (by simp)
/-- a chain begun anew -/
theorem CR0 {q most a : Nat} {τ : zST} (h : CK q (iv (pos a)) (E0 (iv (pos a))) 0 (fun _ j => j) τ) (h2 : gI τ q 2 = nI 0) : CR q most (iv (pos a)) (E0 (iv (pos a))) 0 (fun _ j => j) τ := ⟨h, h2, Or.inl (fun x y hx => absurd hx (by omega))⟩
theorem gclear_eq (F : Nat) (hF : 64 < F) (q : Nat) (σ : zST) : ∃ τ, m_X3_clear F q σ = some τ ∧ gI τ q 0 = nI 0 ∧ CK (q + 2) (iv (pos 0)) (E0 (iv (pos 0))) 0 (fun _ j => j) τ ∧ gI τ (q + 2) 2 = nI 0 ∧ Fr (fun p _ => q ≤ p ∧ p ≤ q + 5) σ τ := by
  obtain ⟨τ, e, h1, h2, h3⟩ := restart_eq F hF (q := q + 2) (a := 0) (by omega) (sI σ q 0 0)
  refine ⟨τ, ?_, ?_, h1, h2, (Fr.sI (by omega)).tr (h3.mono (fun p _ h => by omega))⟩
  · unfold m_X3_clear
    show bv (m_X1_restart F (q + 2) (nI 0) (sI σ q 0 0)) _ = _
    rw [e, bv_some]
  · rw [(h3 q 0 (by omega)).1, gI_same, nI_0]
theorem checkP_ok (F : Nat) {x : Int64} {σ : zST} (h : m_X5_isOne F x σ = some (1, σ)) : m_X7_checkPermutation F x σ = some (.inr (), σ) := by
  unfold m_X7_checkPermutation
  rw [h, bd_some, if_neg (by decide +kernel)]
theorem checkP_bad (F : Nat) {x : Int64} {σ : zST} (h : m_X5_isOne F x σ = some (0, σ)) : m_X7_checkPermutation F x σ = some (.inl "java/lang/IllegalArgumentException", σ) := by
  unfold m_X7_checkPermutation
  rw [h, bd_some, if_pos rfl]
end

