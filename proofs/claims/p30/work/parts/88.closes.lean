/-! MATHEMATICS, 36: the list of a group (reference): closes -/
section
/-- c generators g in the reference -/
def RGe (c : Nat) (g : Nat → Nat → Nat) (σ : zST) : Prop := gI σ 46 11 = nI c ∧ ∀ i j, i < c → j < 8 → gI σ 56 (8 * i + j) = nI (g i j)
def KM (p j : Nat) : Prop := KL p j ∨ p = 59
theorem RGe.mv {c : Nat} {g : Nat → Nat → Nat} {σ τ : zST} (h : RGe c g σ) (hf : Fr KM σ τ) : RGe c g τ := ⟨by
  rw [(hf 46 11 (by unfold KM KL; omega)).1, h.1], fun i j hi hj => by
  rw [(hf 56 _ (by unfold KM KL; omega)).1, h.2 i j hi hj]⟩
theorem KL.km {p j : Nat} (h : KL p j) : KM p j := Or.inl h
theorem FRL.mv {N : Nat} {L : Nat → Nat → Nat} {σ τ : zST} (h : FRL N L σ) (hf : Fr (fun p _ => p = 59) σ τ) : FRL N L τ := by
  obtain ⟨h1, h2, h3, h4⟩ := h
  refine ⟨by rw [(hf 46 14 (by omega)).1, h1], fun k hk => ⟨(h2 k hk).1, by rw [(hf 57 k (by omega)).1, (h2 k hk).2]⟩, h3, fun f hf' => ?_⟩
  rw [(hf 58 _ (by omega)).1]
  exact h4 f hf'
/-- the list grows; what it holds is of the group -/
def GL (c : Nat) (g : Nat → Nat → Nat) (N : Nat) (L : Nat → Nat → Nat) : Prop := (0 < N ∧ L 0 = fun j => j) ∧ ∀ k, k < N → Gp c g (L k)
def Hd (N : Nat) (L : Nat → Nat → Nat) (f : Nat → Nat) : Prop := ∃ k, k < N ∧ L k = f
theorem Hd.mono {N N' : Nat} {L L' : Nat → Nat → Nat} {f : Nat → Nat} (hN : N ≤ N') (hL : ∀ k, k < N → L' k = L k) (h : Hd N L f) : Hd N' L' f := by
  obtain ⟨k, hk, e⟩ := h
  exact ⟨k, by omega, by rw [hL k hk, e]⟩
/-- the list is the group -/
def RGL (c : Nat) (g : Nat → Nat → Nat) (σ : zST) : Prop := ∃ N L, FRL N L σ ∧ ∀ f, Gp c g f ↔ Hd N L f
end

