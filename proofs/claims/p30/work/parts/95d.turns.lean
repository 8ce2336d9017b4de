/-! MATHEMATICS, 56: the reference looks for maps, and goes through all symmetries -/
section
/-- what a search for a map answers -/
def MapR (n : Nat) (G : (Nat → Nat) → Prop) (o : Option (Int32 × zST)) (σ : zST) : Prop := ∃ τ, ((∃ q, IsN n q ∧ G q ∧ (∀ p, IsN n p → G p → rv n q ≤ rv n p) ∧ o = some (1, τ) ∧ Mp n q τ) ∨ (o = some (0, τ) ∧ ∀ p, IsN n p → ¬ G p)) ∧ Fr (fun p _ => p = 50) σ τ
/-- symmetries counted so far, and the vertices that they reach -/
def TS (n : Nat) (M C : Nat → Nat) (Q : (Nat → Nat) → Prop) (c : Nat) (σ : zST) : Prop := c = cd n (fun p => Q p ∧ Iso n M C M C p) ∧ ∀ v, v < n → ∃ m, m < 256 ∧ gI σ 55 v = nI m ∧ ∀ y, m.testBit y = true ↔ ∃ f, (Q f ∧ Iso n M C M C f) ∧ f v = y
theorem TS.cong {n : Nat} {M C : Nat → Nat} {P Q : (Nat → Nat) → Prop} {c : Nat} {σ : zST} (h : ∀ p, IsN n p → (P p ↔ Q p)) (hs : TS n M C P c σ) : TS n M C Q c σ := by
  refine ⟨by rw [hs.1]; exact cd_cong (fun w hw => by rw [h w hw]), fun v hv => ?_⟩
  obtain ⟨m, a, b, d⟩ := hs.2 v hv
  refine ⟨m, a, b, fun y => ?_⟩
  rw [d y]
  constructor
  · rintro ⟨f, ⟨h1, h2⟩, h3⟩; exact ⟨f, ⟨(h f h2.1).mp h1, h2⟩, h3⟩
  · rintro ⟨f, ⟨h1, h2⟩, h3⟩; exact ⟨f, ⟨(h f h2.1).mpr h1, h2⟩, h3⟩
theorem TS.mv {n : Nat} {M C : Nat → Nat} {Q : (Nat → Nat) → Prop} {c : Nat} {σ τ : zST} (hs : TS n M C Q c σ) {S : Nat → Nat → Prop} (hf : Fr S σ τ) (h0 : ∀ j, ¬ S 55 j) : TS n M C Q c τ := ⟨hs.1, fun v hv => by
  obtain ⟨m, a, b, d⟩ := hs.2 v hv
  exact ⟨m, a, by rw [(hf 55 v (h0 v)).1, b], d⟩⟩
def FT (p _j : Nat) : Prop := p = 50 ∨ p = 51 ∨ p = 55
end

