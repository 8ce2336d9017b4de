/-! MATHEMATICS, 15: the reference's refinement -/
section
theorem find_yes2 {β : Type} (f : Nat → Int32 → Option β) (N : Nat) (P : Nat → Prop) (yes : Nat → Option β) (hs : ∀ n i, i < N → ¬ P i → f (n + 1) (nI i) = f n (nI (i + 1))) (hy : ∀ n i, i < N → P i → f (n + 2) (nI i) = yes i) {j : Nat} (hj : j < N) (hp : P j) (hl : ∀ i, i < j → ¬ P i) {F : Nat} (hF : N + 1 < F) : f F 0 = yes j := by
  have h : ∀ d i n, i + d = j → d + 1 < n → f n (nI i) = yes j := by
    intro d
    induction d with
    | zero =>
      intro i n hi hn
      obtain ⟨n, rfl⟩ : ∃ k, n = k + 2 := ⟨n - 2, by omega⟩
      have : i = j := by omega
      subst this
      exact hy n i hj hp
    | succ d ih =>
      intro i n hi hn
      obtain ⟨n, rfl⟩ : ∃ k, n = k + 1 := ⟨n - 1, by omega⟩
      rw [hs n i (by omega) (hl i (by omega))]
      exact ih (i + 1) n (by omega) (by omega)
  have := h j 0 F (by omega) (by omega)
  rwa [nI_0] at this
theorem maxTo_lt {f : Nat → Nat} {b : Nat} : ∀ {n : Nat}, (∀ i, i < n → f i < b) → 0 < b → maxTo f n < b
  | 0, _, h => h
  | n + 1, h, hb => by
    rw [maxTo]
    split
    · exact maxTo_lt (fun i hi => h i (by omega)) hb
    · exact h n (by omega)
end

