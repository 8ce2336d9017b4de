/-! MATHEMATICS, 39: addGenerator -/
section
theorem Gp.more {c : Nat} {g g' : Nat → Nat → Nat} (hg : ∀ i, i < c → g' i = g i) {f : Nat → Nat} (h : Gp c g f) : Gp (c + 1) g' f :=
  Gp.least (S := Gp (c + 1) g') (Gp.id _ _) (fun i hi f hf => by
    rw [← hg i hi]
    exact hf.step (by omega)) h
end

