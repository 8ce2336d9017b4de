/-! MATHEMATICS, 17: classes, classOf, rounds -/
section
theorem RS.ss {n : Nat} {M C : Nat → Nat} {σ s : zST} {T : Nat} (h : RS 17 n M C σ T s) : Fr SS σ s := h.2.2.2.2.mono (fun p j h => by unfold SS; omega)
theorem RR.ss {n : Nat} {M C : Nat → Nat} {σ s : zST} {T : Nat} (h : RR n M C σ T s) : Fr SS σ s := h.2.2.mono (fun p j h => by unfold SS; omega)
end

