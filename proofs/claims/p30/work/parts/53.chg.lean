/-! MATHEMATICS, 4: calls that change a graph -/
section
theorem Ok1.st {J : zST → Prop} (hJ : Nb J) {cl rf : zST → Option (Int32 × zST)} {σ σ1 σ2 : zST} (h : GJ J σ) {k n : Nat} {M C : Nat → Nat} (hk : k < 4) {r : Int32} (h1 : cl σ = some (0, σ1)) (h2 : rf σ1 = some (r, σ2)) (hG : Gr n M C) (hA : At (2 + 3 * k) n M C σ2) (hR : RAt k n M C σ2) (f1 : Fr (SK k) σ σ1) (f2 : Fr (SK k) σ1 σ2) (ht : gI σ2 46 16 = 0) (hv : gL σ2 60 0 = r.toInt64) : Ok1 (GJ J) cl rf σ := ⟨0, σ1, r, σ2, h1, h2, ht, fun _ => hv, h.set hJ hk hG hA hR (f1.tr f2)⟩
theorem in8_or (x : Int32) : Bad 8 x ∨ ∃ c, c < 8 ∧ x = nI c := Bad.or 8 (by omega) x
end

