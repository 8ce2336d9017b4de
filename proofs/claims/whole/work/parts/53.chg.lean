/-! MATHEMATICS, 4: calls that change a graph -/
section
theorem Ok1.st {J : zST → Prop} (hJ : Nb J) {cl rf : zST → Option (Int32 × zST)} {σ σ1 σ2 : zST} (h : GJ J σ) {k n : Nat} {M C : Nat → Nat} (hk : k < 4) {r : Int32} (h1 : cl σ = some (0, σ1)) (h2 : rf σ1 = some (r, σ2)) (hG : Gr n M C) (hA : At (2 + 3 * k) n M C σ2) (hR : RAt k n M C σ2) (f1 : Fr (SK k) σ σ1) (f2 : Fr (SK k) σ1 σ2) (ht : gI σ2 46 16 = 0) (hv : gL σ2 60 0 = r.toInt64) : Ok1 (GJ J) cl rf σ := ⟨0, σ1, r, σ2, h1, h2, ht, fun _ => hv, h.set hJ hk hG hA hR (f1.tr f2)⟩
theorem in8_or (x : Int32) : Bad 8 x ∨ ∃ c, c < 8 ∧ x = nI c := Bad.or 8 (by omega) x
theorem op_setColour {J : zST → Prop} (hJ : Nb J) (F : Nat) (x y z : Int32) : Op (GJ J) (m_L_setColour F 1 0 x y z 60) (m_X8_setColour F 46 x y z) := by
  intro σ h
  have n8 : ∀ {c : Int32}, Bad 8 c → ∀ {β : Type} (a b : β), (if c < 0 then a else if c < 8 then b else a) = a := by
    intro c hc β a b
    rcases hc with h | h
    · rw [if_pos h]
    · by_cases h0 : c < 0
      · rw [if_pos h0]
      · rw [if_neg h0, l8, if_neg (fun z => absurd h (Int32.not_le.mpr z))]
  rcases Bad.or 4 (by omega) x with hx | ⟨k, hk, rfl⟩
  · refine Ok1.bad hJ h (c := 1) (r := 0) (by decide +kernel) ?_ ?_
    · unfold m_L_setColour m_X7_setColour
      rw [graphAt_bad F hx, bx_inl, bc_inl, if_pos rfl]
    · unfold m_X8_setColour
      rw [isVertex_bad F hx, bd_some]
      rcases in8_or z with hz | ⟨c, hc, rfl⟩
      · rw [l7, in_bad F (by omega) hz, bd_some, goes_1, bd_some, if_pos rfl]
      · rw [l7, in_ok F (by omega) hc, bd_some, goes_1, bd_some, if_pos rfl]
  obtain ⟨n, M, C, hG, hA, hR⟩ := h.1 k hk
  have h8 := hG.1.2
  rcases Bad.or n (by omega) y with hy | ⟨v, hv, rfl⟩
  · refine Ok1.bad hJ h (c := 1) (r := 0) (by decide +kernel) ?_ ?_
    · unfold m_L_setColour m_X7_setColour
      rw [graphAt_ok F hk, bx_inr, checkV_bad F hy hA.1, bx_inl, bc_inl, if_pos rfl]
    · unfold m_X8_setColour
      rw [isVertex_bad2 F hk hR.1 hG.1.1 h8 hy, bd_some]
      rcases in8_or z with hz | ⟨c, hc, rfl⟩
      · rw [l7, in_bad F (by omega) hz, bd_some, goes_1, bd_some, if_pos rfl]
      · rw [l7, in_ok F (by omega) hc, bd_some, goes_1, bd_some, if_pos rfl]
  rcases in8_or z with hz | ⟨c, hc, rfl⟩
  · refine Ok1.bad hJ h (c := 2) (r := 0) (by decide +kernel) ?_ ?_
    · unfold m_L_setColour m_X7_setColour m_X7_setColour_23
      rw [graphAt_ok F hk, bx_inr, checkV_ok F hv (by omega) hA.1, bx_inr, n8 hz, bc_inl, if_neg (by decide), if_pos rfl]
    · unfold m_X8_setColour
      rw [isVertex_ok F hk hR.1 h8 hv, bd_some, l7, in_bad F (by omega) hz, bd_some, goes_2 F n10, bd_some, if_pos rfl]
  · refine Ok1.st hJ h hk (r := nI (C v)) (n := n) (M := M) (C := fun u => if u = v then c else C u) (σ1 := sL (sI σ (2 + 3 * k + 2) v (nI c)) 60 0 (nI (C v)).toInt64) (σ2 := sI (sI (sL (sI σ (2 + 3 * k + 2) v (nI c)) 60 0 (nI (C v)).toInt64) 46 16 0) 49 (8 * k + v) (nI c)) ?_ ?_ ?_ ?_ ?_ ?_ ?_ ?_ ?_
    · unfold m_L_setColour m_X7_setColour
      rw [graphAt_ok F hk, bx_inr, checkV_ok F hv (by omega) hA.1, bx_inr, if_neg (nI_pos (by omega)), l8, if_pos (nI_lt hc (by omega)), ldI_at (by omega) (by omega), stI_at (by omega) (by omega), bc_inr, out_at, (hA.2 v (by omega)).2]
    · unfold m_X8_setColour
      have e : gI (sL (sI σ (2 + 3 * k + 2) v (nI c)) 60 0 (nI (C v)).toInt64) 47 k = nI n := by
        rw [gI_sL, gI_sI, if_neg (by omega), hR.1]
      rw [isVertex_ok F hk e h8 hv, bd_some, l7, in_ok F (by omega) hc, bd_some, goes_0 F n10 n10, bd_some, if_neg n10, l8, pk_mul, nI_add, ldI_at (by omega) (by omega), stI_at (by omega) (by omega), gI_sI, if_neg (by omega), gI_sL, gI_sI, if_neg (by omega), (hR.2 v (by omega)).2]
    · refine ⟨hG.1, fun u hu => ?_⟩
      obtain ⟨a, b⟩ := hG.2 u hu
      refine ⟨?_, b⟩
      show (if u = v then c else C u) < 8
      split <;> omega
    · refine ⟨by rw [gI_sI, if_neg (by omega), gI_sI, if_neg (by omega), gI_sL, gI_sI, if_neg (by omega), hA.1], fun u hu => ⟨?_, ?_⟩⟩
      · rw [gI_sI, if_neg (by omega), gI_sI, if_neg (by omega), gI_sL, gI_sI, if_neg (by omega), (hA.2 u hu).1]
      · show _ = nI (if u = v then c else C u)
        rw [gI_sI, if_neg (by omega), gI_sI, if_neg (by omega), gI_sL, gI_sI]
        by_cases e : u = v
        · rw [if_pos ⟨rfl, e⟩, if_pos e]
        · rw [if_neg (fun z => e z.2), if_neg e, (hA.2 u hu).2]
    · refine ⟨by rw [gI_sI, if_neg (by omega), gI_sI, if_neg (by omega), gI_sL, gI_sI, if_neg (by omega), hR.1], fun u hu => ⟨?_, ?_⟩⟩
      · rw [gI_sI, if_neg (by omega), gI_sI, if_neg (by omega), gI_sL, gI_sI, if_neg (by omega), (hR.2 u hu).1]
      · show _ = nI (if u = v then c else C u)
        rw [gI_sI]
        by_cases e : u = v
        · rw [if_pos ⟨rfl, by omega⟩, if_pos e]
        · rw [if_neg (by omega), if_neg e, gI_sI, if_neg (by omega), gI_sL, gI_sI, if_neg (by omega), (hR.2 u hu).2]
    · exact (Fr.sI (by unfold SK SS; omega)).tr (Fr.sL (by unfold SK SS; omega))
    · exact (Fr.sI (by unfold SK SS; omega)).tr (Fr.sI (by unfold SK SS; omega))
    · rw [gI_sI, if_neg (by omega), gI_same]
    · rw [gL_sI, gL_sI, gL_same]
end
