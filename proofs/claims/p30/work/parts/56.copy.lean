/-! MATHEMATICS, 7: copy, swap -/
section
/-- what a call without an answer asks of one store -/
def OkV (I : zST → Prop) (cl : zST → Option (Int32 × zST)) (rf : zST → Option zST) (σ : zST) : Prop := ∃ c σ1 σ2, cl σ = some (c, σ1) ∧ rf σ1 = some σ2 ∧ gI σ2 46 16 = c ∧ I σ2
theorem OkV.bad {J : zST → Prop} (hJ : Nb J) {cl : zST → Option (Int32 × zST)} {rf : zST → Option zST} {σ : zST} (h : GJ J σ) {c : Int32} (h1 : cl σ = some (c, σ)) (h2 : rf σ = some (sI σ 46 16 c)) : OkV (GJ J) cl rf σ := ⟨c, σ, _, h1, h2, gI_same _ _ _ _, h.mv hJ (Fr.sI (by unfold SS; omega))⟩
theorem OkV.st {J : zST → Prop} (hJ : Nb J) {cl : zST → Option (Int32 × zST)} {rf : zST → Option zST} {σ σ1 σ2 : zST} (h : GJ J σ) {k n : Nat} {M C : Nat → Nat} (hk : k < 4) (h1 : cl σ = some (0, σ1)) (h2 : rf σ1 = some σ2) (hG : Gr n M C) (hA : At (2 + 3 * k) n M C σ2) (hR : RAt k n M C σ2) (f1 : Fr (SK k) σ σ1) (f2 : Fr (SK k) σ1 σ2) (ht : gI σ2 46 16 = 0) : OkV (GJ J) cl rf σ := ⟨0, σ1, σ2, h1, h2, ht, h.set hJ hk hG hA hR (f1.tr f2)⟩
theorem wI_s2 (σ : zST) {p q : Nat} (hpq : p ≠ q) (n : Nat) (f g : Nat → Int32) : sI (sI (wI (wI σ p n f) q n g) p n (f n)) q n (g n) = wI (wI σ p (n + 1) f) q (n + 1) g := zST_ext (fun r i => by
  rw [gI_sI, gI_sI, gI_wI, gI_wI, gI_wI, gI_wI]
  repeat' split
  all_goals first | rfl | (exfalso; omega) | (congr 1; omega)) (fun r i => rfl)
theorem become_eq (F : Nat) (hF : 8 < F) {p q n : Nat} (hpq : p = q ∨ p + 2 < q ∨ q + 2 < p) {M C : Nat → Nat} {σ : zST} (h : At q n M C σ) : m_X2_become F p q σ = some (wI (wI (sI σ p 0 (nI n)) (p + 1) 8 (fun v => nI (M v))) (p + 2) 8 (fun v => nI (C v))) := by
  unfold m_X2_become
  rw [nm_eq, h.1]
  have h := up_loop0 (fun n (i : Int32) (s : zST) => m_X2_become_10 F n p q i s) 8 (fun i => wI (wI (sI σ p 0 (nI n)) (p + 1) i (fun v => nI (M v))) (p + 2) i (fun v => nI (C v))) (some (wI (wI (sI σ p 0 (nI n)) (p + 1) 8 (fun v => nI (M v))) (p + 2) 8 (fun v => nI (C v))))
    (fun m i hi => by
      show m_X2_become_10 F (m + 1) p q (nI i) _ = _
      rw [m_X2_become_10]; dsimp only
      rw [l8, if_neg (nI_ge hi (by omega)), ldI_at hi (by omega), stI_at hi (by omega), ldI_at hi (by omega), stI_at hi (by omega), nm_eq, nI_1, gI_sI (wI _ _ _ _) (p + 1) i, if_neg (by omega), gI_wI, if_neg (by omega), gI_wI, if_neg (by omega), gI_sI, if_neg (by omega), (h.2 i hi).1, gI_wI, if_neg (by omega), gI_wI, if_neg (by omega), gI_sI, if_neg (by omega), (h.2 i hi).2]
      rw [wI_s2 (sI σ p 0 (nI n)) (by omega) i (fun v => nI (M v)) (fun v => nI (C v))])
    (fun m => by
      show m_X2_become_10 F (m + 1) p q (nI 8) _ = _
      rw [m_X2_become_10]; dsimp only
      rw [l8, if_pos (nI_le (by omega) (by omega))]) hF
  rw [wI_0, wI_0] at h
  exact h
end

