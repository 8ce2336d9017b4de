/-! MATHEMATICS, 5: toggle -/
section
theorem areV_1 (F : Nat) {x : Int32} (h : Bad 4 x) (y z : Int32) (σ : zST) : m_X8_areVertices F 46 x y z σ = some (0, σ) := by
  unfold m_X8_areVertices m_X8_areVertices_22
  rw [isVertex_bad F h, bd_some, if_pos rfl]
theorem areV_2 (F : Nat) {k n : Nat} (hk : k < 4) {y : Int32} {σ : zST} (hg : gI σ 47 k = nI n) (h1 : 1 ≤ n) (h8 : n ≤ 8) (h : Bad n y) (z : Int32) : m_X8_areVertices F 46 (nI k) y z σ = some (0, σ) := by
  unfold m_X8_areVertices m_X8_areVertices_22
  rw [isVertex_bad2 F hk hg h1 h8 h, bd_some, if_pos rfl]
theorem areV_3 (F : Nat) {k n v : Nat} (hk : k < 4) {z : Int32} {σ : zST} (hg : gI σ 47 k = nI n) (h8 : n ≤ 8) (hv : v < n) (h : Bad n z) : m_X8_areVertices F 46 (nI k) (nI v) z σ = some (0, σ) := by
  unfold m_X8_areVertices m_X8_areVertices_22
  rw [isVertex_ok F hk hg h8 hv, bd_some, if_neg n10, isVertex_bad2 F hk hg (by omega) h8 h, bd_some, if_pos rfl]
theorem areV_ok (F : Nat) {k n v w : Nat} (hk : k < 4) {σ : zST} (hg : gI σ 47 k = nI n) (h8 : n ≤ 8) (hv : v < n) (hw : w < n) : m_X8_areVertices F 46 (nI k) (nI v) (nI w) σ = some (1, σ) := by
  unfold m_X8_areVertices m_X8_areVertices_22
  rw [isVertex_ok F hk hg h8 hv, bd_some, if_neg n10, isVertex_ok F hk hg h8 hw, bd_some, if_neg n10]
/-- a bit as the methods answer it -/
def bI (b : Bool) : Int32 := if b then 1 else 0
theorem bI_01 (b : Bool) : bI b = 0 ∨ bI b = 1 := by cases b <;> simp [bI]
theorem bI_eq (a b : Bool) : (bI a = bI b) ↔ a = b := by revert a b; decide +kernel
theorem bI_0 (b : Bool) : (bI b = 0) ↔ b = false := by revert b; decide +kernel
theorem isIn_b (F : Nat) {a : Nat} (ha : a < 2 ^ 31) {i : Nat} (hi : i < 32) (σ : zST) : m_X7_isIn F (nI a) (nI i) σ = some (bI (a.testBit i), σ) := isIn_eq F ha hi σ
theorem shr_and1 {a : Nat} (ha : a < 2 ^ 31) {i : Nat} (hi : i < 32) : jshr (nI a) (nI i) &&& 1 = bI (a.testBit i) := by
  rw [b_shr ha hi, l1, b_and, tb_and1]
  unfold bI
  by_cases h : a.testBit i <;> simp [h, nI_0]
  rfl
theorem hasE_ref (F : Nat) {k a b m : Nat} (hk : k < 4) (ha : a < 8) (hb : b < 32) {σ : zST} (h : gI σ 48 (8 * k + a) = nI m) (hm : m < 2 ^ 31) : m_X8_hasEdge F 46 (nI k) (nI a) (nI b) σ = some (bI (m.testBit b), σ) := by
  unfold m_X8_hasEdge
  rw [l8, pk_mul, nI_add, ldI_at (by omega) (by omega)]
  show (if jshr (gI σ 48 (8 * k + a)) (nI b) &&& 1 = 1 then _ else _) = _
  rw [h, shr_and1 hm hb]
  cases m.testBit b
  · rw [if_neg (by decide +kernel)]; rfl
  · rw [if_pos (by decide +kernel)]; rfl
theorem hasE_cl (F : Nat) {p a b m : Nat} (ha : a < 8) (hb : b < 32) {σ : zST} (h : gI σ (p + 1) a = nI m) (hm : m < 2 ^ 31) : m_X2_hasEdge F p (nI a) (nI b) σ = some (bI (m.testBit b), σ) := by
  unfold m_X2_hasEdge
  rw [ldI_at (by omega) (by omega), h, isIn_b F hm hb, bd_some, gd_yes (bI_01 _)]
/-- one edge flipped -/
def flipM (M : Nat → Nat) (a b u : Nat) : Nat := if u = a then M u ^^^ 2 ^ b else if u = b then M u ^^^ 2 ^ a else M u
theorem flipM_bit (M : Nat → Nat) (a b u v : Nat) : (flipM M a b u).testBit v = ((M u).testBit v != decide ((u = a ∧ v = b) ∨ (u = b ∧ u ≠ a ∧ v = a))) := by
  unfold flipM
  split
  · rename_i h
    subst h
    rw [Nat.testBit_xor, Nat.testBit_two_pow]
    by_cases h : b = v <;> simp [h, eq_comm]
  · split
    · rename_i h1 h2
      subst h2
      rw [Nat.testBit_xor, Nat.testBit_two_pow]
      by_cases h : a = v <;> simp [h, h1, eq_comm]
    · rename_i h1 h2
      simp [h1, h2]
theorem flip_Gr {n : Nat} {M C : Nat → Nat} (h : Gr n M C) {a b : Nat} (ha : a < n) (hb : b < n) (hab : a ≠ b) : Gr n (flipM M a b) C := by
  refine ⟨h.1, fun v hv => ?_⟩
  obtain ⟨h1, h2, h3, h4, h5⟩ := h.2 v hv
  refine ⟨h1, ?_, ?_, ?_, ?_⟩
  · unfold flipM
    split
    · exact Nat.xor_lt_two_pow h2 (Nat.pow_lt_pow_right (by omega) hb)
    · split
      · exact Nat.xor_lt_two_pow h2 (Nat.pow_lt_pow_right (by omega) ha)
      · exact h2
  · intro hn
    unfold flipM
    rw [if_neg (by omega), if_neg (by omega), h3 hn]
  · rw [flipM_bit, h4]
    have : ¬ ((v = a ∧ v = b) ∨ (v = b ∧ v ≠ a ∧ v = a)) := by omega
    rw [decide_eq_false this]; rfl
  · intro u hu
    rw [flipM_bit, flipM_bit, h5 u hu]
    have : ((u = a ∧ v = b) ∨ (u = b ∧ u ≠ a ∧ v = a)) ↔ ((v = a ∧ u = b) ∨ (v = b ∧ v ≠ a ∧ u = a)) := by omega
    rw [decide_eq_decide.mpr this]
theorem flip_cl (F : Nat) {p n a b : Nat} {M C : Nat → Nat} {σ : zST} (hG : Gr n M C) (hA : At p n M C σ) (ha : a < n) (hb : b < n) (hab : a ≠ b) : m_X2_flipEdge F p (nI a) (nI b) σ = some (sI (sI σ (p + 1) a (nI (flipM M a b a))) (p + 1) b (nI (flipM M a b b))) := by
  have h8 := hG.1.2
  unfold m_X2_flipEdge
  rw [ldI_at (by omega) (by omega), stI_at (by omega) (by omega), ldI_at (by omega) (by omega), stI_at (by omega) (by omega), (hA.2 a (by omega)).1, gI_sI, if_neg (by omega), (hA.2 b (by omega)).1, shl1 (by omega), shl1 (by omega), b_xor, b_xor]
  unfold flipM
  rw [if_pos rfl, if_neg (by omega), if_pos rfl]
theorem flip_At {p n a b : Nat} {M C : Nat → Nat} {σ : zST} (hA : At p n M C σ) (hab : a ≠ b) : At p n (flipM M a b) C (sI (sI σ (p + 1) a (nI (flipM M a b a))) (p + 1) b (nI (flipM M a b b))) := by
  refine ⟨by rw [gI_sI, if_neg (by omega), gI_sI, if_neg (by omega), hA.1], fun u hu => ⟨?_, by rw [gI_sI, if_neg (by omega), gI_sI, if_neg (by omega), (hA.2 u hu).2]⟩⟩
  rw [gI_sI]
  by_cases e : u = b
  · rw [if_pos ⟨rfl, e⟩, e]
  · rw [if_neg (by omega), gI_sI]
    by_cases e2 : u = a
    · rw [if_pos ⟨rfl, e2⟩, e2]
    · rw [if_neg (by omega), (hA.2 u hu).1]
      unfold flipM
      rw [if_neg e2, if_neg e]
theorem flip_RAt {k n a b : Nat} {M C : Nat → Nat} {σ : zST} (hA : RAt k n M C σ) (hab : a ≠ b) : RAt k n (flipM M a b) C (sI (sI σ 48 (8 * k + a) (nI (flipM M a b a))) 48 (8 * k + b) (nI (flipM M a b b))) := by
  refine ⟨by rw [gI_sI, if_neg (by omega), gI_sI, if_neg (by omega), hA.1], fun u hu => ⟨?_, by rw [gI_sI, if_neg (by omega), gI_sI, if_neg (by omega), (hA.2 u hu).2]⟩⟩
  rw [gI_sI]
  by_cases e : u = b
  · rw [if_pos ⟨rfl, by omega⟩, e]
  · rw [if_neg (by omega), gI_sI]
    by_cases e2 : u = a
    · rw [if_pos ⟨rfl, by omega⟩, e2]
    · rw [if_neg (by omega), (hA.2 u hu).1]
      unfold flipM
      rw [if_neg e2, if_neg e]
theorem op_toggle {J : zST → Prop} (hJ : Nb J) (F : Nat) (x y z : Int32) : Op (GJ J) (m_L_toggle F 1 0 x y z 60) (m_X8_toggle F 46 x y z) := by
  intro σ h
  rcases Bad.or 4 (by omega) x with hx | ⟨k, hk, rfl⟩
  · refine Ok1.bad hJ h (c := 1) (r := 0) (by decide +kernel) ?_ ?_
    · unfold m_L_toggle m_X7_toggle
      rw [graphAt_bad F hx, bx_inl, bc_inl, if_pos rfl]
    · unfold m_X8_toggle m_X8_toggle_18
      rw [areV_1 F hx, bd_some, goes_1, goes_1, bd_some, if_pos rfl]
      split <;> rfl
  obtain ⟨n, M, C, hG, hA, hR⟩ := h.1 k hk
  have h8 := hG.1.2
  rcases Bad.or n (by omega) y with hy | ⟨v, hv, rfl⟩
  · refine Ok1.bad hJ h (c := 1) (r := 0) (by decide +kernel) ?_ ?_
    · unfold m_L_toggle m_X7_toggle
      rw [graphAt_ok F hk, bx_inr, checkV_bad F hy hA.1, bx_inl, bc_inl, if_pos rfl]
    · unfold m_X8_toggle m_X8_toggle_18
      rw [areV_2 F hk hR.1 hG.1.1 h8 hy, bd_some, goes_1, goes_1, bd_some, if_pos rfl]
      split <;> rfl
  rcases Bad.or n (by omega) z with hz | ⟨w, hw, rfl⟩
  · refine Ok1.bad hJ h (c := 1) (r := 0) (by decide +kernel) ?_ ?_
    · unfold m_L_toggle m_X7_toggle
      rw [graphAt_ok F hk, bx_inr, checkV_ok F hv (by omega) hA.1, bx_inr, checkV_bad F hz hA.1, bx_inl, bc_inl, if_pos rfl]
    · unfold m_X8_toggle m_X8_toggle_18
      rw [areV_3 F hk hR.1 h8 hv hz, bd_some, goes_1, goes_1, bd_some, if_pos rfl]
      split <;> rfl
  by_cases hvw : v = w
  · subst hvw
    refine Ok1.bad hJ h (c := 2) (r := 0) (by decide +kernel) ?_ ?_
    · unfold m_L_toggle m_X7_toggle
      rw [graphAt_ok F hk, bx_inr, checkV_ok F hv (by omega) hA.1, bx_inr, checkV_ok F hv (by omega) hA.1, bx_inr, if_pos rfl, bc_inl, if_neg (by decide), if_pos rfl]
    · unfold m_X8_toggle m_X8_toggle_18
      rw [areV_ok F hk hR.1 h8 hv hv, bd_some, if_pos rfl, goes_2 F n10, bd_some, if_pos rfl]
  · have hne : ¬ nI v = nI w := fun z => hvw ((nI_eq (by omega) (by omega)).mp z)
    have hA' := flip_At (b := w) hA hvw
    have hG' := flip_Gr hG hv hw hvw
    have hlt : flipM M v w v < 2 ^ 31 := Nat.lt_of_lt_of_le (hG'.lt (v := v) (by omega)) (by omega)
    generalize hs1 : sI (sI σ (2 + 3 * k + 1) v (nI (flipM M v w v))) (2 + 3 * k + 1) w (nI (flipM M v w w)) = s1 at hA'
    have f1 : Fr (SK k) σ s1 := by
      rw [← hs1]
      exact (Fr.sI (by unfold SK SS; omega)).tr (Fr.sI (by unfold SK SS; omega))
    have hR1 : RAt k n M C s1 := by
      rw [← hs1]
      exact hR.mv ((Fr.sI (S := fun p _ => p = 2 + 3 * k + 1) rfl).tr (Fr.sI rfl)) (fun q j a b => by omega)
    generalize hb : (flipM M v w v).testBit w = b at *
    have hR2 : RAt k n M C (sI (sL s1 60 0 (bI b).toInt64) 46 16 0) := hR1.mv ((Fr.sL (S := fun p _ => p = 60 ∨ p = 46) (by simp)).tr (Fr.sI (by simp))) (fun q j a b => by omega)
    have hR3 := flip_RAt (b := w) hR2 hvw
    have hL : (if bI b = 0 then m_L_toggle_18 F 1 0 0 60 s1 else m_L_toggle_18 F 1 1 0 60 s1) = some (0, sL s1 60 0 (bI b).toInt64) := by
      unfold m_L_toggle_18
      cases b
      · rw [if_pos (by decide +kernel), out_at]; rfl
      · rw [if_neg (by decide +kernel), out_at]; rfl
    refine Ok1.st hJ h hk (r := bI b) (n := n) (M := flipM M v w) (C := C) (σ1 := sL s1 60 0 (bI b).toInt64) (σ2 := sI (sI (sI (sL s1 60 0 (bI b).toInt64) 46 16 0) 48 (8 * k + v) (nI (flipM M v w v))) 48 (8 * k + w) (nI (flipM M v w w))) ?_ ?_ hG' ?_ hR3 (f1.tr (Fr.sL (by unfold SK SS; omega))) ?_ ?_ ?_
    · unfold m_L_toggle m_X7_toggle
      rw [graphAt_ok F hk, bx_inr, checkV_ok F hv (by omega) hA.1, bx_inr, checkV_ok F hw (by omega) hA.1, bx_inr, if_neg hne, flip_cl F hG hA hv hw hvw, bv_some, hs1, hasE_cl F (by omega) (by omega) (hA'.2 v (by omega)).1 hlt, bd_some, gd_yes (bI_01 _), bc_inr, hb, hL]
    · unfold m_X8_toggle m_X8_toggle_18
      rw [areV_ok F hk (hR1.mv (Fr.sL (S := fun p _ => p = 60) rfl) (fun q j a b => by omega)).1 h8 hv hw, bd_some, if_neg hne, goes_0 F n10 n10, bd_some, if_neg n10, l8, pk_mul, nI_add, nI_add, ldI_at (by omega) (by omega), stI_at (by omega) (by omega), ldI_at (by omega) (by omega), stI_at (by omega) (by omega), gI_sI (sI (sL s1 60 0 (bI b).toInt64) 46 16 0) (46 + 2) (8 * k + v), if_neg (by omega)]
      simp only [Nat.reduceAdd]
      rw [(hR2.2 v (by omega)).1, (hR2.2 w (by omega)).1, shl1 (by omega), shl1 (by omega), b_xor, b_xor]
      have e1 : M v ^^^ 2 ^ w = flipM M v w v := by unfold flipM; rw [if_pos rfl]
      have e2 : M w ^^^ 2 ^ v = flipM M v w w := by unfold flipM; rw [if_neg (by omega), if_pos rfl]
      rw [e1, e2, hasE_ref F hk (by omega) (by omega) (hR3.2 v (by omega)).1 hlt, bd_some, gd_yes (bI_01 _), hb]
    · exact hA'.mv (((Fr.sL (S := fun p _ => p = 60 ∨ p = 46 ∨ p = 48) (by simp)).tr (Fr.sI (by simp))).tr ((Fr.sI (by simp)).tr (Fr.sI (by simp)))) (fun q j a b => by omega)
    · exact (Fr.sI (by unfold SK SS; omega)).tr ((Fr.sI (by unfold SK SS; omega)).tr (Fr.sI (by unfold SK SS; omega)))
    · rw [gI_sI, if_neg (by omega), gI_sI, if_neg (by omega), gI_same]
    · rw [gL_sI, gL_sI, gL_sI, gL_same]
end
