/-! MATHEMATICS, 9: edges, complement -/
section
def sumTo (f : Nat → Nat) : Nat → Nat
  | 0 => 0
  | n + 1 => sumTo f n + f n
theorem sumTo_le (f : Nat → Nat) (b : Nat) : ∀ n, (∀ i, i < n → f i ≤ b) → sumTo f n ≤ n * b
  | 0, _ => Nat.zero_le _
  | n + 1, h => by
    have := sumTo_le f b n (fun i hi => h i (by omega))
    have := h n (by omega)
    rw [sumTo, Nat.succ_mul]; omega
theorem sumTo_cong {f g : Nat → Nat} : ∀ {n : Nat}, (∀ i, i < n → f i = g i) → sumTo f n = sumTo g n
  | 0, _ => rfl
  | n + 1, h => by rw [sumTo, sumTo, sumTo_cong (fun i hi => h i (by omega)), h n (by omega)]
theorem pop_eq (a : Nat) : pop a = (a.testBit 0).toNat + (a.testBit 1).toNat + (a.testBit 2).toNat + (a.testBit 3).toNat + (a.testBit 4).toNat + (a.testBit 5).toNat + (a.testBit 6).toNat + (a.testBit 7).toNat := by
  have t : ∀ b : Bool, (if b = true then 1 else 0) = b.toNat := by decide
  unfold pop
  rw [show List.range 8 = [0, 1, 2, 3, 4, 5, 6, 7] from rfl]
  simp only [List.countP_cons, List.countP_nil, t]
  omega
theorem pop_le (a : Nat) : pop a ≤ 8 := by
  rw [pop_eq]
  have t : ∀ b : Bool, b.toNat ≤ 1 := by decide
  have := t (a.testBit 0); have := t (a.testBit 1); have := t (a.testBit 2); have := t (a.testBit 3); have := t (a.testBit 4); have := t (a.testBit 5); have := t (a.testBit 6); have := t (a.testBit 7)
  omega
/-- pairs of adjacent vertices, as the reference counts them -/
def edgT (M : Nat → Nat) (t : Nat) : Nat := if t / 8 < t % 8 then ((M (t / 8)).testBit (t % 8)).toNat else 0
def edg (M : Nat → Nat) : Nat := sumTo (edgT M) 64
theorem edgT_le (M : Nat → Nat) (t : Nat) : edgT M t ≤ 1 := by
  unfold edgT; split
  · cases (M (t / 8)).testBit (t % 8) <;> decide
  · omega
theorem handshake {n : Nat} {M C : Nat → Nat} (h : Gr n M C) : sumTo (fun v => pop (M v)) n = 2 * edg M := by
  have e8 : ∀ d, n + d ≤ 8 → sumTo (fun v => pop (M v)) (n + d) = sumTo (fun v => pop (M v)) n := by
    intro d
    induction d with
    | zero => intro _; rfl
    | succ d ih =>
      intro hd
      rw [Nat.add_succ, sumTo, ih (by omega), (h.2 (n + d) (by omega)).2.2.1 (by omega)]
      rfl
  have h8 := h.1.2
  have := e8 (8 - n) (by omega)
  rw [show n + (8 - n) = 8 from by omega] at this
  rw [← this]
  have sy : ∀ u v, u < 8 → v < 8 → ((M u).testBit v).toNat = ((M v).testBit u).toNat := fun u v hu hv => congrArg _ ((h.2 v hv).2.2.2.2 u hu)
  have ir : ∀ v, v < 8 → ((M v).testBit v).toNat = 0 := fun v hv => by rw [(h.2 v hv).2.2.2.1]; rfl
  unfold edg
  simp only [sumTo, edgT, pop_eq, Nat.reduceDiv, Nat.reduceMod, Nat.reduceLT, if_true, if_false, ↓reduceIte, Nat.lt_irrefl]
  have z0 := ir 0 (by omega); have z1 := ir 1 (by omega); have z2 := ir 2 (by omega); have z3 := ir 3 (by omega)
  have z4 := ir 4 (by omega); have z5 := ir 5 (by omega); have z6 := ir 6 (by omega); have z7 := ir 7 (by omega)
  rw [sy 1 0 (by omega) (by omega), sy 2 0 (by omega) (by omega), sy 3 0 (by omega) (by omega), sy 4 0 (by omega) (by omega), sy 5 0 (by omega) (by omega), sy 6 0 (by omega) (by omega), sy 7 0 (by omega) (by omega),
    sy 2 1 (by omega) (by omega), sy 3 1 (by omega) (by omega), sy 4 1 (by omega) (by omega), sy 5 1 (by omega) (by omega), sy 6 1 (by omega) (by omega), sy 7 1 (by omega) (by omega),
    sy 3 2 (by omega) (by omega), sy 4 2 (by omega) (by omega), sy 5 2 (by omega) (by omega), sy 6 2 (by omega) (by omega), sy 7 2 (by omega) (by omega),
    sy 4 3 (by omega) (by omega), sy 5 3 (by omega) (by omega), sy 6 3 (by omega) (by omega), sy 7 3 (by omega) (by omega),
    sy 5 4 (by omega) (by omega), sy 6 4 (by omega) (by omega), sy 7 4 (by omega) (by omega),
    sy 6 5 (by omega) (by omega), sy 7 5 (by omega) (by omega), sy 7 6 (by omega) (by omega)]
  omega
theorem countE_cl (F : Nat) (hF : 8 < F) {p n : Nat} {M C : Nat → Nat} {σ : zST} (hG : Gr n M C) (hA : At p n M C σ) : m_X2_countEdges F p σ = some (nI (edg M), σ) := by
  have h8 := hG.1.2
  have hb : ∀ i, i ≤ 8 → sumTo (fun v => pop (M v)) i ≤ 64 := fun i hi => Nat.le_trans (sumTo_le _ 8 i (fun j _ => pop_le _)) (by omega)
  have h := up_loop0 (fun m (i : Int32) (s : Int32) => m_X2_countEdges_4 F m p s i σ) n (fun i => nI (sumTo (fun v => pop (M v)) i)) (some (nI (edg M), σ))
    (fun m i hi => by
      show m_X2_countEdges_4 F (m + 1) p _ (nI i) σ = _
      rw [m_X2_countEdges_4]; dsimp only
      rw [hA.1, if_neg (nI_ge hi (by omega)), ldI_at (by omega) (by omega), (hA.2 i (by omega)).1, bitCount_eq F (hG.lt (by omega)), bd_some, nm_eq, nm_eq, nI_add, nI_1]
      rfl)
    (fun m => by
      have := hb n h8
      show m_X2_countEdges_4 F (m + 1) p _ (nI n) σ = _
      rw [m_X2_countEdges_4]; dsimp only
      rw [hA.1, if_pos (nI_le (by omega) (by omega)), l2, pk_div (by omega) (by omega) (by omega), handshake hG, Nat.mul_div_cancel_left _ (by omega)]) (Nat.lt_of_le_of_lt h8 hF)
  exact h
theorem RAt.r {k n : Nat} {M C : Nat → Nat} {σ : zST} (hG : Gr n M C) (hR : RAt k n M C σ) : ∀ v, v < 8 → gI σ 48 (8 * k + v) = nI (M v) ∧ M v < 256 := fun v hv => ⟨(hR.2 v hv).1, hG.lt hv⟩
end

