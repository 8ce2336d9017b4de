/-! MATHEMATICS, 55: the reference chooses vertices; what a map keeps -/
section
/-- the chosen vertices stand in a row -/
def Chs (t : Nat) (σ : zST) : Prop := ∀ v, v < 8 → t.testBit v = true → gI σ 51 (cnt (fun i => t.testBit i) v) = nI v
theorem full_bit {n v : Nat} : (2 ^ n - 1).testBit v = decide (v < n) := Nat.testBit_two_pow_sub_one n v
theorem full_cnt {n : Nat} : ∀ v, v ≤ n → cnt (fun i => (2 ^ n - 1).testBit i) v = v := fun v hv => cnt_all (fun i hi => by rw [full_bit]; exact decide_eq_true (by omega))
theorem full_pop {n : Nat} (hn : n ≤ 8) : pop (2 ^ n - 1) = n := by
  have e : 2 ^ n - 1 = msk (fun _ => true) n := by
    apply Nat.eq_of_testBit_eq
    intro v
    rw [full_bit, msk_bit, Bool.and_true]
  rw [e, msk_pop hn, cnt_all (fun _ _ => rfl)]
theorem full_chs {n : Nat} (hn : n ≤ 8) {σ : zST} (h : Chs (2 ^ n - 1) σ) : ∀ j, j < n → gI σ 51 j = nI j := fun j hj => by
  have := h j (by omega) (by rw [full_bit]; exact decide_eq_true hj)
  rwa [full_cnt j (by omega)] at this
/-- the map h keeps colours and edges of the first i vertices -/
def KPp (M C M2 C2 h : Nat → Nat) (i : Nat) : Prop := ∀ v, v < i → C v = C2 (h v) ∧ ∀ u, u < v → (M v).testBit u = (M2 (h v)).testBit (h u)
def KQp (M C M2 C2 h : Nat → Nat) (i j : Nat) : Prop := KPp M C M2 C2 h i ∧ C i = C2 (h i) ∧ ∀ u, u < j → (M i).testBit u = (M2 (h i)).testBit (h u)
theorem KPp_s (M C M2 C2 h : Nat → Nat) (i : Nat) : KPp M C M2 C2 h (i + 1) ↔ KQp M C M2 C2 h i i := by
  constructor
  · intro z
    exact ⟨fun v hv => z v (by omega), z i (by omega)⟩
  · rintro ⟨z1, z2⟩ v hv
    by_cases y : v = i
    · rw [y]; exact z2
    · exact z1 v (by omega)
theorem bI_no {b : Bool} (h : b = false) : bI b = 0 := by rw [h]; rfl
theorem bI_yes {b : Bool} (h : b = true) : bI b = 1 := by rw [h]; rfl
theorem dcI_0 {p : Prop} : bI (dc p) = 0 ↔ ¬ p := by
  rw [bI_0]
  constructor
  · intro h z; rw [dc_yes z] at h; exact absurd h (by decide)
  · exact dc_no
/-- maps onto the same number of vertices -/
theorem kp_iso {n : Nat} (hn : n ≤ 8) {M C M2 C2 q : Nat → Nat} (hG : Gr n M C) (hG2 : Gr n M2 C2) (hq : IsN n q) : KPp M C M2 C2 q n ↔ Iso n M C M2 C2 q := by
  constructor
  · intro h
    refine ⟨hq, fun v hv => (h v hv).1.symm, fun u v hu hv => ?_⟩
    have qu := hq.lt hn hu
    have qv := hq.lt hn hv
    rcases Nat.lt_trichotomy u v with z | z | z
    · rw [hG.sy (by omega) (by omega), hG2.sy (by omega) (by omega)]
      exact ((h v hv).2 u z).symm
    · subst z
      rw [(hG.2 u (by omega)).2.2.2.1, (hG2.2 (q u) (by omega)).2.2.2.1]
    · exact ((h u hu).2 v z).symm
  · intro h v hv
    exact ⟨(h.2.1 v hv).symm, fun u hu => (h.2.2 v u hv (by omega)).symm⟩
end

