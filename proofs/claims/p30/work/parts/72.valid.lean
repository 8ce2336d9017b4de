/-! MATHEMATICS, 20: which numbers are permutations, on both sides -/
section
def Hit (d : Nat → Nat) : Prop := ∀ y, y < 8 → ∃ j, j < 8 ∧ d j = y
theorem hit_perm {d : Nat → Nat} (h : Hit d) : IsP (fun i => if i < 8 then d i else i) ∧ ∀ i, i < 8 → d i < 8 := by
  have hc : ∃ g : Nat → Nat, ∀ y, y < 8 → g y < 8 ∧ d (g y) = y := ⟨fun y => if q : y < 8 then Classical.choose (h y q) else 0, fun y q => by
    show (if q : y < 8 then Classical.choose (h y q) else 0) < 8 ∧ d (if q : y < 8 then Classical.choose (h y q) else 0) = y
    rw [dif_pos q]; exact Classical.choose_spec (h y q)⟩
  obtain ⟨g, hg⟩ := hc
  have hi : ∀ i j, i < 8 → j < 8 → g i = g j → i = j := fun i j a b e => by rw [← (hg i a).2, e, (hg j b).2]
  have ho : ∀ i, i < 8 → ∃ y, y < 8 ∧ g y = i := fun i q => pig_onto (fun y q => (hg y q).1) hi q
  have h8 : ∀ i, i < 8 → d i < 8 := fun i q => by
    obtain ⟨y, a, b⟩ := ho i q
    rw [← b, (hg y a).2]; exact a
  refine ⟨⟨fun i q => if_neg (by omega), fun i q => by show (if i < 8 then d i else i) < 8; rw [if_pos q]; exact h8 i q, fun i j a b e => ?_⟩, h8⟩
  have e : (if i < 8 then d i else i) = (if j < 8 then d j else j) := e
  rw [if_pos a, if_pos b] at e
  obtain ⟨y, a1, b1⟩ := ho i a
  obtain ⟨z, a2, b2⟩ := ho j b
  rw [← b1, ← b2, (hg y a1).2, (hg z a2).2] at e
  rw [← b1, ← b2, e]
theorem perm_hit {p : Nat → Nat} (hp : IsP p) : Hit p := fun _ hy => hp.onto hy
/-- the digits seen, as bits -/
def mset (d : Nat → Nat) (P : Nat → Bool) : Nat → Nat
  | 0 => 0
  | i + 1 => mset d P i ||| (if P (d i) then 2 ^ d i else 0)
theorem mset_bit (d : Nat → Nat) (P : Nat → Bool) (y : Nat) : ∀ n, (mset d P n).testBit y = true ↔ ∃ j, j < n ∧ d j = y ∧ P y = true
  | 0 => by
    rw [mset, Nat.zero_testBit]
    constructor
    · intro z; exact absurd z (by decide)
    · rintro ⟨j, hj, _⟩; exact absurd hj (by omega)
  | n + 1 => by
    rw [mset, Nat.testBit_or, Bool.or_eq_true, mset_bit d P y n]
    constructor
    · rintro (⟨j, hj, e⟩ | h)
      · exact ⟨j, by omega, e⟩
      · split at h
        · rename_i q
          rw [Nat.testBit_two_pow] at h
          have e : d n = y := by simpa using h
          exact ⟨n, by omega, e, by rw [← e]; exact q⟩
        · rw [Nat.zero_testBit] at h; exact absurd h (by decide)
    · rintro ⟨j, hj, e, q⟩
      by_cases z : j = n
      · subst z
        right
        rw [e, if_pos q, Nat.testBit_two_pow]; simp
      · exact Or.inl ⟨j, by omega, e, q⟩
theorem mset_255 {d : Nat → Nat} {P : Nat → Bool} (h8 : ∀ y, y < 8 → P y = true) : (mset d P 8 = 255 → Hit d) ∧ (Hit d → mset d P 8 = 255) := by
  have b : ∀ y, (255 : Nat).testBit y = decide (y < 8) := fun y => Nat.testBit_two_pow_sub_one (n := 8) (i := y)
  constructor
  · intro h y hy
    have := (mset_bit d P y 8).mp (by rw [h, b, decide_eq_true hy])
    obtain ⟨j, a, e, _⟩ := this
    exact ⟨j, a, e⟩
  · intro h
    apply Nat.eq_of_testBit_eq
    intro y
    rw [b, Bool.eq_iff_iff, mset_bit]
    constructor
    · rintro ⟨j, a, e, _⟩
      have := (hit_perm h).2 j a
      exact decide_eq_true (by omega)
    · intro z
      have hy : y < 8 := of_decide_eq_true z
      obtain ⟨j, a, e⟩ := h y hy
      exact ⟨j, a, e, h8 y hy⟩
theorem mset_lt {d : Nat → Nat} {P : Nat → Bool} (h : ∀ i, i < 8 → d i < 16) : ∀ n, n ≤ 8 → mset d P n < 2 ^ 16
  | 0, _ => by rw [mset]; omega
  | n + 1, hn => by
    rw [mset]
    refine Nat.or_lt_two_pow (mset_lt h n (by omega)) ?_
    split
    · exact Nat.pow_lt_pow_right (by omega) (h n (by omega))
    · omega
theorem dig_L (d : Nat → Nat) (h : ∀ i, i < 8 → d i < 16) {i : Nat} (hi : i < 8) : jlshr (lN (en d)) (4 * nI i) &&& 15 = lN (d i) := by
  have hl := en_lt h
  rw [l4, pk_mul, L_shr (by omega) (by omega), show (15 : Int64) = lN 15 from rfl, L_and]
  have e : en d / 2 ^ (4 * i) &&& 15 = d i := by
    have a := Nat.and_two_pow_sub_one_eq_mod (en d / 2 ^ (4 * i)) 4
    rw [show (2 : Nat) ^ 4 - 1 = 15 from rfl, show (2 : Nat) ^ 4 = 16 from rfl] at a
    rw [a, en_dig h hi]
  rw [e]
theorem isOne_in (F : Nat) (hF : 8 < F) {d : Nat → Nat} (h : ∀ i, i < 8 → d i < 16) (σ : zST) : (Hit d → m_X5_isOne F (lN (en d)) σ = some (1, σ)) ∧ (¬ Hit d → m_X5_isOne F (lN (en d)) σ = some (0, σ)) := by
  have hl := en_lt h
  have e0 : lg_cmp (jlushr (lN (en d)) 32) 0 = 0 := by
    have : jlushr (lN (en d)) 32 = 0 := by
      apply Int64.toBitVec.inj
      show (BitVec.ofNat 64 (en d)) >>> (32 : BitVec 64) = 0
      apply BitVec.eq_of_toNat_eq
      rw [BitVec.ushiftRight_eq', BitVec.toNat_ushiftRight, BitVec.toNat_ofNat, Nat.shiftRight_eq_div_pow]
      show (en d % 2 ^ 64) / 2 ^ 32 = 0
      omega
    rw [this]; decide +kernel
  have hloop : m_X5_isOne F (lN (en d)) σ = (if nI (mset d (fun _ => true) 8) = 255 then some (1, σ) else some (0, σ)) := by
    unfold m_X5_isOne
    rw [if_pos e0]
    exact up_loop0 (fun m (i : Int32) (s : Int32) => m_X5_isOne_15 F m (lN (en d)) s i σ) 8 (fun i => nI (mset d (fun _ => true) i)) _
      (fun m i hi => by
        have := h i hi
        show m_X5_isOne_15 F (m + 1) (lN (en d)) _ (nI i) σ = _
        rw [m_X5_isOne_15]; dsimp only
        rw [l8, if_neg (nI_ge hi (by omega)), dig_L d h hi, L_to32, shl1 (by omega), b_or, nm_eq, nm_eq, nI_1]
        rfl)
      (fun m => by
        show m_X5_isOne_15 F (m + 1) (lN (en d)) _ (nI 8) σ = _
        rw [m_X5_isOne_15]; dsimp only
        rw [l8, if_pos (nI_le (by omega) (by omega))]) hF
  have hm := mset_lt (P := fun _ => true) h 8 (Nat.le_refl 8)
  have h2 := mset_255 (d := d) (P := fun _ => true) (fun _ _ => rfl)
  rw [hloop, show (255 : Int32) = nI 255 from rfl]
  constructor
  · intro z; rw [if_pos (by rw [h2.2 z])]
  · intro z; rw [if_neg (fun q => z (h2.1 ((nI_eq (by omega) (by omega)).mp q)))]
theorem cmp_lt0 {a : Nat} (ha : a < 2 ^ 63) : ¬ lg_cmp (lN a) 0 < 0 := by
  have := (cmp_ge ha (show 0 < 2 ^ 63 by omega)).mpr (Nat.zero_le a)
  intro z
  exact Int32.lt_irrefl (Int32.lt_of_lt_of_le z this)
end

