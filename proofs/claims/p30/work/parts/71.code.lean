/-! MATHEMATICS, 19: drawers; the class's methods on codes -/
section
theorem pig : ∀ (m n : Nat) (f : Nat → Nat), (∀ i, i < n → f i < m) → (∀ i j, i < n → j < n → f i = f j → i = j) → n ≤ m
  | _, 0, _, _, _ => Nat.zero_le _
  | 0, n + 1, f, h, _ => absurd (h n (by omega)) (by omega)
  | m + 1, n + 1, f, h, hi => by
    have g := pig m n (fun i => if f i = m then f n else f i) (fun i hin => by
      show (if f i = m then f n else f i) < m
      split
      · rename_i e
        have := h n (by omega)
        have : f n ≠ m := fun z => by have := hi i n (by omega) (by omega) (e.trans z.symm); omega
        omega
      · have := h i (by omega)
        omega) (fun i j hin hjn e => by
      have e : (if f i = m then f n else f i) = (if f j = m then f n else f j) := e
      by_cases a : f i = m
      · by_cases b : f j = m
        · exact hi i j (by omega) (by omega) (a.trans b.symm)
        · rw [if_pos a, if_neg b] at e
          have := hi n j (by omega) (by omega) e
          omega
      · by_cases b : f j = m
        · rw [if_neg a, if_pos b] at e
          have := hi i n (by omega) (by omega) e
          omega
        · rw [if_neg a, if_neg b] at e
          exact hi i j (by omega) (by omega) e)
    omega
theorem pig_onto {n : Nat} {f : Nat → Nat} (h : ∀ i, i < n → f i < n) (hi : ∀ i j, i < n → j < n → f i = f j → i = j) {y : Nat} (hy : y < n) : ∃ i, i < n ∧ f i = y := by
  apply Classical.byContradiction
  intro z
  have := pig n (n + 1) (fun i => if i = n then y else f i) (fun i hin => by
    show (if i = n then y else f i) < n
    split
    · exact hy
    · exact h i (by omega)) (fun i j hin hjn e => by
    have e : (if i = n then y else f i) = (if j = n then y else f j) := e
    by_cases a : i = n
    · by_cases b : j = n
      · omega
      · rw [if_pos a, if_neg b] at e
        exact absurd ⟨j, by omega, e.symm⟩ z
    · by_cases b : j = n
      · rw [if_neg a, if_pos b] at e
        exact absurd ⟨i, by omega, e⟩ z
      · rw [if_neg a, if_neg b] at e
        exact hi i j (by omega) (by omega) e)
  omega
theorem IsP.onto {p : Nat → Nat} (hp : IsP p) {y : Nat} (hy : y < 8) : ∃ i, i < 8 ∧ p i = y := pig_onto hp.2.1 hp.2.2 hy
theorem L_shr {a : Nat} (ha : a < 2 ^ 63) {k : Nat} (hk : k < 64) : jlshr (lN a) (nI k) = lN (a / 2 ^ k) := by
  have hs : (((nI k).toInt64 &&& 63).toBitVec.smod 64).toNat = k := by
    revert k; decide +kernel
  have hq : a / 2 ^ k < 2 ^ 63 := Nat.lt_of_le_of_lt (Nat.div_le_self _ _) ha
  apply Int64.toInt_inj.mp
  show (BitVec.sshiftRight' (lN a).toBitVec (((nI k).toInt64 &&& 63).toBitVec.smod 64)).toInt = (lN (a / 2 ^ k)).toInt
  rw [BitVec.sshiftRight', hs, BitVec.toInt_sshiftRight]
  show (lN a).toInt >>> k = _
  rw [pk_lT ha, pk_lT hq, Int.shiftRight_eq_div_pow]
  norm_cast
theorem L_to32 (a : Nat) : (lN a).toInt32 = nI a := by
  apply Int32.toBitVec.inj
  show (BitVec.ofNat 64 a).signExtend 32 = BitVec.ofNat 32 a
  apply BitVec.eq_of_toNat_eq
  rw [BitVec.signExtend_eq_setWidth_of_le _ (by omega), BitVec.toNat_setWidth, BitVec.toNat_ofNat, BitVec.toNat_ofNat]
  omega
theorem imageOf_eq (F : Nat) {p : Nat → Nat} (hp : ∀ i, i < 8 → p i < 8) {i : Nat} (hi : i < 8) (σ : zST) : m_X5_imageOf F (lN (en p)) (nI i) σ = some (nI (p i), σ) := by
  unfold m_X5_imageOf
  have h16 : ∀ i, i < 8 → p i < 16 := fun i hi => by have := hp i hi; omega
  have hl := en_lt8 hp
  have hd := en_dig h16 hi
  have hp' := hp i hi
  rw [l4, pk_mul, L_shr (by omega) (by omega), L_to32, l7, b_and]
  have e : en p / 2 ^ (4 * i) &&& 7 = p i := by
    have := Nat.and_two_pow_sub_one_eq_mod (en p / 2 ^ (4 * i)) 3
    rw [show (2 : Nat) ^ 3 - 1 = 7 from rfl, show (2 : Nat) ^ 3 = 8 from rfl] at this
    omega
  rw [e]
theorem carrying_eq (F : Nat) {x v : Nat} (hx : x < 8) (hv : v < 8) (σ : zST) : m_X5_carrying F (nI x) (nI v) σ = some (lN (v * 2 ^ (4 * x)), σ) := by
  unfold m_X5_carrying
  rw [nI_l (by omega), l4, pk_mul, L_shl v (by omega)]
theorem en_cong {d e : Nat → Nat} (h : ∀ i, i < 8 → d i = e i) : en d = en e := by
  have : ∀ n, n ≤ 8 → enT d n = enT e n := by
    intro n
    induction n with
    | zero => intro _; rfl
    | succ n ih => intro hn; rw [enT, enT, ih (by omega), h n (by omega)]
  exact this 8 (by omega)
theorem en_0 : en (fun _ => 0) = 0 := by decide +kernel
theorem then_eq (F : Nat) (hF : 8 < F) {p q : Nat → Nat} (hp : ∀ i, i < 8 → p i < 8) (hq : ∀ i, i < 8 → q i < 8) (σ : zST) : m_X5_oneThenOther F (lN (en p)) (lN (en q)) σ = some (lN (en (fun i => q (p i))), σ) := by
  unfold m_X5_oneThenOther
  have h := up_loop0 (fun m (i : Int32) (s : Int64) => m_X5_oneThenOther_6 F m (lN (en p)) (lN (en q)) s i σ) 8 (fun i => lN (en (fun j => if j < i then q (p j) else 0))) (some (lN (en (fun i => q (p i))), σ))
    (fun m i hi => by
      have hqp := hq _ (hp i hi)
      show m_X5_oneThenOther_6 F (m + 1) (lN (en p)) (lN (en q)) _ (nI i) σ = _
      rw [m_X5_oneThenOther_6]; dsimp only
      rw [l8, if_neg (nI_ge hi (by omega)), imageOf_eq F hp hi, bd_some, imageOf_eq F hq (hp i hi), bd_some, carrying_eq F hi hqp, bd_some, L_or, nm_eq, nm_eq, nI_1, en_set (fun j hj => by
        show (if j < i then q (p j) else 0) < 16
        split
        · have := hq _ (hp j hj); omega
        · omega) hi (by omega) (by show (if i < i then _ else 0) = 0; rw [if_neg (by omega)])]
      rw [en_cong (d := fun j => if j = i then q (p i) else if j < i then q (p j) else 0) (e := fun j => if j < i + 1 then q (p j) else 0) (fun j hj => by
        show (if j = i then q (p i) else if j < i then q (p j) else 0) = if j < i + 1 then q (p j) else 0
        by_cases a : j = i
        · subst a; rw [if_pos rfl, if_pos (by omega)]
        · rw [if_neg a]
          by_cases b : j < i
          · rw [if_pos b, if_pos (by omega)]
          · rw [if_neg b, if_neg (by omega)])])
    (fun m => by
      show m_X5_oneThenOther_6 F (m + 1) (lN (en p)) (lN (en q)) _ (nI 8) σ = _
      rw [m_X5_oneThenOther_6]; dsimp only
      rw [l8, if_pos (nI_le (by omega) (by omega)), en_cong (e := fun i => q (p i)) (fun j hj => if_pos hj)]) hF
  rw [en_cong (e := fun _ => 0) (fun j hj => if_neg (by omega)), en_0] at h
  exact h
/-- the inverse, its first i digits known -/
def ivT (p : Nat → Nat) : Nat → Nat → Nat
  | 0, _ => 0
  | i + 1, y => if y = p i then i else ivT p i y
def iv (p : Nat → Nat) (y : Nat) : Nat := if y < 8 then ivT p 8 y else y
theorem ivT_none {p : Nat → Nat} {y : Nat} : ∀ {n : Nat}, (∀ i, i < n → p i ≠ y) → ivT p n y = 0
  | 0, _ => rfl
  | n + 1, h => by rw [ivT, if_neg (fun z => h n (by omega) z.symm), ivT_none (fun i hi => h i (by omega))]
theorem ivT_at {p : Nat → Nat} {i : Nat} : ∀ {n : Nat}, i < n → (∀ j, j < n → p j = p i → j = i) → ivT p n (p i) = i
  | 0, h, _ => absurd h (by omega)
  | n + 1, h, hj => by
    rw [ivT]
    by_cases e : p i = p n
    · rw [if_pos e]; exact hj n (by omega) e.symm
    · rw [if_neg e]
      have : i ≠ n := fun z => e (by rw [z])
      exact ivT_at (by omega) (fun j h => hj j (by omega))
theorem ivT_lt (p : Nat → Nat) (y : Nat) : ∀ n, ivT p n y < 8 ∨ 8 < n
  | 0 => Or.inl (by rw [ivT]; omega)
  | n + 1 => by
    rcases ivT_lt p y n with h | h
    · by_cases e : n < 8
      · left; rw [ivT]; split <;> omega
      · right; omega
    · right; omega
theorem iv_l {p : Nat → Nat} (hp : IsP p) {i : Nat} : iv p (p i) = i := by
  unfold iv
  by_cases hi : i < 8
  · rw [if_pos (hp.2.1 i hi)]
    exact ivT_at hi (fun j hj e => hp.2.2 j i hj hi e)
  · rw [hp.1 i (by omega), if_neg hi]
theorem iv_lt {p : Nat → Nat} {y : Nat} (h : y < 8) : iv p y < 8 := by
  unfold iv
  rw [if_pos h]
  have := ivT_lt p y 8
  omega
theorem iv_r {p : Nat → Nat} (hp : IsP p) {y : Nat} : p (iv p y) = y := by
  by_cases hy : y < 8
  · obtain ⟨i, hi, rfl⟩ := hp.onto hy
    rw [iv_l hp]
  · have : iv p y = y := by unfold iv; rw [if_neg hy]
    rw [this, hp.1 y (by omega)]
theorem IsP.iv {p : Nat → Nat} (hp : IsP p) : IsP (iv p) := ⟨fun i hi => by
  show (if i < 8 then _ else i) = i
  rw [if_neg (by omega)], fun i hi => iv_lt hi, fun i j hi hj e => by
  rw [← iv_r hp (y := i), e, iv_r hp]⟩
theorem inv_eq (F : Nat) (hF : 8 < F) {p : Nat → Nat} (hp : IsP p) (σ : zST) : m_X5_inverse F (lN (en p)) σ = some (lN (en (iv p)), σ) := by
  unfold m_X5_inverse
  have h := up_loop0 (fun m (i : Int32) (s : Int64) => m_X5_inverse_5 F m (lN (en p)) s i σ) 8 (fun i => lN (en (ivT p i))) (some (lN (en (iv p)), σ))
    (fun m i hi => by
      have hpi := hp.2.1 i hi
      show m_X5_inverse_5 F (m + 1) (lN (en p)) _ (nI i) σ = _
      rw [m_X5_inverse_5]; dsimp only
      rw [l8, if_neg (nI_ge hi (by omega)), imageOf_eq F hp.2.1 hi, bd_some, carrying_eq F hpi (by omega), bd_some, L_or, nm_eq, nm_eq, nI_1, en_set (fun j hj => by
        have := ivT_lt p j i
        omega) hpi (by omega) (ivT_none (fun j hj e => by have := hp.2.2 j i (by omega) hi e; omega))]
      rfl)
    (fun m => by
      show m_X5_inverse_5 F (m + 1) (lN (en p)) _ (nI 8) σ = _
      rw [m_X5_inverse_5]; dsimp only
      rw [l8, if_pos (nI_le (by omega) (by omega)), en_cong (e := iv p) (fun j hj => by unfold iv; rw [if_pos hj])]) hF
  rw [show en (ivT p 0) = 0 from en_0] at h
  exact h
end

