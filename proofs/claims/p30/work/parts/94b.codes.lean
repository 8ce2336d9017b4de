/-! MATHEMATICS, 43: the codes of arrangements -/
section
/-- a number by its bits -/
def bn (d : Nat → Bool) : Nat → Nat
  | 0 => 0
  | n + 1 => bn d n + (d n).toNat * 2 ^ n
theorem bn_lt (d : Nat → Bool) : ∀ n, bn d n < 2 ^ n
  | 0 => by rw [bn]; omega
  | n + 1 => by
    have := bn_lt d n
    rw [bn, Nat.pow_succ]
    cases d n
    · show bn d n + 0 * _ < _; omega
    · show bn d n + 1 * _ < _; omega
theorem bn_bit (d : Nat → Bool) (k : Nat) : ∀ n, (bn d n).testBit k = (decide (k < n) && d k)
  | 0 => by rw [bn, Nat.zero_testBit]; simp
  | n + 1 => by
    rw [bn, Nat.add_comm, Nat.mul_comm, Nat.testBit_two_pow_mul_add _ (bn_lt d n)]
    by_cases h : k < n
    · rw [if_pos h, bn_bit d k n, decide_eq_true h, decide_eq_true (by omega)]
    · rw [if_neg h]
      by_cases e : k = n
      · subst e
        rw [Nat.sub_self, decide_eq_true (by omega)]
        cases d k <;> rfl
      · rw [decide_eq_false (by omega), Bool.false_and]
        have : (d n).toNat < 2 ^ (k - n) := by
          have h1 : (2 : Nat) ^ 1 ≤ 2 ^ (k - n) := Nat.pow_le_pow_right (by omega) (by omega)
          cases d n
          · show 0 < _; omega
          · show 1 < _; omega
        exact Nat.testBit_lt_two_pow this
theorem bn_first {d e : Nat → Bool} {i : Nat} : ∀ {m : Nat}, i < m → d i = false → e i = true → (∀ k, i < k → k < m → d k = e k) → bn d m < bn e m
  | 0, h, _, _, _ => absurd h (by omega)
  | m + 1, hi, h0, h1, he => by
    rw [bn, bn]
    by_cases z : i = m
    · subst z
      have := bn_lt d i
      rw [h0, h1]
      show _ + 0 * _ < _ + 1 * _
      omega
    · have := bn_first (m := m) (by omega) h0 h1 (fun k h3 h4 => he k h3 (by omega))
      rw [he m (by omega) (by omega)]
      omega
/-- the bit of the places i < j; the places of a bit -/
def LEB (i : Nat) : Nat := if i = 0 then 21 else if i = 1 then 15 else if i = 2 then 10 else if i = 3 then 6 else if i = 4 then 3 else if i = 5 then 1 else 0
def pb (i j : Nat) : Nat := LEB i + (7 - j)
def PI (b : Nat) : Nat := if 21 ≤ b then 0 else if 15 ≤ b then 1 else if 10 ≤ b then 2 else if 6 ≤ b then 3 else if 3 ≤ b then 4 else if 1 ≤ b then 5 else 6
def PJ (b : Nat) : Nat := 7 - (b - LEB (PI b))
theorem pb_ok : ∀ j, j < 8 → ∀ i, i < j → pb i j < 28 ∧ PI (pb i j) = i ∧ PJ (pb i j) = j := by decide +kernel
theorem pb_in : ∀ b, b < 28 → PI b < PJ b ∧ PJ b < 8 ∧ pb (PI b) (PJ b) = b := by decide +kernel
theorem pb_up : ∀ c, c < 28 → ∀ b, b < c → PI c < PI b ∨ (PI c = PI b ∧ PJ c < PJ b) := by decide +kernel
/-- the number of a relation of places -/
def ebd (n : Nat) (A : Nat → Nat → Bool) (b : Nat) : Bool := decide (PJ b < n) && A (PI b) (PJ b)
def eb (n : Nat) (A : Nat → Nat → Bool) : Nat := bn (ebd n A) 28
theorem eb_lt (n : Nat) (A : Nat → Nat → Bool) : eb n A < 2 ^ 28 := bn_lt _ _
theorem eb_bit {n : Nat} (hn : n ≤ 8) (A : Nat → Nat → Bool) {i j : Nat} (hij : i < j) (hj : j < n) : (eb n A).testBit (pb i j) = A i j := by
  obtain ⟨h1, h2, h3⟩ := pb_ok j (by omega) i hij
  unfold eb
  rw [bn_bit, decide_eq_true h1, Bool.true_and]
  unfold ebd
  rw [h2, h3, decide_eq_true hj, Bool.true_and]
theorem eb_inj {n : Nat} (hn : n ≤ 8) {A B : Nat → Nat → Bool} (h : eb n A = eb n B) {i j : Nat} (hij : i < j) (hj : j < n) : A i j = B i j := by
  rw [← eb_bit hn A hij hj, h, eb_bit hn B hij hj]
theorem eb_cong {n : Nat} {A B : Nat → Nat → Bool} (h : ∀ i j, i < j → j < n → A i j = B i j) : eb n A = eb n B := by
  apply Nat.eq_of_testBit_eq
  intro b
  unfold eb
  rw [bn_bit, bn_bit]
  by_cases hb : b < 28
  · unfold ebd
    by_cases hj : PJ b < n
    · rw [h _ _ (pb_in b hb).1 hj]
    · rw [decide_eq_false hj, Bool.false_and, Bool.false_and]
  · rw [decide_eq_false hb, Bool.false_and, Bool.false_and]
theorem eb_first {n : Nat} (hn : n ≤ 8) {A B : Nat → Nat → Bool} {i j : Nat} (hij : i < j) (hj : j < n) (h0 : A i j = false) (h1 : B i j = true) (he : ∀ x y, x < y → y < n → x < i ∨ (x = i ∧ y < j) → A x y = B x y) : eb n A < eb n B := by
  obtain ⟨e1, e2, e3⟩ := pb_ok j (by omega) i hij
  refine bn_first e1 ?_ ?_ (fun k h3 h4 => ?_)
  · unfold ebd; rw [e2, e3, h0, Bool.and_false]
  · unfold ebd; rw [e2, e3, h1, decide_eq_true hj]; rfl
  · unfold ebd
    have := pb_up k h4 _ h3
    rw [e2, e3] at this
    by_cases hk : PJ k < n
    · rw [he _ _ (pb_in k h4).1 hk this]
    · rw [decide_eq_false hk, Bool.false_and, Bool.false_and]
/-- edges and colours of an arrangement (place -> vertex); its code without the size -/
def ec (n : Nat) (M w : Nat → Nat) : Nat := eb n (fun i j => (M (w i)).testBit (w j))
def cw (n : Nat) (C w : Nat → Nat) : Nat := rv n (fun i => C (w i))
def cod (n : Nat) (M C w : Nat → Nat) : Nat := cw n C w * 2 ^ 28 + ec n M w
theorem cod_le {n : Nat} {M C w M' C' w' : Nat → Nat} (h : cod n M C w ≤ cod n M' C' w') : cw n C w ≤ cw n C' w' ∧ (cw n C w = cw n C' w' → ec n M w ≤ ec n M' w') := by
  have h1 := eb_lt n (fun i j => (M (w i)).testBit (w j))
  have h2 := eb_lt n (fun i j => (M' (w' i)).testBit (w' j))
  unfold cod at h
  unfold ec at *
  constructor <;> omega
theorem cod_inj {n : Nat} {M C w M' C' w' : Nat → Nat} (h : cod n M C w = cod n M' C' w') : cw n C w = cw n C' w' ∧ ec n M w = ec n M' w' := by
  have h1 := eb_lt n (fun i j => (M (w i)).testBit (w j))
  have h2 := eb_lt n (fun i j => (M' (w' i)).testBit (w' j))
  unfold cod at h
  unfold ec at *
  constructor <;> omega
/-- the least code -/
def Opt (n : Nat) (M C w : Nat → Nat) : Prop := IsN n w ∧ ∀ w', IsN n w' → cod n M C w ≤ cod n M C w'
theorem opt_ex (n : Nat) (M C : Nat → Nat) : ∃ w, Opt n M C w := min_ex (P := IsN n) (cod n M C) ⟨_, IsN.id n⟩
theorem Opt.same {n : Nat} {M C w w' : Nat → Nat} (h : Opt n M C w) (h' : Opt n M C w') : cod n M C w = cod n M C w' := Nat.le_antisymm (h.2 _ h'.1) (h'.2 _ h.1)
theorem Opt.of {n : Nat} {M C w w' : Nat → Nat} (h : Opt n M C w) (hw : IsN n w') (e : cod n M C w' = cod n M C w) : Opt n M C w' := ⟨hw, fun v hv => by rw [e]; exact h.2 v hv⟩
/-- colours rise along the places -/
def Asc (n : Nat) (C w : Nat → Nat) : Prop := ∀ i j, i ≤ j → j < n → C (w i) ≤ C (w j)
theorem asc_iff {n : Nat} (hn : n ≤ 8) {C w : Nat → Nat} (hw : IsN n w) (h : Asc n C w) (c : Nat) {i : Nat} (hi : i < n) : C (w i) < c ↔ i < cnt (fun v => decide (C v < c)) n := by
  have := down_cnt (P := fun i => decide (C (w i) < c)) (n := n) (fun i j h1 h2 h3 => by
    have := h i j h1 h2
    rw [decide_eq_true_iff] at h3 ⊢
    omega) i hi
  rw [decide_eq_true_iff, cntN hn hw (fun v => decide (C v < c))] at this
  exact this
theorem asc_same {n : Nat} (hn : n ≤ 8) {C w w' : Nat → Nat} (hw : IsN n w) (hw' : IsN n w') (h : Asc n C w) (h' : Asc n C w') {i : Nat} (hi : i < n) : C (w i) = C (w' i) := by
  have h1 := (asc_iff hn hw h (C (w' i)) hi).trans (asc_iff hn hw' h' (C (w' i)) hi).symm
  have h2 := (asc_iff hn hw h (C (w i)) hi).trans (asc_iff hn hw' h' (C (w i)) hi).symm
  omega
theorem opt_asc {n : Nat} (hn : n ≤ 8) {M C w : Nat → Nat} (hC : ∀ v, v < 8 → C v < 8) (h : Opt n M C w) : Asc n C w := by
  intro i j hij hj
  apply Classical.byContradiction
  intro z
  have hne : i ≠ j := fun e => z (by rw [e]; exact Nat.le_refl _)
  have hs := (sw_N hn (show i < n by omega) hj).comp h.1
  have h1 : cw n C (fun x => w (sw i j x)) < cw n C w := rv_first hn (i := i) (fun x hx => hC (w (sw i j x)) (by have : w (sw i j x) < n := hs.lt hn hx; omega)) (by omega) (by
    show C (w (sw i j i)) < C (w i)
    rw [sw_a]; omega) (fun k hk => by
    show C (w (sw i j k)) = C (w k)
    rw [sw_o (by omega) (by omega)])
  have h2 := (cod_le (h.2 _ hs)).1
  omega
/-- arrangements with rising colours have the same colours as the best -/
theorem asc_cw {n : Nat} (hn : n ≤ 8) {C w w' : Nat → Nat} (hw : IsN n w) (hw' : IsN n w') (h : Asc n C w) (h' : Asc n C w') : cw n C w = cw n C w' := rv_cong (fun _ hi => asc_same hn hw hw' h h' hi)
/-- the signature of a vertex, as the first i places tell it -/
def sg (M C w : Nat → Nat) : Nat → Nat → Nat
  | 0, v => C v
  | i + 1, v => 2 * sg M C w i v + ((M (w i)).testBit v).toNat
theorem tn_eq {a b : Nat} {x y : Bool} (h : 2 * a + x.toNat = 2 * b + y.toNat) : a = b ∧ x = y := by
  cases x <;> cases y <;> simp at h <;> simp <;> omega
theorem sg_eq {M C w : Nat → Nat} {u v : Nat} : ∀ {i : Nat}, sg M C w i u = sg M C w i v ↔ C u = C v ∧ ∀ x, x < i → (M (w x)).testBit u = (M (w x)).testBit v
  | 0 => ⟨fun h => ⟨h, fun x hx => absurd hx (by omega)⟩, fun h => h.1⟩
  | i + 1 => by
    constructor
    · intro h
      obtain ⟨h1, h2⟩ := tn_eq h
      obtain ⟨h3, h4⟩ := sg_eq.mp h1
      refine ⟨h3, fun x hx => ?_⟩
      by_cases z : x = i
      · rw [z]; exact h2
      · exact h4 x (by omega)
    · rintro ⟨h1, h2⟩
      rw [sg, sg, sg_eq.mpr ⟨h1, fun x hx => h2 x (by omega)⟩, h2 i (by omega)]
theorem sg_cong {M C w w' : Nat → Nat} {v : Nat} : ∀ {i : Nat}, (∀ x, x < i → w x = w' x) → sg M C w i v = sg M C w' i v
  | 0, _ => rfl
  | i + 1, h => by rw [sg, sg, sg_cong (fun x hx => h x (by omega)), h i (by omega)]
/-- what is left of the vertices rises by signatures, at each place -/
def Grd (n : Nat) (M C w : Nat → Nat) : Prop := ∀ i j k, i ≤ j → j ≤ k → k < n → sg M C w i (w j) ≤ sg M C w i (w k)
theorem grd_asc {n : Nat} {M C w : Nat → Nat} (h : Grd n M C w) : Asc n C w := fun i j h1 h2 => h 0 i j (Nat.zero_le _) h1 h2
theorem opt_grd {n : Nat} (hn : n ≤ 8) {M C w : Nat → Nat} (hG : Gr n M C) (h : Opt n M C w) : Grd n M C w := by
  have hC : ∀ v, v < 8 → C v < 8 := fun v hv => (hG.2 v hv).1
  intro i
  induction i with
  | zero => intro j k _ hjk hk; exact opt_asc hn hC h j k hjk hk
  | succ i ih =>
    intro j k hij hjk hk
    have h1 := ih j k (by omega) hjk hk
    apply Classical.byContradiction
    intro z
    rw [sg, sg] at z
    have hb : (M (w i)).testBit (w j) = true ∧ (M (w i)).testBit (w k) = false ∧ sg M C w i (w j) = sg M C w i (w k) := by
      cases ha : (M (w i)).testBit (w j) <;> cases hc : (M (w i)).testBit (w k) <;> rw [ha, hc] at z <;> simp at z <;> simp <;> omega
    obtain ⟨b1, b2, b3⟩ := hb
    obtain ⟨c1, c2⟩ := sg_eq.mp b3
    have hne : j ≠ k := fun e => by rw [e, b2] at b1; exact absurd b1 (by decide)
    have hs := (sw_N hn (show j < n by omega) hk).comp h.1
    have e1 : cw n C (fun x => w (sw j k x)) = cw n C w := rv_cong (fun x _ => by
      show C (w (sw j k x)) = C (w x)
      unfold sw
      split
      · rename_i e; rw [e, c1]
      · split
        · rename_i e; rw [e, c1]
        · rfl)
    have e2 : ec n M (fun x => w (sw j k x)) < ec n M w := by
      refine eb_first hn (i := i) (j := j) (by omega) (by omega) ?_ b1 (fun x y hxy hy ho => ?_)
      · show (M (w (sw j k i))).testBit (w (sw j k j)) = false
        rw [sw_o (by omega) (by omega), sw_a]; exact b2
      · show (M (w (sw j k x))).testBit (w (sw j k y)) = (M (w x)).testBit (w y)
        rw [sw_o (x := x) (by omega) (by omega)]
        rcases ho with ho | ⟨ho, hyj⟩
        · unfold sw
          split
          · rename_i e; rw [e, c2 x ho]
          · split
            · rename_i e; rw [e, c2 x ho]
            · rfl
        · rw [sw_o (by omega) (by omega)]
    have := (cod_le (h.2 _ hs)).2 e1.symm
    omega
end

