/-! MATHEMATICS, 47: leaves and prefixes -/
section
theorem cnt_seg (i j : Nat) (hij : i ≤ j) : ∀ n, cnt (fun k => decide (i ≤ k) && decide (k < j)) n = min n j - min n i
  | 0 => by rw [cnt_0]; simp
  | n + 1 => by
    rw [cnt_s, cnt_seg i j hij n]
    by_cases h1 : i ≤ n
    · by_cases h2 : n < j
      · rw [decide_eq_true h1, decide_eq_true h2]
        show _ + 1 = _
        omega
      · rw [decide_eq_true h1, decide_eq_false h2]
        show _ + 0 = _
        omega
    · rw [decide_eq_false h1, Bool.false_and]
      show _ + 0 = _
      omega
theorem nous_at {n : Nat} {w : Nat → Nat} (hw : IsN n w) {i k : Nat} : nous w i (w k) = true ↔ i ≤ k := by
  rw [nous_iff]
  constructor
  · intro h
    apply Classical.byContradiction
    intro z
    exact h k (by omega) rfl
  · intro h x hx e
    have := hw.inj e
    omega
theorem grd_inK {n : Nat} (hn : n ≤ 8) {M C w : Nat → Nat} (hw : IsN n w) (hg : Grd n M C w) {i j : Nat} (hij : i ≤ j) (hj : j < n) : inK n M C w i j (w j) = true := by
  rw [inK_iff]
  have e : ∀ s, low n M C w i s = cnt (fun k => nous w i (w k) && decide (sg M C w i (w k) < s)) n := fun s => (cntN hn hw (fun u => nous w i u && decide (sg M C w i u < s))).symm
  refine ⟨(nous_at hw).mpr hij, ?_, ?_⟩
  · rw [e]
    have h1 : cnt (fun k => nous w i (w k) && decide (sg M C w i (w k) < sg M C w i (w j))) n ≤ cnt (fun k => decide (i ≤ k) && decide (k < j)) n := cnt_mono (fun k hk z => by
      rw [Bool.and_eq_true, decide_eq_true_iff, nous_at hw] at z
      rw [Bool.and_eq_true, decide_eq_true_iff, decide_eq_true_iff]
      refine ⟨z.1, ?_⟩
      apply Classical.byContradiction
      intro y
      have := hg i j k hij (by omega) hk
      omega)
    rw [cnt_seg i j hij] at h1
    omega
  · rw [e]
    have h1 : cnt (fun k => decide (i ≤ k) && decide (k < j + 1)) n ≤ cnt (fun k => nous w i (w k) && decide (sg M C w i (w k) < sg M C w i (w j) + 1)) n := cnt_mono (fun k hk z => by
      rw [Bool.and_eq_true, decide_eq_true_iff, decide_eq_true_iff] at z
      rw [Bool.and_eq_true, decide_eq_true_iff, nous_at hw]
      have := hg i k j z.1 (by omega) hj
      exact ⟨z.1, by omega⟩)
    rw [cnt_seg i (j + 1) (by omega)] at h1
    omega
theorem lf_cd {n : Nat} (hn : n ≤ 8) {M C w : Nat → Nat} (h : Lf n M C w) {i : Nat} (hi : i < n) : Cd n M C w i (w i) := by
  obtain ⟨hw, hg, ht⟩ := h
  refine ⟨hw.lt hn hi, (nous_at hw).mpr (Nat.le_refl _), fun u hu hu2 => ?_, fun t htl hnt htw => ?_⟩
  · obtain ⟨k, hk, rfl⟩ := hw.onto hn hu
    exact hg i i k (Nat.le_refl _) ((nous_at hw).mp hu2) hk
  · have h1 := ht t (w i) htl (hw.lt hn hi) htw
    rw [iv_l hw.1] at h1
    exact (nous_iff w i t).mp hnt (iv w t) h1 (iv_r hw.1)
theorem sg_down {M C w : Nat → Nat} {i u v : Nat} : ∀ d, sg M C w (i + d) u ≤ sg M C w (i + d) v → sg M C w i u ≤ sg M C w i v
  | 0, h => h
  | d + 1, h => by
    refine sg_down d ?_
    rw [Nat.add_succ, sg, sg] at h
    revert h
    cases (M (w (i + d))).testBit u <;> cases (M (w (i + d))).testBit v <;> simp <;> omega
theorem cd_lf {n : Nat} (hn : n ≤ 8) {M C w : Nat → Nat} (hw : IsN n w) (h : ∀ i, i < n → Cd n M C w i (w i)) : Lf n M C w := by
  refine ⟨hw, fun i j k hij hjk hk => ?_, fun t v htv hv htw => ?_⟩
  · have := (h j (by omega)).2.2.1 (w k) (hw.lt hn hk) ((nous_at hw).mpr hjk)
    obtain ⟨d, rfl⟩ : ∃ d, j = i + d := ⟨j - i, by omega⟩
    exact sg_down d this
  · apply Classical.byContradiction
    intro z
    have hi := hw.iv.lt hn hv
    have hc := h (iv w v) hi
    rw [iv_r hw.1] at hc
    refine hc.2.2.2 t htv ((nous_iff w _ t).mpr (fun x hx e => ?_)) htw
    rw [← e, iv_l hw.1] at z
    omega
/-- arrangements with a prefix -/
def Agr (i : Nat) (w w' : Nat → Nat) : Prop := ∀ x, x < i → w' x = w x
theorem lf_pf {n : Nat} (hn : n ≤ 8) {M C w w' : Nat → Nat} (h : Lf n M C w') {i : Nat} (hi : i ≤ n) (ha : Agr i w w') : Pf n M C w i := by
  intro x hx
  have := lf_cd hn h (show x < n by omega)
  rw [ha x hx] at this
  exact this.cong (fun y hy => ha y (by omega))
/-- a full prefix is an arrangement -/
def ful (n : Nat) (w : Nat → Nat) (x : Nat) : Nat := if x < n then w x else x
theorem ful_N {n : Nat} (hn : n ≤ 8) {M C w : Nat → Nat} (h : Pf n M C w n) : IsN n (ful n w) := by
  refine IsN.mk hn (fun i hi => ?_) (fun i j hi hj e => ?_) (fun i hi => if_neg (by omega))
  · unfold ful; rw [if_pos hi]; exact (h i hi).1
  · unfold ful at e
    rw [if_pos hi, if_pos hj] at e
    rcases Nat.lt_trichotomy i j with z | z | z
    · exact absurd e ((nous_iff w j (w j)).mp (h j hj).2.1 i z)
    · exact z
    · exact absurd e.symm ((nous_iff w i (w i)).mp (h i hi).2.1 j z)
theorem ful_lf {n : Nat} (hn : n ≤ 8) {M C w : Nat → Nat} (h : Pf n M C w n) : Lf n M C (ful n w) := by
  refine cd_lf hn (ful_N hn h) (fun i hi => ?_)
  have e : ful n w i = w i := if_pos hi
  rw [e]
  exact (h i hi).cong (fun x hx => by unfold ful; rw [if_pos (by omega)])
theorem agr_ful {n : Nat} {w w' : Nat → Nat} (hw' : IsN n w') (h : Agr n w w') : w' = ful n w := by
  funext x
  unfold ful
  split
  · rename_i z; exact h x z
  · exact hw'.2 x (by omega)
/-- the edges of a row, as the cells tell them -/
theorem row_bit {n : Nat} (hn : n ≤ 8) {M C w' : Nat → Nat} (h : Lf n M C w') {i j : Nat} (hij : i < j) (hj : j < n) : inK n M C w' i j (w' j) = true ∧ w' j ≠ w' i ∧ ((M (w' i)).testBit (w' j) = true ↔ farn n M C w' i (w' i) (sg M C w' i (w' j)) ≤ j - stt n M C w' i (w' i) (sg M C w' i (w' j))) := by
  have h1 := grd_inK hn h.1 h.2.1 (show i + 1 ≤ j by omega) hj
  have h2 := (inK_next (lf_cd hn h (show i < n by omega)) (h.1.lt hn hj) hij).mp h1
  exact ⟨h2.1.1, h2.1.2, h2.2⟩
end

