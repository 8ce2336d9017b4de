/-! MATHEMATICS, 46: cells -/
section
/-- how many of what is left have a lower signature; the cell of a place -/
def low (n : Nat) (M C w : Nat → Nat) (i s : Nat) : Nat := cnt (fun u => nous w i u && decide (sg M C w i u < s)) n
def inK (n : Nat) (M C w : Nat → Nat) (i j v : Nat) : Bool := nous w i v && (decide (i + low n M C w i (sg M C w i v) ≤ j) && decide (j < i + low n M C w i (sg M C w i v + 1)))
theorem inK_iff {n : Nat} {M C w : Nat → Nat} {i j v : Nat} : inK n M C w i j v = true ↔ nous w i v = true ∧ i + low n M C w i (sg M C w i v) ≤ j ∧ j < i + low n M C w i (sg M C w i v + 1) := by
  unfold inK
  rw [Bool.and_eq_true, Bool.and_eq_true, decide_eq_true_iff, decide_eq_true_iff]
theorem nous_cong {w w' : Nat → Nat} {i v : Nat} (h : ∀ x, x < i → w x = w' x) : nous w i v = nous w' i v := by
  rw [Bool.eq_iff_iff, nous_iff, nous_iff]
  constructor
  · intro z x hx; rw [← h x hx]; exact z x hx
  · intro z x hx; rw [h x hx]; exact z x hx
theorem low_cong {n : Nat} {M C w w' : Nat → Nat} {i s : Nat} (h : ∀ x, x < i → w x = w' x) : low n M C w i s = low n M C w' i s := by
  unfold low
  exact cnt_cong (fun u _ => by rw [nous_cong h, sg_cong h])
theorem inK_cong {n : Nat} {M C w w' : Nat → Nat} {i j v : Nat} (h : ∀ x, x < i → w x = w' x) : inK n M C w i j v = inK n M C w' i j v := by
  unfold inK
  rw [nous_cong h, sg_cong h, low_cong h, low_cong h]
theorem low_mono {n : Nat} {M C w : Nat → Nat} {i s t : Nat} (h : s ≤ t) : low n M C w i s ≤ low n M C w i t := cnt_mono (fun u _ z => by
  rw [Bool.and_eq_true, decide_eq_true_iff] at z ⊢
  exact ⟨z.1, by omega⟩)
/-- the prefix is a good one: each vertex is one of those left, with the least signature, and no lower twin is left -/
def Cd (n : Nat) (M C w : Nat → Nat) (i v : Nat) : Prop := v < n ∧ nous w i v = true ∧ (∀ u, u < n → nous w i u = true → sg M C w i v ≤ sg M C w i u) ∧ ∀ t, t < v → nous w i t = true → ¬ Twn M C t v
def Pf (n : Nat) (M C w : Nat → Nat) (i : Nat) : Prop := ∀ x, x < i → Cd n M C w x (w x)
theorem Cd.cong {n : Nat} {M C w w' : Nat → Nat} {i v : Nat} (h : ∀ x, x < i → w x = w' x) (hc : Cd n M C w i v) : Cd n M C w' i v := by
  obtain ⟨a, b, c, d⟩ := hc
  have e : ∀ u, nous w' i u = nous w i u := fun u => nous_cong (fun x hx => (h x hx).symm)
  refine ⟨a, by rw [e]; exact b, fun u hu hn => ?_, fun t ht hn => d t ht (by rw [← e]; exact hn)⟩
  rw [sg_cong (w := w') (w' := w) (fun x hx => (h x hx).symm), sg_cong (w := w') (w' := w) (fun x hx => (h x hx).symm)]
  exact c u hu (by rw [← e]; exact hn)
theorem nous_s {w : Nat → Nat} {i u : Nat} : nous w (i + 1) u = (nous w i u && decide (u ≠ w i)) := by
  rw [Bool.eq_iff_iff, Bool.and_eq_true, nous_iff, nous_iff, decide_eq_true_iff]
  constructor
  · intro h
    exact ⟨fun x hx => h x (by omega), fun e => h i (by omega) e.symm⟩
  · rintro ⟨h1, h2⟩ x hx
    by_cases z : x = i
    · rw [z]; exact fun e => h2 e.symm
    · exact h1 x (by omega)
/-- taking one away -/
theorem cnt_minus {P : Nat → Bool} {n v : Nat} (hv : v < n) (h : P v = true) : cnt P n = cnt (fun u => P u && decide (u ≠ v)) n + 1 := by
  have h1 := cnt_or (P := fun u => P u && decide (u ≠ v)) (Q := fun u => decide (u = v)) (n := n) (fun u _ z => by
    rw [Bool.and_eq_true, decide_eq_true_iff, decide_eq_true_iff] at z
    exact z.1.2 z.2)
  rw [cnt_one (P := fun u => decide (u = v)) (j := v) hv (decide_eq_true rfl) (fun u _ hne => decide_eq_false hne)] at h1
  rw [← h1]
  refine cnt_cong (fun u _ => ?_)
  by_cases z : u = v
  · rw [z, h, decide_eq_true rfl, Bool.or_true]
  · rw [decide_eq_false z, Bool.or_false, decide_eq_true z, Bool.and_true]
theorem rem_cnt {n : Nat} {M C w : Nat → Nat} : ∀ i, Pf n M C w i → cnt (nous w i) n + i = n
  | 0, _ => by
    rw [cnt_all (fun u _ => (nous_iff w 0 u).mpr (fun x hx => absurd hx (by omega)))]; rfl
  | i + 1, h => by
    have ih := rem_cnt i (fun x hx => h x (by omega))
    obtain ⟨a, b, _, _⟩ := h i (by omega)
    have := cnt_minus a b
    rw [cnt_cong (Q := fun u => nous w i u && decide (u ≠ w i)) (fun u _ => nous_s)]
    omega
theorem low_top {n : Nat} {M C w : Nat → Nat} {i : Nat} : ∃ s, low n M C w i s = cnt (nous w i) n := by
  obtain ⟨v, _, hv⟩ : ∃ v, v < n + 1 ∧ ∀ u, u < n + 1 → sg M C w i u ≤ sg M C w i v := max_ex (sg M C w i) (by omega)
  exact ⟨sg M C w i v + 1, cnt_cong (fun u hu => by
    rw [decide_eq_true (show sg M C w i u < sg M C w i v + 1 from by have := hv u (by omega); omega), Bool.and_true])⟩
/-- no cell is empty -/
theorem inK_ex {n : Nat} {M C w : Nat → Nat} {i j : Nat} (h : Pf n M C w i) (hi : i ≤ j) (hj : j < n) : ∃ u, u < n ∧ inK n M C w i j u = true := by
  obtain ⟨s, hs⟩ := low_top (n := n) (M := M) (C := C) (w := w) (i := i)
  have hr := rem_cnt i h
  obtain ⟨m, _, h1, h2⟩ := least_of (P := fun s => j - i < low n M C w i (s + 1)) (n := s) (by
    have := low_mono (n := n) (M := M) (C := C) (w := w) (i := i) (show s ≤ s + 1 by omega)
    show j - i < _
    omega)
  have hm : low n M C w i m ≤ j - i := by
    cases m with
    | zero =>
      have : low n M C w i 0 = 0 := cnt_none (fun u _ => by
        rw [decide_eq_false (by omega), Bool.and_false])
      omega
    | succ m =>
      have := h2 m (by omega)
      omega
  have : ∃ u, u < n ∧ nous w i u = true ∧ sg M C w i u = m := by
    apply Classical.byContradiction
    intro z
    have : low n M C w i (m + 1) = low n M C w i m := cnt_cong (fun u hu => by
      rw [Bool.eq_iff_iff, Bool.and_eq_true, Bool.and_eq_true, decide_eq_true_iff, decide_eq_true_iff]
      constructor
      · rintro ⟨a, b⟩
        refine ⟨a, ?_⟩
        have : sg M C w i u ≠ m := fun e => z ⟨u, hu, a, e⟩
        omega
      · rintro ⟨a, b⟩
        exact ⟨a, by omega⟩)
    omega
  obtain ⟨u, hu, a, e⟩ := this
  refine ⟨u, hu, inK_iff.mpr ⟨a, ?_, ?_⟩⟩
  · rw [e]; omega
  · rw [e]; omega
/-- a cell is what is left of one signature -/
theorem inK_sg {n : Nat} {M C w : Nat → Nat} {i j u v : Nat} (hu : inK n M C w i j u = true) (hv : inK n M C w i j v = true) : sg M C w i u = sg M C w i v := by
  obtain ⟨_, a, b⟩ := inK_iff.mp hu
  obtain ⟨_, c, d⟩ := inK_iff.mp hv
  rcases Nat.lt_trichotomy (sg M C w i u) (sg M C w i v) with z | z | z
  · have := low_mono (n := n) (M := M) (C := C) (w := w) (i := i) (show sg M C w i u + 1 ≤ sg M C w i v by omega)
    omega
  · exact z
  · have := low_mono (n := n) (M := M) (C := C) (w := w) (i := i) (show sg M C w i v + 1 ≤ sg M C w i u by omega)
    omega
theorem inK_of {n : Nat} {M C w : Nat → Nat} {i j u v : Nat} (hu : inK n M C w i j u = true) (hv : nous w i v = true) (e : sg M C w i v = sg M C w i u) : inK n M C w i j v = true := by
  obtain ⟨_, a, b⟩ := inK_iff.mp hu
  rw [inK_iff, e]
  exact ⟨hv, a, b⟩
/-- the first cell holds the least signatures -/
theorem inK_first {n : Nat} {M C w : Nat → Nat} {i v : Nat} (hv : v < n) : inK n M C w i i v = true ↔ nous w i v = true ∧ ∀ u, u < n → nous w i u = true → sg M C w i v ≤ sg M C w i u := by
  rw [inK_iff]
  constructor
  · rintro ⟨a, b, _⟩
    refine ⟨a, fun u hu hn => ?_⟩
    apply Classical.byContradiction
    intro z
    have : 0 < low n M C w i (sg M C w i v) := by
      have h1 : low n M C w i (sg M C w i v) ≥ cnt (fun x => decide (x = u)) n := cnt_mono (fun x _ hx => by
        rw [decide_eq_true_iff] at hx
        rw [hx, hn, Bool.true_and]
        exact decide_eq_true (by omega))
      rw [cnt_one (j := u) hu (decide_eq_true rfl) (fun x _ hne => decide_eq_false hne)] at h1
      omega
    omega
  · rintro ⟨a, b⟩
    have h0 : low n M C w i (sg M C w i v) = 0 := cnt_none (fun u hu => by
      cases e : nous w i u
      · rfl
      · rw [Bool.true_and]
        exact decide_eq_false (by have := b u hu e; omega))
    refine ⟨a, by omega, ?_⟩
    have h1 : low n M C w i (sg M C w i v + 1) ≥ cnt (fun x => decide (x = v)) n := cnt_mono (fun x _ hx => by
      rw [decide_eq_true_iff] at hx
      rw [hx, a, Bool.true_and]
      exact decide_eq_true (by omega))
    rw [cnt_one (j := v) hv (decide_eq_true rfl) (fun x _ hne => decide_eq_false hne)] at h1
    omega
/-- where a cell starts behind the chosen place; how many of it are far -/
def stt (n : Nat) (M C w : Nat → Nat) (i v t : Nat) : Nat := if t = sg M C w i v then i + 1 else i + low n M C w i t
def farn (n : Nat) (M C w : Nat → Nat) (i v t : Nat) : Nat := cnt (fun u => (nous w i u && decide (u ≠ v)) && (decide (sg M C w i u = t) && !(M v).testBit u)) n
theorem tri_b (s t : Nat) (b : Bool) : decide (2 * s + b.toNat < 2 * t + 1) = (decide (s < t) || (decide (s = t) && !b)) := by
  rw [Bool.eq_iff_iff]
  cases b <;> simp <;> omega
/-- the new cells -/
theorem inK_next {n : Nat} {M C w : Nat → Nat} {i j x : Nat} (hc : Cd n M C w i (w i)) (hx : x < n) (hij : i < j) : inK n M C w (i + 1) j x = true ↔ (inK n M C w i j x = true ∧ x ≠ w i) ∧ ((M (w i)).testBit x = true ↔ farn n M C w i (w i) (sg M C w i x) ≤ j - stt n M C w i (w i) (sg M C w i x)) := by
  obtain ⟨hv, hvn, hvl, _⟩ := hc
  rw [inK_iff, inK_iff, nous_s, Bool.and_eq_true, decide_eq_true_iff]
  by_cases hxr : nous w i x = true ∧ x ≠ w i
  case neg =>
    constructor
    · intro h; exact absurd h.1 hxr
    · intro h; exact absurd ⟨h.1.1.1, h.1.2⟩ hxr
  have hle := hvl x hx hxr.1
  generalize ht : sg M C w i x = t at *
  -- the three counts
  have hA : cnt (fun u => (nous w i u && decide (u ≠ w i)) && decide (sg M C w i u < t)) n = (if sg M C w i (w i) < t then low n M C w i t - 1 else 0) := by
    split
    · rename_i z
      have := cnt_minus (P := fun u => nous w i u && decide (sg M C w i u < t)) hv (by rw [hvn, decide_eq_true z]; rfl)
      have e : low n M C w i t = cnt (fun u => nous w i u && decide (sg M C w i u < t)) n := rfl
      rw [e, this, Nat.add_sub_cancel]
      refine cnt_cong (fun u _ => ?_)
      cases nous w i u <;> cases decide (u ≠ w i) <;> cases decide (sg M C w i u < t) <;> rfl
    · rename_i z
      refine cnt_none (fun u hu => ?_)
      cases e : nous w i u
      · rfl
      · rw [decide_eq_false (show ¬ sg M C w i u < t from by have := hvl u hu e; omega), Bool.and_false]
  have hB : cnt (fun u => (nous w i u && decide (u ≠ w i)) && decide (sg M C w i u < t + 1)) n = (if sg M C w i (w i) < t + 1 then low n M C w i (t + 1) - 1 else 0) := by
    split
    · rename_i z
      have := cnt_minus (P := fun u => nous w i u && decide (sg M C w i u < t + 1)) hv (by rw [hvn, decide_eq_true z]; rfl)
      have e : low n M C w i (t + 1) = cnt (fun u => nous w i u && decide (sg M C w i u < t + 1)) n := rfl
      rw [e, this, Nat.add_sub_cancel]
      refine cnt_cong (fun u _ => ?_)
      cases nous w i u <;> cases decide (u ≠ w i) <;> cases decide (sg M C w i u < t + 1) <;> rfl
    · rename_i z
      refine cnt_none (fun u hu => ?_)
      cases e : nous w i u
      · rfl
      · rw [decide_eq_false (show ¬ sg M C w i u < t + 1 from by have := hvl u hu e; omega), Bool.and_false]
  rw [if_pos (by omega)] at hB
  have hl0 : low n M C w (i + 1) (2 * t) = cnt (fun u => (nous w i u && decide (u ≠ w i)) && decide (sg M C w i u < t)) n := by
    unfold low
    refine cnt_cong (fun u _ => ?_)
    rw [nous_s]
    congr 1
    rw [Bool.eq_iff_iff, decide_eq_true_iff, decide_eq_true_iff, sg]
    cases (M (w i)).testBit u
    · show 2 * _ + 0 < _ ↔ _; omega
    · show 2 * _ + 1 < _ ↔ _; omega
  have hl1 : low n M C w (i + 1) (2 * t + 1) = cnt (fun u => (nous w i u && decide (u ≠ w i)) && decide (sg M C w i u < t)) n + farn n M C w i (w i) t := by
    unfold low farn
    rw [← cnt_or (fun u _ z => by
      simp only [Bool.and_eq_true, decide_eq_true_iff] at z
      omega)]
    refine cnt_cong (fun u _ => ?_)
    rw [nous_s, sg, tri_b]
    cases (nous w i u && decide (u ≠ w i)) <;> rfl
  have hl2 : low n M C w (i + 1) (2 * t + 2) = cnt (fun u => (nous w i u && decide (u ≠ w i)) && decide (sg M C w i u < t + 1)) n := by
    unfold low
    refine cnt_cong (fun u _ => ?_)
    rw [nous_s]
    congr 1
    rw [Bool.eq_iff_iff, decide_eq_true_iff, decide_eq_true_iff, sg]
    cases (M (w i)).testBit u
    · show 2 * _ + 0 < _ ↔ _; omega
    · show 2 * _ + 1 < _ ↔ _; omega
  have hvt : low n M C w i (t + 1) ≥ 1 := by
    have h1 : low n M C w i (t + 1) ≥ cnt (fun u => decide (u = w i)) n := cnt_mono (fun u _ hu => by
      rw [decide_eq_true_iff] at hu
      rw [hu, hvn, Bool.true_and]
      exact decide_eq_true (by omega))
    rw [cnt_one (j := w i) hv (decide_eq_true rfl) (fun u _ hne => decide_eq_false hne)] at h1
    omega
  have hvt0 : sg M C w i (w i) < t → low n M C w i t ≥ 1 := fun z => by
    have h1 : low n M C w i t ≥ cnt (fun u => decide (u = w i)) n := cnt_mono (fun u _ hu => by
      rw [decide_eq_true_iff] at hu
      rw [hu, hvn, Bool.true_and]
      exact decide_eq_true (by omega))
    rw [cnt_one (j := w i) hv (decide_eq_true rfl) (fun u _ hne => decide_eq_false hne)] at h1
    omega
  have hz0 : ¬ sg M C w i (w i) < t → low n M C w i t = 0 := fun z => cnt_none (fun u hu => by
    cases e : nous w i u
    · rfl
    · rw [Bool.true_and]
      exact decide_eq_false (by have := hvl u hu e; omega))
  have hs : sg M C w (i + 1) x = 2 * t + ((M (w i)).testBit x).toNat := by rw [sg, ht]
  rw [hs]
  have hst : stt n M C w i (w i) t = i + 1 + (if sg M C w i (w i) < t then low n M C w i t - 1 else 0) := by
    unfold stt
    by_cases z : t = sg M C w i (w i)
    · rw [if_pos z, if_neg (by omega)]
    · have z2 : sg M C w i (w i) < t := by omega
      have := hvt0 z2
      rw [if_neg z, if_pos z2]
      omega
  rw [hst]
  rw [hA] at hl0 hl1
  rw [hB] at hl2
  have hlo : i + low n M C w i t ≤ j ↔ i + 1 + (if sg M C w i (w i) < t then low n M C w i t - 1 else 0) ≤ j := by
    by_cases z : sg M C w i (w i) < t
    · have := hvt0 z
      rw [if_pos z]; omega
    · have := hz0 z
      rw [if_neg z]; omega
  generalize (if sg M C w i (w i) < t then low n M C w i t - 1 else 0) = a at *
  cases hb : (M (w i)).testBit x
  · show (_ ∧ i + 1 + low n M C w (i + 1) (2 * t) ≤ j ∧ j < i + 1 + low n M C w (i + 1) (2 * t + 1)) ↔ _
    rw [hl0, hl1]
    constructor
    · rintro ⟨_, h1, h2⟩
      refine ⟨⟨⟨hxr.1, by omega, ?_⟩, hxr.2⟩, ?_⟩
      · have : low n M C w (i + 1) (2 * t + 1) ≤ low n M C w (i + 1) (2 * t + 2) := low_mono (by omega)
        omega
      · constructor
        · intro q; exact absurd q (by decide)
        · intro q; omega
    · rintro ⟨⟨⟨_, h1, h2⟩, _⟩, h3⟩
      refine ⟨hxr, by omega, ?_⟩
      apply Classical.byContradiction
      intro z
      exact absurd (h3.mpr (by omega)) (by decide)
  · show (_ ∧ i + 1 + low n M C w (i + 1) (2 * t + 1) ≤ j ∧ j < i + 1 + low n M C w (i + 1) (2 * t + 1 + 1)) ↔ _
    rw [show 2 * t + 1 + 1 = 2 * t + 2 from rfl, hl1, hl2]
    constructor
    · rintro ⟨_, h1, h2⟩
      refine ⟨⟨⟨hxr.1, by omega, by omega⟩, hxr.2⟩, ?_⟩
      constructor
      · intro _; omega
      · intro _; rfl
    · rintro ⟨⟨⟨_, h1, h2⟩, _⟩, h3⟩
      have := h3.mp rfl
      exact ⟨hxr, by omega, by omega⟩
end

