/-! MATHEMATICS, 25: a new element kept -/
section
/-- how many cells of the table are filled; the product of the rows' counts -/
def fil (E : Nat → Nat → Option (Nat → Nat)) (t : Nat) : Bool := (E (t / 8) (t % 8)).isSome
def row (E : Nat → Nat → Option (Nat → Nat)) (i : Nat) : Nat := cnt (fun x => (E i x).isSome) 8
def prodFrom (E : Nat → Nat → Option (Nat → Nat)) : Nat → Nat
  | 0 => 1
  | d + 1 => row E (7 - d) * prodFrom E d
theorem row_le (E : Nat → Nat → Option (Nat → Nat)) (i : Nat) : row E i ≤ 8 := cnt_le _ _
/-- cells of points that are base points of earlier levels are empty -/
theorem VE.empty {b : Nat → Nat} {E : Nat → Nat → Option (Nat → Nat)} (hV : VE b E) {i j : Nat} (hi : i < 8) (hj : j < i) : E i (b j) = none := by
  cases e : E i (b j) with
  | none => rfl
  | some u =>
    have hu := hV.2.2 i (b j) u hi (hV.1.2.1 j (by omega)) e
    have := hV.1.2.2 i j hi (by omega) (hu.2.1.symm.trans (hu.2.2 j hj))
    omega
theorem nodup_map_on {α β : Type} {f : α → β} : ∀ {l : List α}, l.Nodup → (∀ x y, x ∈ l → y ∈ l → f x = f y → x = y) → (l.map f).Nodup
  | [], _, _ => List.nodup_nil
  | a :: l, h, hi => by
    rw [List.map_cons, List.nodup_cons]
    rw [List.nodup_cons] at h
    refine ⟨fun z => ?_, nodup_map_on h.2 (fun x y hx hy => hi x y (List.mem_cons_of_mem _ hx) (List.mem_cons_of_mem _ hy))⟩
    obtain ⟨y, hy, e⟩ := List.mem_map.mp z
    have := hi y a (List.mem_cons_of_mem _ hy) List.mem_cons_self e
    exact h.1 (this ▸ hy)
theorem IsP.perm {b : Nat → Nat} (hb : IsP b) : ((List.range 8).map b).Perm (List.range 8) := by
  refine (List.perm_ext_iff_of_nodup (nodup_map_on List.nodup_range (fun x y hx hy e => hb.2.2 x y (List.mem_range.mp hx) (List.mem_range.mp hy) e)) List.nodup_range).mpr (fun y => ?_)
  rw [List.mem_map, List.mem_range]
  constructor
  · rintro ⟨x, hx, rfl⟩
    exact hb.2.1 x (List.mem_range.mp hx)
  · intro hy
    obtain ⟨i, hi, e⟩ := hb.onto hy
    exact ⟨i, List.mem_range.mpr hi, e⟩
theorem cnt_bij {P : Nat → Bool} {b : Nat → Nat} (hb : IsP b) : cnt (fun j => P (b j)) 8 = cnt P 8 := by
  have h := hb.perm.countP_eq P
  rw [List.countP_map] at h
  exact h
/-- a row holds at most 8 - i entries; one less where one more would fit -/
theorem row_lt {b : Nat → Nat} {E : Nat → Nat → Option (Nat → Nat)} (hV : VE b E) {i : Nat} (hi : i < 8) : row E i ≤ 8 - i ∧ ∀ j, i ≤ j → j < 8 → E i (b j) = none → row E i < 8 - i := by
  have h0 : row E i = cnt (fun j => (E i (b j)).isSome) 8 := (cnt_bij (P := fun x => (E i x).isSome) hV.1).symm
  have hc : ∀ c, cnt (fun j => decide (i ≤ j)) c = c - i := by
    intro c
    induction c with
    | zero => rw [cnt_0]; omega
    | succ c ih =>
      rw [cnt_s, ih]
      by_cases q : i ≤ c
      · rw [decide_eq_true q]; show c - i + 1 = _; omega
      · rw [decide_eq_false q]; show c - i + 0 = _; omega
  have hle : ∀ j, j < 8 → (E i (b j)).isSome = true → decide (i ≤ j) = true := by
    intro j hj z
    apply decide_eq_true
    apply Classical.byContradiction
    intro q
    rw [hV.empty hi (show j < i by omega)] at z
    exact absurd z (by decide)
  constructor
  · rw [h0, ← hc 8]
    exact cnt_mono hle
  · intro j hij hj e
    have h1 : cnt (fun j' => (E i (b j')).isSome || decide (j' = j)) 8 ≤ 8 - i := by
      rw [← hc 8]
      refine cnt_mono (fun k hk z => ?_)
      rw [Bool.or_eq_true] at z
      rcases z with z | z
      · exact hle k hk z
      · have : k = j := of_decide_eq_true z
        exact decide_eq_true (by omega)
    rw [cnt_or (fun k hk z => by
      have : k = j := of_decide_eq_true z.2
      rw [this, e] at z
      exact absurd z.1 (by decide)), cnt_one (j := j) hj (decide_eq_true rfl) (fun k _ hne => decide_eq_false hne)] at h1
    rw [h0]
    omega
end

