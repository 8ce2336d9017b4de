/-! MATHEMATICS, 42: permutations of n; values of rows; first differences -/
section
def IsN (n : Nat) (q : Nat → Nat) : Prop := IsP q ∧ ∀ i, n ≤ i → q i = i
theorem IsN.lt {n : Nat} {q : Nat → Nat} (h : IsN n q) (hn : n ≤ 8) {i : Nat} (hi : i < n) : q i < n := by
  apply Classical.byContradiction
  intro z
  have h8 := h.1.2.1 i (by omega)
  have e := h.2 (q i) (by omega)
  have := h.1.2.2 (q i) i h8 (by omega) e
  omega
theorem IsN.inj {n : Nat} {q : Nat → Nat} (h : IsN n q) {i j : Nat} (e : q i = q j) : i = j := by
  have := congrArg (iv q) e
  rwa [iv_l h.1, iv_l h.1] at this
theorem IsN.id (n : Nat) : IsN n (fun i => i) := ⟨IsP.id, fun _ _ => rfl⟩
theorem IsN.comp {n : Nat} {p q : Nat → Nat} (hp : IsN n p) (hq : IsN n q) : IsN n (fun i => q (p i)) := ⟨hp.1.comp hq.1, fun i hi => by
  show q (p i) = i
  rw [hp.2 i hi, hq.2 i hi]⟩
theorem IsN.iv {n : Nat} {q : Nat → Nat} (h : IsN n q) : IsN n (iv q) := ⟨h.1.iv, fun i hi => by
  have := iv_l h.1 (i := i)
  rw [h.2 i hi] at this
  exact this⟩
theorem IsN.onto {n : Nat} {q : Nat → Nat} (h : IsN n q) (hn : n ≤ 8) {y : Nat} (hy : y < n) : ∃ i, i < n ∧ q i = y := ⟨_, h.iv.lt hn hy, iv_r h.1⟩
theorem IsN.mk {n : Nat} (hn : n ≤ 8) {q : Nat → Nat} (h1 : ∀ i, i < n → q i < n) (h2 : ∀ i j, i < n → j < n → q i = q j → i = j) (h3 : ∀ i, n ≤ i → q i = i) : IsN n q := by
  refine ⟨⟨fun i hi => h3 i (by omega), fun i hi => ?_, fun i j hi hj e => ?_⟩, h3⟩
  · by_cases z : i < n
    · have := h1 i z; omega
    · rw [h3 i (by omega)]; exact hi
  · by_cases z : i < n
    · by_cases y : j < n
      · exact h2 i j z y e
      · rw [h3 j (by omega)] at e
        have := h1 i z; omega
    · by_cases y : j < n
      · rw [h3 i (by omega)] at e
        have := h1 j y; omega
      · rw [h3 i (by omega), h3 j (by omega)] at e
        exact e
theorem IsN.ext {n : Nat} {p q : Nat → Nat} (hp : IsN n p) (hq : IsN n q) (h : ∀ i, i < n → p i = q i) : p = q := by
  funext i
  by_cases z : i < n
  · exact h i z
  · rw [hp.2 i (by omega), hq.2 i (by omega)]
theorem iv_comp {p q : Nat → Nat} (hp : IsP p) (hq : IsP q) (y : Nat) : iv (fun i => q (p i)) y = iv p (iv q y) := by
  have h := iv_l (hp.comp hq) (i := iv p (iv q y))
  have e : q (p (iv p (iv q y))) = y := by rw [iv_r hp, iv_r hq]
  have h : iv (fun i => q (p i)) (q (p (iv p (iv q y)))) = iv p (iv q y) := h
  rw [e] at h
  exact h
/-- the exchange of a and b -/
def sw (a b x : Nat) : Nat := if x = a then b else if x = b then a else x
theorem sw_sw (a b x : Nat) : sw a b (sw a b x) = x := by
  unfold sw
  by_cases h1 : x = a
  · rw [if_pos h1]
    by_cases h2 : b = a
    · rw [if_pos h2]; omega
    · rw [if_neg h2, if_pos rfl]; omega
  · rw [if_neg h1]
    by_cases h2 : x = b
    · rw [if_pos h2, if_pos rfl]; omega
    · rw [if_neg h2, if_neg h1, if_neg h2]
theorem sw_a (a b : Nat) : sw a b a = b := if_pos rfl
theorem sw_b (a b : Nat) : sw a b b = a := by
  unfold sw
  by_cases h : b = a
  · rw [if_pos h]; exact h
  · rw [if_neg h, if_pos rfl]
theorem sw_o {a b x : Nat} (h1 : x ≠ a) (h2 : x ≠ b) : sw a b x = x := by
  unfold sw
  rw [if_neg h1, if_neg h2]
theorem sw_N {n : Nat} (hn : n ≤ 8) {a b : Nat} (ha : a < n) (hb : b < n) : IsN n (sw a b) := by
  refine IsN.mk hn (fun i hi => ?_) (fun i j _ _ e => ?_) (fun i hi => sw_o (by omega) (by omega))
  · unfold sw
    split
    · exact hb
    · split
      · exact ha
      · exact hi
  · have := congrArg (sw a b) e
    rwa [sw_sw, sw_sw] at this
theorem iv_sw {n : Nat} (hn : n ≤ 8) {a b : Nat} (ha : a < n) (hb : b < n) (x : Nat) : iv (sw a b) x = sw a b x := by
  have h := iv_l (sw_N hn ha hb).1 (i := sw a b x)
  rw [sw_sw] at h
  exact h
/-- first differences -/
theorem first_diff {f g : Nat → Nat} {n : Nat} : (∀ i, i < n → f i = g i) ∨ ∃ i, i < n ∧ f i ≠ g i ∧ ∀ k, k < i → f k = g k := by
  by_cases h : ∀ i, i < n → f i = g i
  · exact Or.inl h
  · right
    have : ∃ i, i < n ∧ f i ≠ g i := by
      apply Classical.byContradiction
      intro z
      refine h (fun i hi => ?_)
      apply Classical.byContradiction
      intro y
      exact z ⟨i, hi, y⟩
    obtain ⟨i, hi, hne⟩ := this
    obtain ⟨m, hm, h1, h2⟩ := least_of (P := fun i => f i ≠ g i) hne
    refine ⟨m, by omega, h1, fun k hk => ?_⟩
    apply Classical.byContradiction
    exact h2 k hk
theorem qk_first {d e : Nat → Nat} {i : Nat} : ∀ {m : Nat}, (∀ k, k < m → d k < 8) → i < m → d i < e i → (∀ k, i < k → k < m → d k = e k) → qk d m < qk e m
  | 0, _, h, _, _ => absurd h (by omega)
  | m + 1, hd, hi, hl, he => by
    rw [qk, qk]
    by_cases z : i = m
    · subst z
      have h1 := qk_lt (n := i) (fun k hk => hd k (by omega))
      have h2 : (d i + 1) * 8 ^ i ≤ e i * 8 ^ i := Nat.mul_le_mul_right _ hl
      rw [Nat.add_mul, Nat.one_mul] at h2
      omega
    · have h1 := qk_first (m := m) (fun k hk => hd k (by omega)) (by omega) hl (fun k h3 h4 => he k h3 (by omega))
      rw [he m (by omega) (by omega)]
      omega
theorem qk_cong {d e : Nat → Nat} : ∀ {m : Nat}, (∀ k, k < m → d k = e k) → qk d m = qk e m
  | 0, _ => rfl
  | m + 1, h => by rw [qk, qk, qk_cong (fun k hk => h k (by omega)), h m (by omega)]
/-- the value of a row: its first number weighs most -/
def rvd (n : Nat) (f : Nat → Nat) (d : Nat) : Nat := if 7 - d < n then f (7 - d) else 0
def rv (n : Nat) (f : Nat → Nat) : Nat := qk (rvd n f) 8
theorem rvd_lt {n : Nat} {f : Nat → Nat} (hf : ∀ i, i < n → f i < 8) (d : Nat) : rvd n f d < 8 := by
  unfold rvd
  split
  · rename_i h; exact hf _ h
  · omega
theorem rv_lt24 {n : Nat} {f : Nat → Nat} (hf : ∀ i, i < n → f i < 8) : rv n f < 2 ^ 24 := qk_lt (fun d _ => rvd_lt hf d)
theorem rv_cong {n : Nat} {f g : Nat → Nat} (h : ∀ i, i < n → f i = g i) : rv n f = rv n g := qk_cong (fun k _ => by
  unfold rvd
  split
  · rename_i z; exact h _ z
  · rfl)
theorem rv_first {n : Nat} (hn : n ≤ 8) {f g : Nat → Nat} (hf : ∀ i, i < n → f i < 8) {i : Nat} (hi : i < n) (hl : f i < g i) (he : ∀ k, k < i → f k = g k) : rv n f < rv n g := by
  refine qk_first (i := 7 - i) (fun k _ => rvd_lt hf k) (by omega) ?_ (fun k h1 h2 => ?_)
  · unfold rvd
    rw [show 7 - (7 - i) = i from by omega, if_pos hi, if_pos hi]
    exact hl
  · unfold rvd
    split
    · rename_i z; exact he _ (by omega)
    · rfl
theorem rv_digit {n : Nat} (hn : n ≤ 8) {f : Nat → Nat} (hf : ∀ i, i < n → f i < 8) {i : Nat} (hi : i < n) : rv n f / 8 ^ (7 - i) % 8 = f i := by
  unfold rv
  rw [qk_dig (fun d _ => rvd_lt hf d) (by omega)]
  unfold rvd
  rw [show 7 - (7 - i) = i from by omega, if_pos hi]
theorem rv_inj {n : Nat} (hn : n ≤ 8) {f g : Nat → Nat} (hf : ∀ i, i < n → f i < 8) (hg : ∀ i, i < n → g i < 8) (h : rv n f = rv n g) {i : Nat} (hi : i < n) : f i = g i := by
  rw [← rv_digit hn hf hi, h, rv_digit hn hg hi]
theorem rv_le {n : Nat} (hn : n ≤ 8) {f g : Nat → Nat} (hg : ∀ i, i < n → g i < 8) (h : rv n f ≤ rv n g) {i : Nat} (hi : i < n) (he : ∀ k, k < i → f k = g k) : f i ≤ g i := by
  apply Classical.byContradiction
  intro z
  have := rv_first hn (f := g) (g := f) hg hi (by omega) (fun k hk => (he k hk).symm)
  omega
theorem IsN.l8 {n : Nat} {q : Nat → Nat} (h : IsN n q) (hn : n ≤ 8) : ∀ i, i < n → q i < 8 := fun i hi => by have := h.lt hn hi; omega
theorem val_inj {n : Nat} (hn : n ≤ 8) {p q : Nat → Nat} (hp : IsN n p) (hq : IsN n q) (h : rv n p = rv n q) : p = q :=
  hp.ext hq (fun _ hi => rv_inj hn (hp.l8 hn) (hq.l8 hn) h hi)
theorem arg_min {α : Type} {P : α → Prop} (f : α → Nat) : ∀ (k : Nat) (a : α), f a ≤ k → P a → ∃ a, P a ∧ ∀ b, P b → f a ≤ f b
  | 0, a, h, ha => ⟨a, ha, fun b _ => by omega⟩
  | k + 1, a, h, ha => by
    by_cases z : ∃ b, P b ∧ f b < f a
    · obtain ⟨b, hb, hl⟩ := z
      exact arg_min f k b (by omega) hb
    · refine ⟨a, ha, fun b hb => ?_⟩
      apply Classical.byContradiction
      intro y
      exact z ⟨b, hb, by omega⟩
theorem min_ex {α : Type} {P : α → Prop} (f : α → Nat) (h : ∃ a, P a) : ∃ a, P a ∧ ∀ b, P b → f a ≤ f b := by
  obtain ⟨a, ha⟩ := h
  exact arg_min f (f a) a (Nat.le_refl _) ha
/-- counting through a permutation -/
theorem IsN.perm {n : Nat} (hn : n ≤ 8) {w : Nat → Nat} (h : IsN n w) : ((List.range n).map w).Perm (List.range n) := by
  refine (List.perm_ext_iff_of_nodup (nodup_map_on List.nodup_range (fun x y _ _ e => h.inj e)) List.nodup_range).mpr (fun y => ?_)
  rw [List.mem_map, List.mem_range]
  constructor
  · rintro ⟨x, hx, rfl⟩
    exact h.lt hn (List.mem_range.mp hx)
  · intro hy
    obtain ⟨i, hi, e⟩ := h.onto hn hy
    exact ⟨i, List.mem_range.mpr hi, e⟩
theorem cntN {n : Nat} (hn : n ≤ 8) {w : Nat → Nat} (h : IsN n w) (P : Nat → Bool) : cnt (fun j => P (w j)) n = cnt P n := by
  have e := (h.perm hn).countP_eq P
  rw [List.countP_map] at e
  exact e
/-- a set closed downward is what lies below its size -/
theorem down_cnt {P : Nat → Bool} : ∀ {n : Nat}, (∀ i j, i ≤ j → j < n → P j = true → P i = true) → ∀ i, i < n → (P i = true ↔ i < cnt P n)
  | 0, _, i, hi => absurd hi (by omega)
  | n + 1, h, i, hi => by
    rw [cnt_s]
    cases e : P n
    · have hc := cnt_le P n
      by_cases z : i = n
      · subst z
        rw [e]
        constructor
        · intro q; exact absurd q (by decide)
        · intro q
          have q : i < cnt P i + 0 := q
          omega
      · have := down_cnt (n := n) (fun i j h1 h2 => h i j h1 (by omega)) i (by omega)
        rw [this]
        show _ ↔ i < cnt P n + 0
        omega
    · have hall : cnt P n = n := cnt_all (fun j hj => h j n (by omega) (by omega) e)
      rw [hall]
      constructor
      · intro _; show i < n + 1; omega
      · intro _; exact h i n (by omega) (by omega) e
end

