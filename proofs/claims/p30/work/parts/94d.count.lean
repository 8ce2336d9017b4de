/-! MATHEMATICS, 45: how many arrangements -/
section
noncomputable def dc (p : Prop) : Bool := @decide p (Classical.propDecidable p)
theorem dc_iff {p : Prop} : dc p = true ↔ p := @decide_eq_true_iff p (Classical.propDecidable p)
theorem dc_yes {p : Prop} (h : p) : dc p = true := dc_iff.mpr h
theorem dc_no {p : Prop} (h : ¬ p) : dc p = false := by
  cases e : dc p
  · rfl
  · exact absurd (dc_iff.mp e) h
theorem dc_cong {p q : Prop} (h : p ↔ q) : dc p = dc q := by
  rw [Bool.eq_iff_iff, dc_iff, dc_iff]; exact h
noncomputable def gtN (n k : Nat) : Option (Nat → Nat) := @dite (Option (Nat → Nat)) (∃ p, IsN n p ∧ num p 8 = k) (Classical.propDecidable _) (fun h => some (Classical.choose h)) (fun _ => none)
theorem gtN_iff {n k : Nat} {p : Nat → Nat} : gtN n k = some p ↔ IsN n p ∧ num p 8 = k := by
  unfold gtN
  by_cases h : ∃ p, IsN n p ∧ num p 8 = k
  · rw [dif_pos h]
    have hs := Classical.choose_spec h
    constructor
    · intro e
      rw [← Option.some.inj e]; exact hs
    · rintro ⟨h1, h2⟩
      exact congrArg some (num_inj hs.1.1 h1.1 (hs.2.trans h2.symm))
  · rw [dif_neg h]
    constructor
    · intro e; exact absurd e (by simp)
    · intro e; exact absurd ⟨p, e⟩ h
noncomputable def allR (n : Nat) : Nat → List (Nat → Nat)
  | 0 => []
  | k + 1 => allR n k ++ (match gtN n k with
    | none => []
    | some p => [p])
theorem allR_mem (n : Nat) (p : Nat → Nat) : ∀ k, p ∈ allR n k ↔ IsN n p ∧ num p 8 < k
  | 0 => by
    rw [allR]
    constructor
    · intro h; exact absurd h (by simp)
    · rintro ⟨_, h⟩; omega
  | k + 1 => by
    rw [allR, List.mem_append, allR_mem n p k]
    constructor
    · rintro (⟨h1, h2⟩ | h)
      · exact ⟨h1, by omega⟩
      · cases e : gtN n k with
        | none => rw [e] at h; exact absurd h (by simp)
        | some q =>
          rw [e] at h
          have := List.mem_singleton.mp h
          subst this
          obtain ⟨a, b⟩ := gtN_iff.mp e
          exact ⟨a, by omega⟩
    · rintro ⟨h1, h2⟩
      by_cases z : num p 8 = k
      · right
        rw [gtN_iff.mpr ⟨h1, z⟩]
        exact List.mem_singleton.mpr rfl
      · exact Or.inl ⟨h1, by omega⟩
theorem allR_nodup (n : Nat) : ∀ k, (allR n k).Nodup
  | 0 => List.nodup_nil
  | k + 1 => by
    rw [allR, List.nodup_append]
    refine ⟨allR_nodup n k, ?_, fun a ha b hb e => ?_⟩
    · cases gtN n k with
      | none => exact List.nodup_nil
      | some q => simp
    · cases e2 : gtN n k with
      | none => rw [e2] at hb; exact absurd hb (by simp)
      | some q =>
        rw [e2] at hb
        have h1 := List.mem_singleton.mp hb
        have h2 := ((allR_mem n a k).mp ha).2
        have h3 := (gtN_iff.mp e2).2
        rw [e, h1, h3] at h2
        omega
noncomputable def allN (n : Nat) : List (Nat → Nat) := allR n 40320
theorem allN_mem {n : Nat} {p : Nat → Nat} : p ∈ allN n ↔ IsN n p := (allR_mem n p 40320).trans ⟨fun h => h.1, fun h => ⟨h, num8 p⟩⟩
/-- how many permutations of n have the property -/
noncomputable def cd (n : Nat) (p : (Nat → Nat) → Prop) : Nat := (allN n).countP (fun w => dc (p w))
theorem cd_cong {n : Nat} {p q : (Nat → Nat) → Prop} (h : ∀ w, IsN n w → (p w ↔ q w)) : cd n p = cd n q :=
  List.countP_congr (fun w hw => by rw [dc_iff, dc_iff]; exact h w (allN_mem.mp hw))
theorem cd_le {n : Nat} {p q : (Nat → Nat) → Prop} (f : (Nat → Nat) → (Nat → Nat)) (h : ∀ w, IsN n w → p w → IsN n (f w) ∧ q (f w)) (hi : ∀ w w', IsN n w → IsN n w' → p w → p w' → f w = f w' → w = w') : cd n p ≤ cd n q := by
  unfold cd
  rw [List.countP_eq_length_filter, List.countP_eq_length_filter]
  have hm : ∀ w, w ∈ (allN n).filter (fun w => dc (p w)) ↔ IsN n w ∧ p w := fun w => by
    rw [List.mem_filter, allN_mem, dc_iff]
  have h1 : (((allN n).filter (fun w => dc (p w))).map f).Nodup := nodup_map_on ((allR_nodup n 40320).sublist List.filter_sublist) (fun x y hx hy e => by
    obtain ⟨a1, a2⟩ := (hm x).mp hx
    obtain ⟨b1, b2⟩ := (hm y).mp hy
    exact hi x y a1 b1 a2 b2 e)
  have h2 := h1.length_le_of_subset (l₂ := (allN n).filter (fun w => dc (q w))) (fun y hy => by
    obtain ⟨x, hx, rfl⟩ := List.mem_map.mp hy
    obtain ⟨a1, a2⟩ := (hm x).mp hx
    obtain ⟨b1, b2⟩ := h x a1 a2
    rw [List.mem_filter, allN_mem, dc_iff]
    exact ⟨b1, b2⟩)
  rwa [List.length_map] at h2
theorem countP_or {α : Type} {p q : α → Bool} : ∀ {l : List α}, (∀ x, x ∈ l → ¬ (p x = true ∧ q x = true)) → l.countP (fun x => p x || q x) = l.countP p + l.countP q
  | [], _ => rfl
  | a :: l, h => by
    have ih := countP_or (l := l) (fun x hx => h x (List.mem_cons_of_mem _ hx))
    have ha := h a List.mem_cons_self
    rw [List.countP_cons, List.countP_cons, List.countP_cons, ih]
    revert ha
    cases p a <;> cases q a <;> simp <;> omega
theorem cd_or {n : Nat} {p q : (Nat → Nat) → Prop} (h : ∀ w, IsN n w → ¬ (p w ∧ q w)) : cd n (fun w => p w ∨ q w) = cd n p + cd n q := by
  unfold cd
  rw [← countP_or (fun w hw => by rw [dc_iff, dc_iff]; exact h w (allN_mem.mp hw))]
  exact List.countP_congr (fun w _ => by rw [dc_iff, Bool.or_eq_true, dc_iff, dc_iff])
theorem cd_none {n : Nat} {p : (Nat → Nat) → Prop} (h : ∀ w, IsN n w → ¬ p w) : cd n p = 0 := by
  unfold cd
  rw [List.countP_eq_zero]
  intro w hw
  rw [dc_iff]
  exact h w (allN_mem.mp hw)
theorem cd_one {n : Nat} {w : Nat → Nat} (hw : IsN n w) : cd n (fun v => v = w) = 1 := by
  unfold cd
  rw [List.countP_eq_length_filter]
  have := list_len (l1 := (allN n).filter (fun v => dc (v = w))) (l2 := [w]) ((allR_nodup n 40320).sublist List.filter_sublist) (by simp) (fun v => by
    rw [List.mem_filter, allN_mem, dc_iff, List.mem_singleton]
    exact ⟨fun h => h.2, fun h => ⟨by rw [h]; exact hw, h⟩⟩)
  rw [this]; rfl
theorem cd_add {n : Nat} {p : (Nat → Nat) → Prop} {w : Nat → Nat} (hw : IsN n w) (h : ¬ p w) : cd n (fun v => p v ∨ v = w) = cd n p + 1 := by
  rw [cd_or (fun v _ z => h (by rw [← z.2]; exact z.1)), cd_one hw]
theorem cd_ranks {n : Nat} {p : (Nat → Nat) → Prop} {r : (Nat → Nat) → Nat} {s c : Nat} (h1 : ∀ w, IsN n w → p w → r w ≤ s) (h2 : ∀ j, j ≤ s → cd n (fun w => p w ∧ r w = j) = c) : cd n p = (s + 1) * c := by
  have : ∀ j, j ≤ s + 1 → cd n (fun w => p w ∧ r w < j) = j * c := by
    intro j
    induction j with
    | zero =>
      intro _
      rw [Nat.zero_mul]
      exact cd_none (fun w _ h => by omega)
    | succ j ih =>
      intro hj
      rw [cd_cong (q := fun w => (p w ∧ r w < j) ∨ (p w ∧ r w = j)) (fun w _ => by
        constructor
        · rintro ⟨a, b⟩
          by_cases z : r w = j
          · exact Or.inr ⟨a, z⟩
          · exact Or.inl ⟨a, by omega⟩
        · rintro (⟨a, b⟩ | ⟨a, b⟩)
          · exact ⟨a, by omega⟩
          · exact ⟨a, by omega⟩), cd_or (fun w _ z => by omega), ih (by omega), h2 j (by omega), Nat.succ_mul]
  rw [← this (s + 1) (Nat.le_refl _)]
  exact cd_cong (fun w hw => ⟨fun h => ⟨h, by have := h1 w hw h; omega⟩, fun h => h.1⟩)
/-- symmetries and best arrangements -/
theorem cd_aut {n : Nat} (hn : n ≤ 8) {M C : Nat → Nat} (hG : Gr n M C) : cd n (Iso n M C M C) = cd n (Opt n M C) := by
  obtain ⟨w0, h0⟩ := opt_ex n M C
  refine Nat.le_antisymm (cd_le (fun f => fun i => f (w0 i)) (fun f _ hf => ⟨h0.1.comp hf.1, h0.map hn hf⟩) (fun f g _ _ hf hg e => ?_)) (cd_le (fun w => fun v => w (iv w0 v)) (fun w hw h => ⟨h0.1.iv.comp hw, cod_iso hn hG hG h0.1 hw (h0.same h)⟩) (fun w w' hw hw' _ _ e => ?_))
  · funext y
    have := congrFun e (iv w0 y)
    have this : f (w0 (iv w0 y)) = g (w0 (iv w0 y)) := this
    rwa [iv_r h0.1.1] at this
  · funext y
    have := congrFun e (w0 y)
    have this : w (iv w0 (w0 y)) = w' (iv w0 (w0 y)) := this
    rwa [iv_l h0.1.1] at this
/-- the j-th member -/
theorem cnt_at {P : Nat → Bool} {j : Nat} : ∀ {k : Nat}, j < cnt P k → ∃ u, u < k ∧ P u = true ∧ cnt P u = j
  | 0, h => by rw [cnt_0] at h; omega
  | k + 1, h => by
    rw [cnt_s] at h
    by_cases z : j < cnt P k
    · obtain ⟨u, h1, h2, h3⟩ := cnt_at z
      exact ⟨u, by omega, h2, h3⟩
    · cases e : P k
      · rw [e] at h
        have h : j < cnt P k + 0 := h
        omega
      · rw [e] at h
        have h : j < cnt P k + 1 := h
        exact ⟨k, by omega, e, by omega⟩
theorem down_in {P A : Nat → Bool} : ∀ {k : Nat}, (∀ x, x < k → A x = true → P x = true) → (∀ x y, x < y → y < k → P x = true → A y = true → A x = true) → ∀ x, x < k → P x = true → (A x = true ↔ cnt P x < cnt A k)
  | 0, _, _, x, hx, _ => absurd hx (by omega)
  | k + 1, h1, h2, x, hx, hp => by
    have hle : ∀ m, m ≤ k + 1 → cnt A m ≤ cnt P m := fun m hm => cnt_mono (fun i hi => h1 i (by omega))
    rw [cnt_s]
    cases e : A k
    · by_cases z : x = k
      · subst z
        rw [e]
        have := hle x (by omega)
        constructor
        · intro q; exact absurd q (by decide)
        · intro q
          have q : cnt P x < cnt A x + 0 := q
          omega
      · have := down_in (k := k) (fun i hi => h1 i (by omega)) (fun i j a b => h2 i j a (by omega)) x (by omega) hp
        rw [this]
        show _ ↔ _ < cnt A k + 0
        omega
    · -- all of P below k is in A
      have hall : cnt A k = cnt P k := cnt_cong (fun i hi => by
        rw [Bool.eq_iff_iff]
        exact ⟨h1 i (by omega), fun q => h2 i k hi (by omega) q e⟩)
      constructor
      · intro _
        show cnt P x < cnt A k + 1
        rw [hall]
        by_cases z : x = k
        · rw [z]; omega
        · have := cnt_lt_of (P := P) (show x < k by omega) hp
          omega
      · intro _
        by_cases z : x = k
        · rw [z]; exact e
        · exact h2 x k (by omega) (by omega) hp e
/-- twins below k -/
noncomputable def twb (M C : Nat → Nat) (k u : Nat) : Bool := dc (Twn M C u k)
noncomputable def tws (M C : Nat → Nat) (k : Nat) : Nat := cnt (twb M C k) k
/-- best, and twins below k in order -/
def OK (n : Nat) (M C : Nat → Nat) (k : Nat) (w : Nat → Nat) : Prop := Opt n M C w ∧ ∀ t v, t < v → v < k → Twn M C t v → iv w t < iv w v
noncomputable def rnk (M C : Nat → Nat) (k : Nat) (w : Nat → Nat) : Nat := cnt (fun u => twb M C k u && decide (iv w u < iv w k)) k
theorem rnk_le (M C : Nat → Nat) (k : Nat) (w : Nat → Nat) : rnk M C k w ≤ tws M C k := cnt_mono (fun i _ h => by
  rw [Bool.and_eq_true] at h; exact h.1)
theorem rnk_iff {n : Nat} (hn : n ≤ 8) {M C : Nat → Nat} (hG : Gr n M C) {k : Nat} (hk : k < n) {w : Nat → Nat} (h : OK n M C k w) {x : Nat} (hx : x < k) (ht : Twn M C x k) : iv w x < iv w k ↔ cnt (twb M C k) x < rnk M C k w := by
  have := down_in (P := twb M C k) (A := fun u => twb M C k u && decide (iv w u < iv w k)) (k := k) (fun y _ hy => by
    rw [Bool.and_eq_true] at hy; exact hy.1) (fun y z hyz hz hp ha => by
    rw [Bool.and_eq_true, decide_eq_true_iff] at ha ⊢
    have t1 := dc_iff.mp hp
    have t2 := dc_iff.mp ha.1
    have := h.2 y z hyz hz (Twn.tr hG (by omega) (by omega) (by omega) t1 t2.sy)
    exact ⟨hp, by omega⟩) x hx (dc_yes ht)
  rw [Bool.and_eq_true, decide_eq_true_iff] at this
  unfold rnk
  rw [← this]
  exact ⟨fun q => ⟨dc_yes ht, q⟩, fun q => q.2⟩
theorem cnt_cut (P : Nat → Bool) (m : Nat) : ∀ k, m ≤ k → cnt (fun x => P x && decide (x < m)) k = cnt P m
  | 0, h => by
    have : m = 0 := by omega
    subst this
    rw [cnt_0, cnt_0]
  | k + 1, h => by
    by_cases z : m = k + 1
    · subst z
      exact cnt_cong (fun i hi => by rw [decide_eq_true hi, Bool.and_true])
    · rw [cnt_s, cnt_cut P m k (by omega), decide_eq_false (by omega), Bool.and_false]; rfl
/-- twins' ranks can be exchanged -/
theorem ok_swap {n : Nat} (hn : n ≤ 8) {M C : Nat → Nat} (hG : Gr n M C) {k u j : Nat} (hk : k < n) (hu : u < k) (ht : Twn M C u k) (hc : cnt (twb M C k) u = j) {w : Nat → Nat} (h : OK n M C k w) (hr : rnk M C k w = j ∨ rnk M C k w = j + 1) : OK n M C k (fun i => sw k u (w i)) ∧ rnk M C k (fun i => sw k u (w i)) = (if rnk M C k w = j then j + 1 else j) := by
  have hu' : u < n := by omega
  have hiv : ∀ x, iv (fun i => sw k u (w i)) x = iv w (sw k u x) := iv_swv hn hk hu' h.1.1
  have hne : ∀ {x y}, x ≠ y → iv w x ≠ iv w y := fun hxy e => hxy (h.1.1.iv.inj e)
  have hu1 := rnk_iff hn hG hk h hu ht
  have hOpt := h.1.map hn (twn_iso hn hG hk hu' ht.sy)
  have htw : ∀ {x}, x < k → Twn M C x k → x ≠ u → (iv w x < iv w u ↔ x < u) := by
    intro x hx hxk hxu
    have t : Twn M C x u := Twn.tr hG (by omega) (by omega) (by omega) hxk ht.sy
    rcases Nat.lt_trichotomy x u with z | z | z
    · have := h.2 x u z hu t
      omega
    · exact absurd z hxu
    · have := h.2 u x z hx t.sy
      omega
  have hord : ∀ t v, t < v → v < k → Twn M C t v → iv (fun i => sw k u (w i)) t < iv (fun i => sw k u (w i)) v := by
    intro t v htv hv htt
    rw [hiv, hiv]
    by_cases e1 : t = u
    · subst e1
      rw [sw_b, sw_o (by omega) (by omega)]
      have tvk : Twn M C v k := Twn.tr hG (by omega) (by omega) (by omega) htt.sy ht
      have h1 := rnk_iff hn hG hk h hv tvk
      have h2 := cnt_lt_of (P := twb M C k) htv (dc_yes ht)
      have h3 := h.2 t v htv hv htt
      have h4 := hne (show v ≠ k by omega)
      have h5 := hne (show t ≠ k by omega)
      omega
    · by_cases e2 : v = u
      · subst e2
        rw [sw_b, sw_o (by omega) (by omega)]
        have ttk : Twn M C t k := Twn.tr hG (by omega) (by omega) (by omega) htt ht
        have h1 := rnk_iff hn hG hk h (by omega) ttk
        have h2 := cnt_lt_of (P := twb M C k) htv (dc_yes ttk)
        omega
      · rw [sw_o (by omega) e1, sw_o (by omega) e2]
        exact h.2 t v htv hv htt
  refine ⟨⟨hOpt, hord⟩, ?_⟩
  have hk' : iv (fun i => sw k u (w i)) k = iv w u := by rw [hiv, sw_a]
  have huu : iv (fun i => sw k u (w i)) u = iv w k := by rw [hiv, sw_b]
  by_cases e : rnk M C k w = j
  · rw [if_pos e]
    have h0 : iv w k < iv w u := by
      have := hne (show u ≠ k by omega)
      omega
    have h1 : rnk M C k (fun i => sw k u (w i)) = cnt (fun x => twb M C k x && decide (x < u + 1)) k := by
      unfold rnk
      refine cnt_cong (fun x hx => ?_)
      cases ep : twb M C k x
      · rfl
      · have txk := dc_iff.mp ep
        rw [Bool.true_and, Bool.true_and, Bool.eq_iff_iff, decide_eq_true_iff, decide_eq_true_iff, hk']
        by_cases z : x = u
        · subst z
          rw [huu]
          constructor
          · intro _; omega
          · intro _; exact h0
        · rw [hiv, sw_o (by omega) z, htw hx txk z]
          omega
    rw [h1, cnt_cut _ _ _ (by omega), cnt_s, hc, show twb M C k u = true from dc_yes ht]
    rfl
  · rw [if_neg e]
    have h0 : iv w u < iv w k := by omega
    have h1 : rnk M C k (fun i => sw k u (w i)) = cnt (fun x => twb M C k x && decide (x < u)) k := by
      unfold rnk
      refine cnt_cong (fun x hx => ?_)
      cases ep : twb M C k x
      · rfl
      · have txk := dc_iff.mp ep
        rw [Bool.true_and, Bool.true_and, Bool.eq_iff_iff, decide_eq_true_iff, decide_eq_true_iff, hk']
        by_cases z : x = u
        · subst z
          rw [huu]
          omega
        · rw [hiv, sw_o (by omega) z, htw hx txk z]
    rw [h1, cnt_cut _ _ _ (by omega), hc]
theorem swf_inj {a b : Nat} {w w' : Nat → Nat} (h : (fun i => sw a b (w i)) = fun i => sw a b (w' i)) : w = w' := by
  funext i
  have := congrFun h i
  have this : sw a b (w i) = sw a b (w' i) := this
  have := congrArg (sw a b) this
  rwa [sw_sw, sw_sw] at this
theorem ok_step {n : Nat} (hn : n ≤ 8) {M C : Nat → Nat} (hG : Gr n M C) {k : Nat} (hk : k < n) : cd n (OK n M C k) = (tws M C k + 1) * cd n (OK n M C (k + 1)) := by
  have heq : ∀ j, j < tws M C k → cd n (fun w => OK n M C k w ∧ rnk M C k w = j) = cd n (fun w => OK n M C k w ∧ rnk M C k w = j + 1) := by
    intro j hj
    obtain ⟨u, hu, hp, hc⟩ := cnt_at hj
    have ht := dc_iff.mp hp
    have hs := sw_N hn hk (show u < n by omega)
    refine Nat.le_antisymm (cd_le (fun w => fun i => sw k u (w i)) (fun w hw h => ⟨hw.comp hs, ?_⟩) (fun w w' _ _ _ _ e => swf_inj e)) (cd_le (fun w => fun i => sw k u (w i)) (fun w hw h => ⟨hw.comp hs, ?_⟩) (fun w w' _ _ _ _ e => swf_inj e))
    · obtain ⟨a, b⟩ := ok_swap hn hG hk hu ht hc h.1 (Or.inl h.2)
      rw [if_pos h.2] at b
      exact ⟨a, b⟩
    · obtain ⟨a, b⟩ := ok_swap hn hG hk hu ht hc h.1 (Or.inr h.2)
      rw [if_neg (by omega)] at b
      exact ⟨a, b⟩
  have htop : cd n (fun w => OK n M C k w ∧ rnk M C k w = tws M C k) = cd n (OK n M C (k + 1)) := by
    refine cd_cong (fun w _ => ⟨fun ⟨h, hr⟩ => ⟨h.1, fun t v htv hv ht => ?_⟩, fun h => ?_⟩)
    · by_cases z : v = k
      · subst z
        have := rnk_iff hn hG hk h htv ht
        rw [this, hr]
        exact cnt_lt_of (P := twb M C v) htv (dc_yes ht)
      · exact h.2 t v htv (by omega) ht
    · refine ⟨⟨h.1, fun t v htv hv ht => h.2 t v htv (by omega) ht⟩, ?_⟩
      unfold rnk tws
      refine cnt_cong (fun x hx => ?_)
      cases ep : twb M C k x
      · rfl
      · rw [Bool.true_and]
        exact decide_eq_true (h.2 x k hx (by omega) (dc_iff.mp ep))
  refine cd_ranks (r := rnk M C k) (fun w _ _ => rnk_le M C k w) (fun j hj => ?_)
  have : ∀ d j, j + d = tws M C k → cd n (fun w => OK n M C k w ∧ rnk M C k w = j) = cd n (OK n M C (k + 1)) := by
    intro d
    induction d with
    | zero => intro j hj; rw [show j = tws M C k from by omega]; exact htop
    | succ d ih => intro j hj; rw [heq j (by omega)]; exact ih (j + 1) (by omega)
  exact this (tws M C k - j) j (by omega)
noncomputable def prT (M C : Nat → Nat) : Nat → Nat
  | 0 => 1
  | k + 1 => prT M C k * (tws M C k + 1)
theorem ok_prod {n : Nat} (hn : n ≤ 8) {M C : Nat → Nat} (hG : Gr n M C) : ∀ k, k ≤ n → cd n (Opt n M C) = prT M C k * cd n (OK n M C k)
  | 0, _ => by
    rw [prT, Nat.one_mul]
    exact cd_cong (fun w _ => ⟨fun h => ⟨h, fun t v _ hv => absurd hv (by omega)⟩, fun h => h.1⟩)
  | k + 1, hk => by rw [ok_prod hn hG k (by omega), ok_step hn hG (by omega), prT, Nat.mul_assoc]
/-- symmetries = leaves that are best, times the twins' numbers -/
theorem aut_count {n : Nat} (hn : n ≤ 8) {M C : Nat → Nat} (hG : Gr n M C) : cd n (Iso n M C M C) = prT M C n * cd n (fun w => Opt n M C w ∧ Tw n M C w) := by
  rw [cd_aut hn hG, ok_prod hn hG n (Nat.le_refl _)]
  rfl
/-- the vertices on the place of v are its orbit -/
theorem seen_orbit {n : Nat} (hn : n ≤ 8) {M C b : Nat → Nat} (hG : Gr n M C) (hb : Opt n M C b) {v y : Nat} (hv : v < n) (hy : y < n) : (∃ w, (Opt n M C w ∧ Tw n M C w) ∧ Twn M C (w (iv b v)) y) ↔ ∃ f, Iso n M C M C f ∧ f v = y := by
  have hp := hb.1.iv.lt hn hv
  constructor
  · rintro ⟨w, ⟨h1, h2⟩, h3⟩
    have hi := cod_iso hn hG hG hb.1 h1.1 (hb.same h1)
    have hw := h1.1.lt hn hp
    refine ⟨fun x => sw (w (iv b v)) y (w (iv b x)), hi.comp hn (twn_iso hn hG hw hy h3), ?_⟩
    show sw (w (iv b v)) y (w (iv b v)) = y
    exact sw_a _ _
  · rintro ⟨f, hf, rfl⟩
    obtain ⟨w, h1, h2, h3, _⟩ := tw_sort hn hG (hb.map hn hf)
    refine ⟨w, ⟨h1, h2⟩, ?_⟩
    have := h3 _ hp
    have this : Twn M C (w (iv b v)) (f (b (iv b v))) := this
    rwa [iv_r hb.1.1] at this
end

