/-! MATHEMATICS, 44: maps that keep all; twins -/
section
/-- f maps the graph M, C onto M', C' -/
def Iso (n : Nat) (M C M' C' f : Nat → Nat) : Prop := IsN n f ∧ (∀ v, v < n → C' (f v) = C v) ∧ ∀ u v, u < n → v < n → (M' (f u)).testBit (f v) = (M u).testBit v
theorem Iso.id (n : Nat) (M C : Nat → Nat) : Iso n M C M C (fun i => i) := ⟨IsN.id n, fun _ _ => rfl, fun _ _ _ _ => rfl⟩
theorem Iso.comp {n : Nat} (hn : n ≤ 8) {M C M' C' M'' C'' f g : Nat → Nat} (hf : Iso n M C M' C' f) (hg : Iso n M' C' M'' C'' g) : Iso n M C M'' C'' (fun i => g (f i)) := ⟨hf.1.comp hg.1, fun v hv => by
  show C'' (g (f v)) = C v
  rw [hg.2.1 _ (hf.1.lt hn hv), hf.2.1 v hv], fun u v hu hv => by
  show (M'' (g (f u))).testBit (g (f v)) = _
  rw [hg.2.2 _ _ (hf.1.lt hn hu) (hf.1.lt hn hv), hf.2.2 u v hu hv]⟩
theorem Iso.iv {n : Nat} (hn : n ≤ 8) {M C M' C' f : Nat → Nat} (hf : Iso n M C M' C' f) : Iso n M' C' M C (iv f) := ⟨hf.1.iv, fun v hv => by
  have := hf.2.1 _ (hf.1.iv.lt hn hv)
  rw [iv_r hf.1.1] at this
  exact this.symm, fun u v hu hv => by
  have := hf.2.2 _ _ (hf.1.iv.lt hn hu) (hf.1.iv.lt hn hv)
  rw [iv_r hf.1.1, iv_r hf.1.1] at this
  exact this.symm⟩
/-- codes go along -/
theorem iso_cod {n : Nat} (hn : n ≤ 8) {M C M' C' f w : Nat → Nat} (hf : Iso n M C M' C' f) (hw : IsN n w) : cod n M' C' (fun i => f (w i)) = cod n M C w := by
  have e1 : cw n C' (fun i => f (w i)) = cw n C w := rv_cong (fun i hi => hf.2.1 _ (hw.lt hn hi))
  have e2 : ec n M' (fun i => f (w i)) = ec n M w := eb_cong (fun i j hij hj => hf.2.2 _ _ (hw.lt hn (by omega)) (hw.lt hn hj))
  unfold cod
  rw [e1, e2]
/-- arrangements with one code are told apart by a map that keeps all -/
theorem cod_iso {n : Nat} (hn : n ≤ 8) {M C M' C' w w' : Nat → Nat} (hG : Gr n M C) (hG' : Gr n M' C') (hw : IsN n w) (hw' : IsN n w') (h : cod n M C w = cod n M' C' w') : Iso n M C M' C' (fun v => w' (iv w v)) := by
  obtain ⟨h1, h2⟩ := cod_inj h
  have c8 : ∀ v, v < n → C v < 8 := fun v hv => (hG.2 v (by omega)).1
  have c8' : ∀ v, v < n → C' v < 8 := fun v hv => (hG'.2 v (by omega)).1
  refine ⟨hw.iv.comp hw', fun v hv => ?_, fun u v hu hv => ?_⟩
  · have hl := hw.iv.lt hn hv
    have := rv_inj hn (fun i hi => c8 _ (hw.lt hn hi)) (fun i hi => c8' _ (hw'.lt hn hi)) h1 hl
    rw [iv_r hw.1] at this
    exact this.symm
  · have hlu := hw.iv.lt hn hu
    have hlv := hw.iv.lt hn hv
    have key : ∀ i j, i < j → j < n → (M (w i)).testBit (w j) = (M' (w' i)).testBit (w' j) := fun i j hij hj => eb_inj hn h2 hij hj
    have e1 := iv_r hw.1 (y := u)
    have e2 := iv_r hw.1 (y := v)
    show (M' (w' (iv w u))).testBit (w' (iv w v)) = (M u).testBit v
    generalize iv w u = i at *
    generalize iv w v = j at *
    subst e1 e2
    rcases Nat.lt_trichotomy i j with z | z | z
    · exact (key i j z hlv).symm
    · subst z
      rw [(hG.2 (w i) (by have := hw.lt hn hlu; omega)).2.2.2.1, (hG'.2 (w' i) (by have := hw'.lt hn hlu; omega)).2.2.2.1]
    · rw [(hG.2 (w j) (by have := hw.lt hn hlv; omega)).2.2.2.2 (w i) (by have := hw.lt hn hlu; omega), (hG'.2 (w' j) (by have := hw'.lt hn hlv; omega)).2.2.2.2 (w' i) (by have := hw'.lt hn hlu; omega)]
      exact (key j i z hlu).symm
theorem Opt.map {n : Nat} (hn : n ≤ 8) {M C f w : Nat → Nat} (h : Opt n M C w) (hf : Iso n M C M C f) : Opt n M C (fun i => f (w i)) := h.of (h.1.comp hf.1) (iso_cod hn hf h.1)
/-- twins: an exchange of them keeps all -/
def Twn (M C : Nat → Nat) (t v : Nat) : Prop := C t = C v ∧ ∀ x, x ≠ t → x ≠ v → (M t).testBit x = (M v).testBit x
theorem Twn.rf (M C : Nat → Nat) (v : Nat) : Twn M C v v := ⟨rfl, fun _ _ _ => rfl⟩
theorem Twn.sy {M C : Nat → Nat} {t v : Nat} (h : Twn M C t v) : Twn M C v t := ⟨h.1.symm, fun x h1 h2 => (h.2 x h2 h1).symm⟩
theorem Gr.sy {n : Nat} {M C : Nat → Nat} (hG : Gr n M C) {u v : Nat} (hu : u < 8) (hv : v < 8) : (M u).testBit v = (M v).testBit u := (hG.2 v hv).2.2.2.2 u hu
theorem Twn.tr {n : Nat} {M C : Nat → Nat} (hG : Gr n M C) {t u v : Nat} (ht : t < 8) (hu : u < 8) (hv : v < 8) (h1 : Twn M C t u) (h2 : Twn M C u v) : Twn M C t v := by
  refine ⟨h1.1.trans h2.1, fun x a b => ?_⟩
  by_cases e1 : t = u
  · rw [e1]; exact h2.2 x (by omega) b
  by_cases e2 : u = v
  · rw [← e2]; exact h1.2 x a (by omega)
  by_cases e3 : x = u
  · subst e3
    by_cases e4 : t = v
    · rw [e4]
    · -- t x: t's edge to x; v's edge to x
      have k1 : (M t).testBit v = (M x).testBit v := h1.2 v (by omega) (by omega)
      have k2 : (M x).testBit t = (M v).testBit t := h2.2 t (by omega) e4
      rw [hG.sy ht hu, k2, hG.sy hv ht, k1, hG.sy hu hv]
  · rw [h1.2 x a e3, h2.2 x e3 b]
theorem twn_iso {n : Nat} (hn : n ≤ 8) {M C : Nat → Nat} (hG : Gr n M C) {t v : Nat} (ht : t < n) (hv : v < n) (h : Twn M C t v) : Iso n M C M C (sw t v) := by
  by_cases e : t = v
  · subst e
    have : sw t t = fun i => i := by
      funext x
      unfold sw
      split
      · rename_i z; exact z.symm
      · rfl
    rw [this]
    exact Iso.id n M C
  refine ⟨sw_N hn ht hv, fun x hx => ?_, fun x y hx hy => ?_⟩
  · unfold sw
    split
    · rename_i z; rw [z, h.1]
    · split
      · rename_i z; rw [z, h.1]
      · rfl
  · have hn8 : ∀ {i}, i < n → i < 8 := fun hi => by omega
    have dg : ∀ i, i < 8 → (M i).testBit i = false := fun i hi => (hG.2 i hi).2.2.2.1
    by_cases x1 : x = t
    · rw [x1, sw_a]
      by_cases y1 : y = t
      · rw [y1, sw_a, dg _ (hn8 hv), dg _ (hn8 ht)]
      · by_cases y2 : y = v
        · rw [y2, sw_b]; exact hG.sy (hn8 hv) (hn8 ht)
        · rw [sw_o y1 y2]; exact (h.2 y y1 y2).symm
    · by_cases x2 : x = v
      · rw [x2, sw_b]
        by_cases y1 : y = t
        · rw [y1, sw_a]; exact hG.sy (hn8 ht) (hn8 hv)
        · by_cases y2 : y = v
          · rw [y2, sw_b, dg _ (hn8 hv), dg _ (hn8 ht)]
          · rw [sw_o y1 y2]; exact h.2 y y1 y2
      · rw [sw_o x1 x2]
        by_cases y1 : y = t
        · rw [y1, sw_a, hG.sy (hn8 hx) (hn8 hv), hG.sy (hn8 hx) (hn8 ht)]; exact (h.2 x x1 x2).symm
        · by_cases y2 : y = v
          · rw [y2, sw_b, hG.sy (hn8 hx) (hn8 ht), hG.sy (hn8 hx) (hn8 hv)]; exact h.2 x x1 x2
          · rw [sw_o y1 y2]
theorem iv_swv {n : Nat} (hn : n ≤ 8) {t v : Nat} (ht : t < n) (hv : v < n) {w : Nat → Nat} (hw : IsN n w) (x : Nat) : iv (fun i => sw t v (w i)) x = iv w (sw t v x) := by
  rw [iv_comp hw.1 (sw_N hn ht hv).1, iv_sw hn ht hv]
/-- lower twins lie on lower places -/
def Tw (n : Nat) (M C w : Nat → Nat) : Prop := ∀ t v, t < v → v < n → Twn M C t v → iv w t < iv w v
theorem sw_val {n : Nat} (hn : n ≤ 8) {w : Nat → Nat} (hw : IsN n w) {t v : Nat} (htv : t < v) (hv : v < n) (h : iv w v < iv w t) : rv n (iv (fun i => sw t v (w i))) < rv n (iv w) := by
  have ht : t < n := by omega
  have hs := (hw.comp (sw_N hn ht hv)).iv
  refine rv_first hn (i := t) (hs.l8 hn) ht ?_ (fun k hk => ?_)
  · rw [iv_swv hn ht hv hw, sw_a]; exact h
  · rw [iv_swv hn ht hv hw, sw_o (by omega) (by omega)]
/-- twins can be put in order, each on the place of a twin -/
theorem tw_sort {n : Nat} (hn : n ≤ 8) {M C w : Nat → Nat} (hG : Gr n M C) (h : Opt n M C w) : ∃ w', Opt n M C w' ∧ Tw n M C w' ∧ (∀ p, p < n → Twn M C (w' p) (w p)) ∧ rv n (iv w') ≤ rv n (iv w) := by
  obtain ⟨w', ⟨h1, h2, h3⟩, h4⟩ := min_ex (P := fun w' => Opt n M C w' ∧ (∀ p, p < n → Twn M C (w' p) (w p)) ∧ rv n (iv w') ≤ rv n (iv w)) (fun w => rv n (iv w)) ⟨w, h, fun _ _ => Twn.rf M C _, Nat.le_refl _⟩
  refine ⟨w', h1, fun t v htv hv ht => ?_, h2, h3⟩
  apply Classical.byContradiction
  intro z
  have hne : iv w' t ≠ iv w' v := fun e => by have := h1.1.iv.inj e; omega
  have hlt := sw_val hn h1.1 htv hv (show iv w' v < iv w' t by omega)
  have ht' : t < n := by omega
  have := h4 (fun i => sw t v (w' i)) ⟨h1.map hn (twn_iso hn hG ht' hv ht), fun p hp => ?_, by omega⟩
  · have hlt : rv n (iv (fun i => sw t v (w' i))) < rv n (iv w') := hlt
    omega
  · have hl := h1.1.lt hn hp
    have hl2 := h.1.lt hn hp
    show Twn M C (sw t v (w' p)) (w p)
    unfold sw
    split
    · rename_i e
      have k : Twn M C t (w p) := by have := h2 p hp; rwa [e] at this
      exact Twn.tr hG (by omega) (by omega) (by omega) ht.sy k
    · split
      · rename_i e
        have k : Twn M C v (w p) := by have := h2 p hp; rwa [e] at this
        exact Twn.tr hG (by omega) (by omega) (by omega) ht k
      · exact h2 p hp
/-- the best arrangement by places -/
def Bst (n : Nat) (M C w : Nat → Nat) : Prop := Opt n M C w ∧ ∀ w', Opt n M C w' → rv n (iv w) ≤ rv n (iv w')
theorem bst_ex (n : Nat) (M C : Nat → Nat) : ∃ w, Bst n M C w := min_ex (P := Opt n M C) (fun w => rv n (iv w)) (opt_ex n M C)
theorem bst_tw {n : Nat} (hn : n ≤ 8) {M C w : Nat → Nat} (hG : Gr n M C) (h : Bst n M C w) : Tw n M C w := by
  obtain ⟨w', h1, h2, _, h4⟩ := tw_sort hn hG h.1
  have := h.2 w' h1
  have e : iv w' = iv w := val_inj hn h1.1.iv h.1.1.iv (Nat.le_antisymm h4 this)
  intro t v a b c
  rw [← e]
  exact h2 t v a b c
theorem bst_one {n : Nat} (hn : n ≤ 8) {M C w w' : Nat → Nat} (h : Bst n M C w) (h' : Bst n M C w') : iv w = iv w' := val_inj hn h.1.1.iv h'.1.1.iv (Nat.le_antisymm (h.2 _ h'.1) (h'.2 _ h.1))
/-- the leaves of the search -/
def Lf (n : Nat) (M C w : Nat → Nat) : Prop := IsN n w ∧ Grd n M C w ∧ Tw n M C w
theorem opt_lf {n : Nat} (hn : n ≤ 8) {M C w : Nat → Nat} (hG : Gr n M C) (h : Opt n M C w) (ht : Tw n M C w) : Lf n M C w := ⟨h.1, opt_grd hn hG h, ht⟩
/-- a leaf with the least edges is best -/
theorem lf_opt {n : Nat} (hn : n ≤ 8) {M C w w0 : Nat → Nat} (hC : ∀ v, v < 8 → C v < 8) (h : Lf n M C w) (h0 : Opt n M C w0) (he : ec n M w ≤ ec n M w0) : Opt n M C w := by
  have e := asc_cw hn h.1 h0.1 (grd_asc h.2.1) (opt_asc hn hC h0)
  have h1 : cod n M C w ≤ cod n M C w0 := by unfold cod; rw [e]; omega
  exact h0.of h.1 (Nat.le_antisymm h1 (h0.2 _ h.1))
theorem lf_le {n : Nat} (hn : n ≤ 8) {M C w w0 : Nat → Nat} (hC : ∀ v, v < 8 → C v < 8) (h : Lf n M C w) (h0 : Opt n M C w0) : ec n M w0 ≤ ec n M w := by
  have e := asc_cw hn h.1 h0.1 (grd_asc h.2.1) (opt_asc hn hC h0)
  exact (cod_le (h0.2 _ h.1)).2 e.symm
theorem opt_ec {n : Nat} {M C w w0 : Nat → Nat} (h : Opt n M C w) (h0 : Opt n M C w0) : ec n M w = ec n M w0 := (cod_inj (h.same h0)).2
end

