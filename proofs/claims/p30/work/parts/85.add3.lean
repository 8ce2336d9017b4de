/-! MATHEMATICS, 33: add; a chain at rest; the list of what sifts to nothing -/
section
theorem row_mono {E E' : Nat → Nat → Option (Nat → Nat)} (h : ∀ i x u, E i x = some u → E' i x = some u) (i : Nat) : row E i ≤ row E' i := by
  unfold row
  refine cnt_mono (fun x _ hx => ?_)
  cases e : E i x with
  | none => rw [e] at hx; exact absurd hx (by decide)
  | some u => rw [h i x u e]; rfl
theorem prod_mono {E E' : Nat → Nat → Option (Nat → Nat)} (h : ∀ i x u, E i x = some u → E' i x = some u) : ∀ d, prodFrom E d ≤ prodFrom E' d
  | 0 => Nat.le_refl _
  | d + 1 => by
    rw [prodFrom, prodFrom]
    exact Nat.mul_le_mul (row_mono h _) (prod_mono h d)
theorem Cl.mono {b : Nat → Nat} {E E' : Nat → Nat → Option (Nat → Nat)} {m m' : Nat} {kt kt' : Nat → Nat → Nat} {most c : Nat} (hV : VE b E) (hg : Gw E m kt E' m' kt') (hc : c ≤ m) (h : Cl b E kt most c) : Cl b E' kt' most c := by
  rcases h with p | p
  · exact Or.inl (fun x y hx hy => (p x y hx hy).mono hV hg (by omega) (by omega))
  · exact Or.inr (Nat.le_trans p (prod_mono hg.1 8))
/-- a chain at rest: all pairs sift, or it is full -/
def CR (q most : Nat) (b : Nat → Nat) (E : Nat → Nat → Option (Nat → Nat)) (m : Nat) (kt : Nat → Nat → Nat) (σ : zST) : Prop := CK q b E m kt σ ∧ gI σ q 2 = nI m ∧ Cl b E kt most m
theorem add_eq (F : Nat) (hF : 64 < F) {q most : Nat} (hmost : most < 2 ^ 31) {b : Nat → Nat} {E : Nat → Nat → Option (Nat → Nat)} {m : Nat} {kt : Nat → Nat → Nat} {σ : zST} (h : CR q most b E m kt σ) {f : Nat → Nat} (hf : IsP f) : ∃ τ E' m' kt', m_X1_add F q (lN (en f)) (nI most) σ = some τ ∧ CR q most b E' m' kt' τ ∧ (∀ i x u, E i x = some u → E' i x = some u) ∧ SS8 b E' 8 f ∧ Fr (KG q) σ τ ∧ ∀ Q, Clo Q → (∀ i x u, E i x = some u → Q u) → Q f → ∀ i x u, E' i x = some u → Q u := by
  obtain ⟨hC, h2, hl⟩ := h
  obtain ⟨s1, E1, m1, kt1, e1, c1, g1, t1, gm, gk, f1, q1⟩ := keep_eq F (by omega) hC hf
  have h28 := c1.m28
  have hg : Gw E m kt E1 m1 kt1 := ⟨g1, gm, gk⟩
  obtain ⟨τ, E', m', kt', e2, c2, z2, g2, q2, l2, f2⟩ := add_outer F (by omega) (q := q) hmost (28 - m) m F E1 m1 kt1 s1 (by omega) (by omega) c1 gm (hl.mono hC.2.1 hg (Nat.le_refl _))
  refine ⟨τ, E', m', kt', ?_, ⟨c2, z2, l2⟩, fun i x u e => g2.1 i x u (g1 i x u e), SS8_mono c1.2.1 g2.1 8 (Nat.le_refl _) _ t1, ?_, fun Q hQ hE hfQ => q2 Q hQ (q1 Q hQ hE hfQ)⟩
  · unfold m_X1_add
    rw [e1, bv_some, nm_eq, (f1 q 2 (by omega)).1, h2]
    exact e2
  · exact (f1.mono (fun p j hh => by unfold KG; omega)).tr f2
theorem iv_id : iv (fun j => j) = fun j => j := by
  funext y
  have := iv_l IsP.id (i := y)
  exact this
theorem SS8_up {b : Nat → Nat} {E : Nat → Nat → Option (Nat → Nat)} (hV : VE b E) {d : Nat} (hd : d < 8) {f : Nat → Nat} (h : SS8 b E d f) : SS8 b E (d + 1) f := by
  refine SS8_of h.1 (fun j hj => h.2.1 j (by omega)) (u := fun j => j) ?_ h
  rw [h.2.1 (7 - d) (by omega)]
  exact hV.2.1 _ (by omega)
theorem SS8_top {b : Nat → Nat} {E : Nat → Nat → Option (Nat → Nat)} (hV : VE b E) {f : Nat → Nat} : ∀ c d, d + c = 8 → SS8 b E d f → SS8 b E 8 f
  | 0, d, hd, h => by
    have : d = 8 := by omega
    rw [this] at h; exact h
  | c + 1, d, hd, h => SS8_top hV c (d + 1) (by omega) (SS8_up hV (by omega) h)
/-- what is kept sifts -/
theorem Kp_SS8 {b : Nat → Nat} {E : Nat → Nat → Option (Nat → Nat)} (hV : VE b E) {t : Nat → Nat} (h : Kp b E t) : SS8 b E 8 t := by
  obtain ⟨i, x, u, hi, hx, e, rfl⟩ := h
  have hu := hV.2.2 i x u hi hx e
  have hb : ∀ j, j < i → iv u (b j) = b j := by
    intro j hj
    have := hu.2.2 j hj
    have h := congrArg (iv u) this
    rw [iv_l hu.1] at h
    exact h.symm
  have hx' : iv u (b i) = x := by
    rw [← hu.2.1, iv_l hu.1]
  have hid : (fun j => u (iv u j)) = fun j => j := by
    funext j; exact iv_r hu.1
  refine SS8_top hV i (7 - i + 1) (by omega) (SS8_of hu.1.iv (fun j hj => hb j (by omega)) (u := u) ?_ ?_)
  · rw [show 7 - (7 - i) = i from by omega, hx']; exact e
  · rw [hid]; exact SS8_id hV _ (by omega)
/-- the two cases of a chain at rest -/
theorem CR.pairs {q most : Nat} {b : Nat → Nat} {E : Nat → Nat → Option (Nat → Nat)} {m : Nat} {kt : Nat → Nat → Nat} {σ : zST} (h : CR q most b E m kt σ) (hp : ∀ x y, x < m → y < m → Pr b E kt x y) : ∀ s t, Kp b E s → Kp b E t → SS8 b E 8 (fun j => s (t j)) := by
  obtain ⟨⟨_, hV, _, _, _, _, h4, _⟩, _, _⟩ := h
  have hk : ∀ t, Kp b E t → t = (fun j => j) ∨ ∃ a, a < m ∧ t = kt a := by
    rintro t ⟨i, x, u, hi, hx, e, rfl⟩
    by_cases z : x = b i
    · left
      subst z
      have := Option.some.inj (e.symm.trans (hV.2.1 i hi))
      rw [this, iv_id]
    · right
      obtain ⟨a, ha, ea⟩ := h4 i x u hi hx e z
      exact ⟨a, ha, ea.symm⟩
  intro s t hs ht
  rcases hk s hs with rfl | ⟨a, ha, rfl⟩
  · exact Kp_SS8 hV ht
  · rcases hk t ht with rfl | ⟨c, hc, rfl⟩
    · exact Kp_SS8 hV hs
    · exact (hp a c ha hc).1
/-- the list of what sifts to nothing -/
def LSr (e : Nat → Option (Nat → Nat)) (l : List (Nat → Nat)) : Nat → List (Nat → Nat)
  | 0 => []
  | n + 1 => LSr e l n ++ (match e n with
    | none => []
    | some u => l.map (fun f => fun j => iv u (f j)))
def LSt (E : Nat → Nat → Option (Nat → Nat)) : Nat → List (Nat → Nat)
  | 0 => [fun j => j]
  | d + 1 => LSr (E (7 - d)) (LSt E d) 8
theorem LSr_mem (e : Nat → Option (Nat → Nat)) (l : List (Nat → Nat)) (f : Nat → Nat) : ∀ n, f ∈ LSr e l n ↔ ∃ x u g, x < n ∧ e x = some u ∧ g ∈ l ∧ f = fun j => iv u (g j)
  | 0 => by
    rw [LSr]
    constructor
    · intro h; exact absurd h (by simp)
    · rintro ⟨x, u, g, h, _⟩; omega
  | n + 1 => by
    rw [LSr, List.mem_append, LSr_mem e l f n]
    constructor
    · rintro (⟨x, u, g, hx, h⟩ | h)
      · exact ⟨x, u, g, by omega, h⟩
      · cases en : e n with
        | none => rw [en] at h; exact absurd h (by simp)
        | some u =>
          rw [en] at h
          obtain ⟨g, hg, eg⟩ := List.mem_map.mp h
          exact ⟨n, u, g, by omega, en, hg, eg.symm⟩
    · rintro ⟨x, u, g, hx, h1, h2, h3⟩
      by_cases z : x = n
      · right
        subst z
        rw [h1]
        exact List.mem_map.mpr ⟨g, h2, h3.symm⟩
      · exact Or.inl ⟨x, u, g, by omega, h1, h2, h3⟩
theorem LSr_len (e : Nat → Option (Nat → Nat)) (l : List (Nat → Nat)) : ∀ n, (LSr e l n).length = cnt (fun x => (e x).isSome) n * l.length
  | 0 => by rw [LSr, cnt_0, Nat.zero_mul]; rfl
  | n + 1 => by
    rw [LSr, List.length_append, LSr_len e l n, cnt_s, Nat.add_mul]
    congr 1
    cases e n with
    | none => show 0 = 0 * _; omega
    | some u => show (l.map _).length = 1 * _; rw [List.length_map]; omega
theorem LSr_nodup {e : Nat → Option (Nat → Nat)} {l : List (Nat → Nat)} {p : Nat} (hl : l.Nodup) (hf : ∀ f ∈ l, f p = p) (he : ∀ x u, e x = some u → IsP u ∧ iv u p = x) : ∀ n, (LSr e l n).Nodup
  | 0 => List.nodup_nil
  | n + 1 => by
    rw [LSr, List.nodup_append]
    refine ⟨LSr_nodup hl hf he n, ?_, ?_⟩
    · cases en : e n with
      | none => exact List.nodup_nil
      | some u =>
        refine nodup_map_on hl (fun f g _ _ h => ?_)
        funext j
        have h1 := congrFun h j
        have h1 : iv u (f j) = iv u (g j) := h1
        have h2 := congrArg u h1
        rw [iv_r (he n u en).1, iv_r (he n u en).1] at h2
        exact h2
    · intro f hfm g hgm hfg
      obtain ⟨x, u, f', hx, e1, hf', e2⟩ := (LSr_mem e l f n).mp hfm
      cases en : e n with
      | none => rw [en] at hgm; exact absurd hgm (by simp)
      | some w =>
        rw [en] at hgm
        obtain ⟨g', hg', eg⟩ := List.mem_map.mp hgm
        have h1 : f p = x := by
          rw [e2]
          show iv u (f' p) = x
          rw [hf f' hf']; exact (he x u e1).2
        have h2 : g p = n := by
          rw [← eg]
          show iv w (g' p) = n
          rw [hf g' hg']; exact (he n w en).2
        rw [hfg, h2] at h1
        omega
theorem LSt_mem {b : Nat → Nat} {E : Nat → Nat → Option (Nat → Nat)} (hV : VE b E) : ∀ d, d ≤ 8 → ∀ f, f ∈ LSt E d ↔ SS8 b E d f
  | 0, _, f => by
    rw [LSt, List.mem_singleton]
    exact ⟨fun h => by rw [h]; exact SS8_id hV 0 (by omega), fun h => SS8_0 hV h⟩
  | d + 1, hd, f => by
    rw [LSt, LSr_mem]
    have ih := LSt_mem hV d (by omega)
    constructor
    · rintro ⟨x, u, g, hx, e, hg, rfl⟩
      have hg := (ih g).mp hg
      have hu := hV.2.2 _ x u (by omega) hx e
      have hid : (fun j => u (iv u (g j))) = g := by
        funext j; exact iv_r hu.1
      have hb : ∀ j, j < 7 - d → iv u (b j) = b j := by
        intro j hj
        have h := congrArg (iv u) (hu.2.2 j hj)
        rw [iv_l hu.1] at h
        exact h.symm
      refine SS8_of (hg.1.comp hu.1.iv) (fun j hj => ?_) (u := u) ?_ (by rw [hid]; exact hg)
      · show iv u (g (b j)) = b j
        rw [hg.2.1 j (by omega)]; exact hb j (by omega)
      · show E (7 - d) (iv u (g (b (7 - d)))) = some u
        rw [hg.2.1 _ (by omega), ← hu.2.1, iv_l hu.1]; exact e
    · intro h
      obtain ⟨u, e, hp, _, hs⟩ := SS8_succ hV (by omega) h
      refine ⟨f (b (7 - d)), u, fun j => u (f j), h.1.2.1 _ (hV.1.2.1 _ (by omega)), e, (ih _).mpr hs, ?_⟩
      funext j
      exact (iv_l hp).symm
theorem LSt_len (E : Nat → Nat → Option (Nat → Nat)) : ∀ d, (LSt E d).length = prodFrom E d
  | 0 => rfl
  | d + 1 => by rw [LSt, LSr_len, LSt_len E d, prodFrom]; rfl
theorem E_lt {b : Nat → Nat} {E : Nat → Nat → Option (Nat → Nat)} (hV : VE b E) {i : Nat} (hi : i < 8) : ∀ x, x < 8 → ∀ u, E i x = some u → IsP u ∧ iv u (b i) = x := by
  intro x hx u e
  have hu := hV.2.2 i x u hi hx e
  exact ⟨hu.1, by rw [← hu.2.1, iv_l hu.1]⟩
theorem LSr_cong {e e' : Nat → Option (Nat → Nat)} (l : List (Nat → Nat)) : ∀ n, (∀ x, x < n → e x = e' x) → LSr e l n = LSr e' l n
  | 0, _ => rfl
  | n + 1, h => by rw [LSr, LSr, LSr_cong l n (fun x hx => h x (by omega)), h n (by omega)]
theorem LSt_nodup {b : Nat → Nat} {E : Nat → Nat → Option (Nat → Nat)} (hV : VE b E) : ∀ d, d ≤ 8 → (LSt E d).Nodup
  | 0, _ => by rw [LSt]; simp
  | d + 1, hd => by
    rw [LSt, LSr_cong (e' := fun x => if x < 8 then E (7 - d) x else none) _ 8 (fun x hx => (if_pos hx).symm)]
    refine LSr_nodup (p := b (7 - d)) (LSt_nodup hV d (by omega)) (fun f hf => ((LSt_mem hV d (by omega) f).mp hf).2.1 _ (by omega)) (fun x u e => ?_) 8
    by_cases hx : x < 8
    · rw [if_pos hx] at e
      exact E_lt hV (by omega) x hx u e
    · rw [if_neg hx] at e
      exact absurd e (by simp)
end

