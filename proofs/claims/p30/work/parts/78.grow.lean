/-! MATHEMATICS, 26: a table with one more entry -/
section
theorem sumTo_lt {f g : Nat → Nat} : ∀ {n : Nat}, (∀ i, i < n → f i ≤ g i) → sumTo f n ≤ sumTo g n
  | 0, _ => Nat.le_refl _
  | n + 1, h => by
    have := sumTo_lt (n := n) (fun i hi => h i (by omega))
    have := h n (by omega)
    rw [sumTo, sumTo]; omega
theorem sumTo_upd {f g : Nat → Nat} {l : Nat} : ∀ {n : Nat}, l < n → f l = g l + 1 → (∀ i, i < n → i ≠ l → f i = g i) → sumTo f n = sumTo g n + 1
  | 0, h, _, _ => absurd h (by omega)
  | n + 1, h, hl, ho => by
    rw [sumTo, sumTo]
    by_cases e : l = n
    · subst e
      rw [sumTo_cong (fun i hi => ho i (by omega) (by omega)), hl]; omega
    · rw [sumTo_upd (n := n) (by omega) hl (fun i hi hne => ho i (by omega) hne), ho n (by omega) (fun z => e z.symm)]; omega
/-- all rows are full at 36; with room for one more there are less -/
theorem rows_lt {b : Nat → Nat} {E : Nat → Nat → Option (Nat → Nat)} (hV : VE b E) {l j : Nat} (hl : l < 8) (hlj : l ≤ j) (hj : j < 8) (he : E l (b j) = none) : sumTo (row E) 8 < 36 := by
  have h1 : ∀ i, i < 8 → (fun i => if i = l then row E i + 1 else row E i) i ≤ 8 - i := by
    intro i hi
    show (if i = l then row E i + 1 else row E i) ≤ 8 - i
    split
    · rename_i e
      subst e
      have := (row_lt hV hi).2 j hlj hj he
      omega
    · exact (row_lt hV hi).1
  have h2 := sumTo_lt (g := fun i => 8 - i) h1
  have h3 : sumTo (fun i => if i = l then row E i + 1 else row E i) 8 = sumTo (row E) 8 + 1 := sumTo_upd (l := l) hl (if_pos rfl) (fun i _ hne => if_neg hne)
  have h4 : sumTo (fun i => 8 - i) 8 = 36 := rfl
  omega
def updE (E : Nat → Nat → Option (Nat → Nat)) (l y : Nat) (u : Nat → Nat) (i x : Nat) : Option (Nat → Nat) := if i = l ∧ x = y then some u else E i x
theorem updE_sub {E : Nat → Nat → Option (Nat → Nat)} {l y : Nat} {u : Nat → Nat} (h : E l y = none) {i x : Nat} {w : Nat → Nat} (e : E i x = some w) : updE E l y u i x = some w := by
  unfold updE
  rw [if_neg (fun z => by rw [z.1, z.2, h] at e; exact absurd e (by simp)), e]
theorem updE_at (E : Nat → Nat → Option (Nat → Nat)) (l y : Nat) (u : Nat → Nat) : updE E l y u l y = some u := if_pos ⟨rfl, rfl⟩
theorem VE.upd {b : Nat → Nat} {E : Nat → Nat → Option (Nat → Nat)} (hV : VE b E) {l y : Nat} {u : Nat → Nat} (hn : E l y = none) (hu : IsP u) (h1 : u y = b l) (h2 : ∀ j, j < l → u (b j) = b j) : VE b (updE E l y u) := by
  refine ⟨hV.1, fun i hi => updE_sub hn (hV.2.1 i hi), fun i x w hi hx e => ?_⟩
  unfold updE at e
  split at e
  · rename_i z
    have : u = w := Option.some.inj e
    subst this
    rw [z.1, z.2]
    exact ⟨hu, h1, h2⟩
  · exact hV.2.2 i x w hi hx e
theorem row_upd {E : Nat → Nat → Option (Nat → Nat)} {l y : Nat} {u : Nat → Nat} (hn : E l y = none) (hy : y < 8) : row (updE E l y u) l = row E l + 1 ∧ ∀ i, i ≠ l → row (updE E l y u) i = row E i := by
  constructor
  · unfold row
    have h : ∀ x, x < 8 → (updE E l y u l x).isSome = ((E l x).isSome || decide (x = y)) := by
      intro x _
      unfold updE
      by_cases e : x = y
      · rw [if_pos ⟨rfl, e⟩, decide_eq_true e, Bool.or_true]; rfl
      · rw [if_neg (fun z => e z.2), decide_eq_false e, Bool.or_false]
    rw [cnt_cong h, cnt_or (fun k _ z => by
      have : k = y := of_decide_eq_true z.2
      rw [this, hn] at z
      exact absurd z.1 (by decide)), cnt_one (j := y) hy (decide_eq_true rfl) (fun k _ hne => decide_eq_false hne)]
  · intro i hi
    unfold row
    refine cnt_cong (fun x _ => ?_)
    unfold updE
    rw [if_neg (fun z => hi z.1)]
theorem SS8_mono {b : Nat → Nat} {E E' : Nat → Nat → Option (Nat → Nat)} (hV : VE b E) (h : ∀ i x u, E i x = some u → E' i x = some u) : ∀ d, d ≤ 8 → ∀ f, SS8 b E d f → SS8 b E' d f := by
  intro d
  induction d with
  | zero => intro _ f hf; exact ⟨hf.1, hf.2.1, rfl⟩
  | succ d ih =>
    intro hd f hf
    obtain ⟨u, e, _, _, hs⟩ := SS8_succ hV (by omega) hf
    exact SS8_of hf.1 hf.2.1 (h _ _ _ e) (ih (by omega) _ hs)
/-- what was sifted, and kept, sifts to nothing -/
theorem SS8_kept {b : Nat → Nat} {E E' : Nat → Nat → Option (Nat → Nat)} (hV : VE b E) (hV' : VE b E') (h : ∀ i x u, E i x = some u → E' i x = some u) : ∀ d, d ≤ 8 → ∀ f, IsP f → (∀ j, j < 8 - d → f (b j) = b j) → ((sfr b E d f).1 < 8 → E' (sfr b E d f).1 ((sfr b E d f).2 (b (sfr b E d f).1)) = some (iv (sfr b E d f).2)) → SS8 b E' d f := by
  intro d
  induction d with
  | zero => intro _ f hf hj _; exact ⟨hf, hj, rfl⟩
  | succ d ih =>
    intro hd f hf hj hk
    have hi8 : 7 - d < 8 := by omega
    have hx := hf.2.1 _ (hV.1.2.1 _ hi8)
    cases e : E (7 - d) (f (b (7 - d))) with
    | none =>
      rw [sfr_none e] at hk
      have e' := hk (by show 7 - d < 8; omega)
      have : (fun j => iv f (f j)) = fun j => j := by
        funext j; exact iv_l hf
      exact SS8_of hf hj e' (by rw [this]; exact SS8_id hV' d (by omega))
    | some u =>
      rw [sfr_some e] at hk
      have hu := hV.2.2 _ _ u hi8 hx e
      refine SS8_of hf hj (h _ _ _ e) (ih (by omega) _ (hf.comp hu.1) (fun j q => ?_) hk)
      show u (f (b j)) = b j
      by_cases z : j = 7 - d
      · subst z; exact hu.2.1
      · rw [hj j (by omega)]; exact hu.2.2 j (by omega)
end

