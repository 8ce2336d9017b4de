/-! MATHEMATICS, 23: what sifts to nothing is closed -/
section
/-- f leaves the first base points and sifts to nothing from level 8 - d -/
def SS8 (b : Nat → Nat) (E : Nat → Nat → Option (Nat → Nat)) (d : Nat) (f : Nat → Nat) : Prop := IsP f ∧ (∀ j, j < 8 - d → f (b j) = b j) ∧ (sfr b E d f).1 = 8
theorem SS8_succ {b : Nat → Nat} {E : Nat → Nat → Option (Nat → Nat)} (hV : VE b E) {d : Nat} (hd : d < 8) {f : Nat → Nat} (h : SS8 b E (d + 1) f) : ∃ u, E (7 - d) (f (b (7 - d))) = some u ∧ IsP u ∧ (∀ j, j < 7 - d → u (b j) = b j) ∧ SS8 b E d (fun j => u (f j)) := by
  obtain ⟨h1, h2, h3⟩ := h
  have hi8 : 7 - d < 8 := by omega
  cases e : E (7 - d) (f (b (7 - d))) with
  | none =>
    rw [sfr_none e] at h3
    have h3 : 7 - d = 8 := h3
    omega
  | some u =>
    rw [sfr_some e] at h3
    have hu := hV.2.2 _ _ u hi8 (h1.2.1 _ (hV.1.2.1 _ hi8)) e
    refine ⟨u, rfl, hu.1, hu.2.2, h1.comp hu.1, fun j q => ?_, h3⟩
    show u (f (b j)) = b j
    by_cases z : j = 7 - d
    · subst z; exact hu.2.1
    · rw [h2 j (by omega)]; exact hu.2.2 j (by omega)
theorem SS8_of {b : Nat → Nat} {E : Nat → Nat → Option (Nat → Nat)} {d : Nat} {f u : Nat → Nat} (hf : IsP f) (hj : ∀ j, j < 8 - (d + 1) → f (b j) = b j) (e : E (7 - d) (f (b (7 - d))) = some u) (h : SS8 b E d (fun j => u (f j))) : SS8 b E (d + 1) f := ⟨hf, hj, by rw [sfr_some e]; exact h.2.2⟩
theorem SS8_down {b : Nat → Nat} {E : Nat → Nat → Option (Nat → Nat)} (hV : VE b E) {d : Nat} (hd : d < 8) {f : Nat → Nat} (h : SS8 b E (d + 1) f) (hb : f (b (7 - d)) = b (7 - d)) : SS8 b E d f := by
  obtain ⟨u, e, _, _, hs⟩ := SS8_succ hV hd h
  rw [hb, hV.2.1 _ (by omega)] at e
  have : u = fun j => j := (Option.some.inj e).symm
  subst this
  exact hs
theorem SS8_from {b : Nat → Nat} {E : Nat → Nat → Option (Nat → Nat)} (hV : VE b E) {f : Nat → Nat} (h : SS8 b E 8 f) : ∀ d, d ≤ 8 → (∀ j, j < 8 - d → f (b j) = b j) → SS8 b E d f := by
  intro d hd
  obtain ⟨c, hc⟩ : ∃ c, d + c = 8 := ⟨8 - d, by omega⟩
  induction c generalizing d with
  | zero =>
    intro _
    have : d = 8 := by omega
    subst this
    exact h
  | succ c ih =>
    intro hj
    have := ih (d + 1) (by omega) (by omega) (fun j q => hj j (by omega))
    exact SS8_down hV (by omega) this (hj _ (by omega))
theorem SS8_id {b : Nat → Nat} {E : Nat → Nat → Option (Nat → Nat)} (hV : VE b E) : ∀ d, d ≤ 8 → SS8 b E d (fun j => j)
  | 0, _ => ⟨IsP.id, fun _ _ => rfl, rfl⟩
  | d + 1, h => SS8_of IsP.id (fun _ _ => rfl) (hV.2.1 (7 - d) (by omega)) (SS8_id hV d (by omega))
theorem SS8_0 {b : Nat → Nat} {E : Nat → Nat → Option (Nat → Nat)} (hV : VE b E) {f : Nat → Nat} (h : SS8 b E 0 f) : f = fun j => j := fix_id hV.1 h.1 h.2.1
/-- the elements that the table keeps -/
def Kp (b : Nat → Nat) (E : Nat → Nat → Option (Nat → Nat)) (t : Nat → Nat) : Prop := ∃ i x u, i < 8 ∧ x < 8 ∧ E i x = some u ∧ t = iv u
theorem Kp.isP {b : Nat → Nat} {E : Nat → Nat → Option (Nat → Nat)} (hV : VE b E) {t : Nat → Nat} (h : Kp b E t) : IsP t := by
  obtain ⟨i, x, u, hi, hx, e, rfl⟩ := h
  exact (hV.2.2 i x u hi hx e).1.iv
/-- products from one level on -/
theorem SS8_comp {b : Nat → Nat} {E : Nat → Nat → Option (Nat → Nat)} (hV : VE b E) {d : Nat} (hd : d ≤ 8) (hk : ∀ s, Kp b E s → (∀ j, j < 8 - d → s (b j) = b j) → ∀ f, SS8 b E d f → SS8 b E d (fun j => s (f j))) {f : Nat → Nat} (hf : SS8 b E d f) : ∀ e, e ≤ d → ∀ g, SS8 b E e g → SS8 b E d (fun j => g (f j)) := by
  intro e
  induction e with
  | zero =>
    intro _ g hg
    rw [SS8_0 hV hg]
    exact hf
  | succ e ih =>
    intro he g hg
    obtain ⟨u, hu, hp, hj, hs⟩ := SS8_succ hV (by omega) hg
    have h1 := ih (by omega) _ hs
    have hKt : Kp b E (iv u) := ⟨7 - e, _, u, by omega, hg.1.2.1 _ (hV.1.2.1 _ (by omega)), hu, rfl⟩
    have h2 := hk (iv u) hKt (fun j q => by
      have := hj j (by omega)
      rw [← this, iv_l hp, this]) _ h1
    have : (fun j => iv u (u (g (f j)))) = fun j => g (f j) := by
      funext j
      exact iv_l hp
    rw [← this]
    exact h2
/-- the theorem of the chain: products of two kept elements sift to nothing, so all do -/
theorem SS8_closed {b : Nat → Nat} {E : Nat → Nat → Option (Nat → Nat)} (hV : VE b E) (hP : ∀ s t, Kp b E s → Kp b E t → SS8 b E 8 (fun j => s (t j))) : ∀ d, d ≤ 8 → ∀ s, Kp b E s → (∀ j, j < 8 - d → s (b j) = b j) → ∀ f, SS8 b E d f → SS8 b E d (fun j => s (f j)) := by
  intro d
  induction d with
  | zero =>
    intro _ s hs hj f hf
    rw [SS8_0 hV hf]
    exact ⟨hs.isP hV, hj, rfl⟩
  | succ d ih =>
    intro hd s hs hj f hf
    obtain ⟨u, hu, hp, hju, hs'⟩ := SS8_succ hV (by omega) hf
    have hx := hf.1.2.1 _ (hV.1.2.1 (7 - d) (by omega))
    have hKt : Kp b E (iv u) := ⟨7 - d, _, u, by omega, hx, hu, rfl⟩
    have hst := hP s (iv u) hs hKt
    have hfix : ∀ j, j < 8 - (d + 1) → s (iv u (b j)) = b j := by
      intro j q
      have e : iv u (b j) = b j := by
        have := hju j (by omega)
        rw [← this, iv_l hp, this]
      rw [e]; exact hj j q
    have hst' := SS8_from hV hst (d + 1) (by omega) hfix
    obtain ⟨u', hu', hp', hju', hg⟩ := SS8_succ hV (by omega) hst'
    have efb : iv u (b (7 - d)) = f (b (7 - d)) := by
      have h0 : u (f (b (7 - d))) = b (7 - d) := hs'.2.1 (7 - d) (by omega)
      have h1 := congrArg (iv u) h0
      rw [iv_l hp] at h1
      exact h1.symm
    have hcomp := SS8_comp hV (by omega) (fun s hs hj f hf => ih (by omega) s hs hj f hf) hs' d (Nat.le_refl _) _ hg
    have hsf : IsP (fun j => s (f j)) := hf.1.comp (hs.isP hV)
    refine SS8_of hsf (fun j q => ?_) (u := u') ?_ ?_
    · show s (f (b j)) = b j
      rw [hf.2.1 j q]; exact hj j q
    · show E (7 - d) (s (f (b (7 - d)))) = some u'
      rw [← efb]; exact hu'
    · have : (fun j => u' (s (f j))) = fun j => (fun k => u' (s (iv u k))) ((fun k => u (f k)) j) := by
        funext j
        show u' (s (f j)) = u' (s (iv u (u (f j))))
        rw [iv_l hp]
      rw [this]
      exact hcomp
/-- so they are closed under products -/
theorem SS8_mul {b : Nat → Nat} {E : Nat → Nat → Option (Nat → Nat)} (hV : VE b E) (hP : ∀ s t, Kp b E s → Kp b E t → SS8 b E 8 (fun j => s (t j))) {g f : Nat → Nat} (hg : SS8 b E 8 g) (hf : SS8 b E 8 f) : SS8 b E 8 (fun j => g (f j)) :=
  SS8_comp hV (Nat.le_refl _) (SS8_closed hV hP 8 (Nat.le_refl _)) hf 8 (Nat.le_refl _) g hg
end

