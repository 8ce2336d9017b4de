/-! MATHEMATICS, 41: fixing -/
section
/-- f leaves the asked points below i -/
def fxT (a : Nat) (f : Nat → Nat) : Nat → Bool
  | 0 => true
  | j + 1 => fxT a f j && (!a.testBit j || f j == j)
theorem fxT_iff (a : Nat) (f : Nat → Nat) : ∀ n, fxT a f n = true ↔ ∀ j, j < n → a.testBit j = true → f j = j
  | 0 => ⟨fun _ j hj => absurd hj (by omega), fun _ => rfl⟩
  | n + 1 => by
    rw [fxT, Bool.and_eq_true, fxT_iff a f n]
    constructor
    · rintro ⟨h1, h2⟩ j hj hb
      by_cases e : j = n
      · subst e
        rw [hb] at h2
        simpa using h2
      · exact h1 j (by omega) hb
    · intro h
      refine ⟨fun j hj hb => h j (by omega) hb, ?_⟩
      cases e : a.testBit n
      · rfl
      · have := h n (by omega) e
        simp [this]
/-- the asked points are the first base points -/
theorem pos_asked {a v : Nat} (hv : v < 8) : a.testBit v = true ↔ pos a v < pop a := by
  unfold pos
  rw [if_pos hv]
  constructor
  · intro h
    rw [if_pos h]
    exact cnt_lt_of (P := fun j => a.testBit j) hv h
  · intro h
    cases e : a.testBit v
    · rw [e] at h
      rw [if_neg (by decide)] at h
      omega
    · rfl
theorem fix_base {a : Nat} {f : Nat → Nat} (hf : IsP f) : fxT a f 8 = true ↔ ∀ j, j < pop a → f (iv (pos a) j) = iv (pos a) j := by
  have hp := pos_P a
  have h8 := pop_le a
  rw [fxT_iff]
  constructor
  · intro h j hj
    have hv : iv (pos a) j < 8 := iv_lt (by omega)
    refine h _ hv ((pos_asked hv).mpr ?_)
    rw [iv_r hp]; exact hj
  · intro h v hv hb
    have := h (pos a v) ((pos_asked hv).mp hb)
    rw [iv_l hp] at this
    exact this
theorem countFixing_eq (F : Nat) (hF : 64 < F) {c : Nat} (hc : c ≤ 6) {g : Nat → Nat → Nat} (hg : ∀ i, i < c → IsP (g i)) {σ : zST} (hC : CGe c g σ) {N : Nat} {L : Nat → Nat → Nat} (hN : N ≤ 40320) (h38 : gI σ 38 0 = nI N) (hi : ∀ i j, i < N → j < N → L i = L j → i = j) (hL : ∀ f, Gp c g f ↔ Hd N L f) {a : Nat} (ha : a < 256) : ∃ τ, m_X3_countFixing F 36 (nI a) σ = some (nI (cnt (fun n => fxT a (L n) 8) N), τ) ∧ Fr (fun p _ => 42 ≤ p ∧ p ≤ 45) σ τ := by
  obtain ⟨s0, e0, b1, b2, b3⟩ := restart_eq F hF (q := 42) (a := a) ha σ
  have loop : ∀ d it n E m kt s, it + d = c → d < n → CR 42 N (iv (pos a)) E m kt s → (∀ i, i < it → SS8 (iv (pos a)) E 8 (g i)) → (∀ i x u, E i x = some u → Gp c g u) → Fr (fun p _ => 42 ≤ p ∧ p ≤ 45) σ s → ∃ τ, m_X3_countFixing_10 F n 36 (nI a) (nI it) s = some (nI (cnt (fun n => fxT a (L n) 8) N), τ) ∧ Fr (fun p _ => 42 ≤ p ∧ p ≤ 45) σ τ := by
    intro d
    induction d with
    | zero =>
      intro it n E m kt s h1 h2 hR hgen hE hf
      obtain ⟨n, rfl⟩ : ∃ k, n = k + 1 := ⟨n - 1, by omega⟩
      have : it = c := by omega
      subst this
      have hV := hR.1.2.1
      have h8 := pop_le a
      have hS := chain_group hR hgen hE hL (Nat.le_refl _)
      have hcount := chain_fix hV hS hi hL (k := pop a) h8 (fun f => fxT a f 8) (fun f hf => fix_base (Gp.isP hg hf))
      refine ⟨s, ?_, hf⟩
      rw [m_X3_countFixing_10]; dsimp only
      rw [(hf 36 0 (by omega)).1, hC.1, if_pos (nI_le (by omega) (by omega)), bitCount_eq F ha, bd_some, countFrom_eq F (by omega) hR.1.1 hV (i := pop a) (d := 8 - pop a) (by omega), bd_some, hcount]
    | succ d ih =>
      intro it n E m kt s h1 h2 hR hgen hE hf
      obtain ⟨n, rfl⟩ : ∃ k, n = k + 1 := ⟨n - 1, by omega⟩
      have hit : it < c := by omega
      obtain ⟨s1, E', m', kt', e1, c1, c2, c3, c4, c5⟩ := add_eq F hF (q := 42) (most := N) (by omega) hR (hg it hit)
      obtain ⟨τ, e2, f2⟩ := ih (it + 1) n E' m' kt' s1 (by omega) (by omega) c1 (fun i hil => by
        by_cases z : i = it
        · rw [z]; exact c3
        · exact SS8_mono hR.1.2.1 c2 8 (Nat.le_refl _) _ (hgen i (by omega))) (c5 (Gp c g) (Clo_Gp c g) hE (Gp.gen hit)) (hf.tr (c4.mono (fun p j z => by unfold KG at z; omega)))
      refine ⟨τ, ?_, f2⟩
      rw [m_X3_countFixing_10]; dsimp only
      rw [(hf 36 0 (by omega)).1, hC.1, if_neg (nI_ge hit (by omega)), ldL_at (by omega) (by omega), (hf 37 it (by omega)).2, hC.2 it hit]
      show bv (m_X1_add F 42 (lN (en (g it))) (gI s 38 0) s) _ = _
      rw [(hf 38 0 (by omega)).1, h38, e1, bv_some, nm_eq, nI_1]
      exact e2
  obtain ⟨τ, e, f⟩ := loop c 0 F (E0 (iv (pos a))) 0 (fun _ j => j) s0 (by omega) (by omega) (CR0 b1 b2) (fun i hi => absurd hi (by omega)) E0_Gp b3
  refine ⟨τ, ?_, f⟩
  unfold m_X3_countFixing
  show bv (m_X1_restart F 42 (nI a) σ) _ = _
  rw [e0, bv_some]
  rw [nI_0] at e
  exact e
end

