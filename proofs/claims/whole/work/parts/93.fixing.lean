/-! MATHEMATICS, 41: fixing -/
section
/-- f leaves the asked points below i -/
def fxT (a : Nat) (f : Nat → Nat) : Nat → Bool
  | 0 => true
  | j + 1 => fxT a f j && (!a.testBit j || f j == j)
theorem fxT_iff (a : Nat) (f : Nat → Nat) : ∀ n, fxT a f n = true ↔ ∀ j, j < n → a.testBit j = true → f j = j
  | 0 => ⟨fun _ j hj => absurd hj (by omega), fun _ => rfl⟩
  | n + 1 => by
    rw [fxT, Bool.and_eq_true, fxT_iff a f n]
    constructor
    · rintro ⟨h1, h2⟩ j hj hb
      by_cases e : j = n
      · subst e
        rw [hb] at h2
        simpa using h2
      · exact h1 j (by omega) hb
    · intro h
      refine ⟨fun j hj hb => h j (by omega) hb, ?_⟩
      cases e : a.testBit n
      · rfl
      · have := h n (by omega) e
        simp [this]
/-- the asked points are the first base points -/
theorem pos_asked {a v : Nat} (hv : v < 8) : a.testBit v = true ↔ pos a v < pop a := by
  unfold pos
  rw [if_pos hv]
  constructor
  · intro h
    rw [if_pos h]
    exact cnt_lt_of (P := fun j => a.testBit j) hv h
  · intro h
    cases e : a.testBit v
    · rw [e] at h
      rw [if_neg (by decide)] at h
      omega
    · rfl
theorem fix_base {a : Nat} {f : Nat → Nat} (hf : IsP f) : fxT a f 8 = true ↔ ∀ j, j < pop a → f (iv (pos a) j) = iv (pos a) j := by
  have hp := pos_P a
  have h8 := pop_le a
  rw [fxT_iff]
  constructor
  · intro h j hj
    have hv : iv (pos a) j < 8 := iv_lt (by omega)
    refine h _ hv ((pos_asked hv).mpr ?_)
    rw [iv_r hp]; exact hj
  · intro h v hv hb
    have := h (pos a v) ((pos_asked hv).mp hb)
    rw [iv_l hp] at this
    exact this
theorem countFixing_eq (F : Nat) (hF : 64 < F) {c : Nat} (hc : c ≤ 6) {g : Nat → Nat → Nat} (hg : ∀ i, i < c → IsP (g i)) {σ : zST} (hC : CGe c g σ) {N : Nat} {L : Nat → Nat → Nat} (hN : N ≤ 40320) (h38 : gI σ 38 0 = nI N) (hi : ∀ i j, i < N → j < N → L i = L j → i = j) (hL : ∀ f, Gp c g f ↔ Hd N L f) {a : Nat} (ha : a < 256) : ∃ τ, m_X3_countFixing F 36 (nI a) σ = some (nI (cnt (fun n => fxT a (L n) 8) N), τ) ∧ Fr (fun p _ => 42 ≤ p ∧ p ≤ 45) σ τ := by
  obtain ⟨s0, e0, b1, b2, b3⟩ := restart_eq F hF (q := 42) (a := a) ha σ
  have loop : ∀ d it n E m kt s, it + d = c → d < n → CR 42 N (iv (pos a)) E m kt s → (∀ i, i < it → SS8 (iv (pos a)) E 8 (g i)) → (∀ i x u, E i x = some u → Gp c g u) → Fr (fun p _ => 42 ≤ p ∧ p ≤ 45) σ s → ∃ τ, m_X3_countFixing_10 F n 36 (nI a) (nI it) s = some (nI (cnt (fun n => fxT a (L n) 8) N), τ) ∧ Fr (fun p _ => 42 ≤ p ∧ p ≤ 45) σ τ := by
    intro d
    induction d with
    | zero =>
      intro it n E m kt s h1 h2 hR hgen hE hf
      obtain ⟨n, rfl⟩ : ∃ k, n = k + 1 := ⟨n - 1, by omega⟩
      have : it = c := by omega
      subst this
      have hV := hR.1.2.1
      have h8 := pop_le a
      have hS := chain_group hR hgen hE hL (Nat.le_refl _)
      have hcount := chain_fix hV hS hi hL (k := pop a) h8 (fun f => fxT a f 8) (fun f hf => fix_base (Gp.isP hg hf))
      refine ⟨s, ?_, hf⟩
      rw [m_X3_countFixing_10]; dsimp only
      rw [(hf 36 0 (by omega)).1, hC.1, if_pos (nI_le (by omega) (by omega)), bitCount_eq F ha, bd_some, countFrom_eq F (by omega) hR.1.1 hV (i := pop a) (d := 8 - pop a) (by omega), bd_some, hcount]
    | succ d ih =>
      intro it n E m kt s h1 h2 hR hgen hE hf
      obtain ⟨n, rfl⟩ : ∃ k, n = k + 1 := ⟨n - 1, by omega⟩
      have hit : it < c := by omega
      obtain ⟨s1, E', m', kt', e1, c1, c2, c3, c4, c5⟩ := add_eq F hF (q := 42) (most := N) (by omega) hR (hg it hit)
      obtain ⟨τ, e2, f2⟩ := ih (it + 1) n E' m' kt' s1 (by omega) (by omega) c1 (fun i hil => by
        by_cases z : i = it
        · rw [z]; exact c3
        · exact SS8_mono hR.1.2.1 c2 8 (Nat.le_refl _) _ (hgen i (by omega))) (c5 (Gp c g) (Clo_Gp c g) hE (Gp.gen hit)) (hf.tr (c4.mono (fun p j z => by unfold KG at z; omega)))
      refine ⟨τ, ?_, f2⟩
      rw [m_X3_countFixing_10]; dsimp only
      rw [(hf 36 0 (by omega)).1, hC.1, if_neg (nI_ge hit (by omega)), ldL_at (by omega) (by omega), (hf 37 it (by omega)).2, hC.2 it hit]
      show bv (m_X1_add F 42 (lN (en (g it))) (gI s 38 0) s) _ = _
      rw [(hf 38 0 (by omega)).1, h38, e1, bv_some, nm_eq, nI_1]
      exact e2
  obtain ⟨τ, e, f⟩ := loop c 0 F (E0 (iv (pos a))) 0 (fun _ j => j) s0 (by omega) (by omega) (CR0 b1 b2) (fun i hi => absurd hi (by omega)) E0_Gp b3
  refine ⟨τ, ?_, f⟩
  unfold m_X3_countFixing
  show bv (m_X1_restart F 42 (nI a) σ) _ = _
  rw [e0, bv_some]
  rw [nI_0] at e
  exact e
theorem bL_fixing (F : Nat) {x : Int32} (hx : Bad 256 x) (σ : zST) : m_L_fixing F 1 0 x 60 σ = some (1, σ) := by
  unfold m_L_fixing m_X7_fixing m_X7_fixing_11
  rcases hx with h | h
  · rw [if_pos h, bc_inl, if_pos rfl]
  · by_cases h0 : x < 0
    · rw [if_pos h0, bc_inl, if_pos rfl]
    · rw [if_neg h0, if_neg, bc_inl, if_pos rfl]
      intro z
      obtain ⟨j, hj, rfl⟩ := nI_of h0
      rw [nI_leI (by omega) hj] at h
      rw [show (255 : Int32) = nI 255 from rfl, nI_leI hj (by omega)] at z
      omega
theorem op_fixing (F : Nat) (hF : 40321 < F) (x : Int32) : Op (GJ GQ) (m_L_fixing F 1 0 x 60) (m_X8_fixing F 46 x) := by
  intro σ h
  have h' := h
  obtain ⟨hG, c, g, a1, a2, a3, a4, a5, ⟨N, L, h4, h5⟩⟩ := h
  have hN := inj_40320 (fun k hk => (h4.2.1 k hk).1) h4.2.2.1
  rcases Bad.or 256 (by omega) x with hx | ⟨a, ha, rfl⟩
  · refine Ok1.bad GQ.nb h' (c := 1) (r := 0) (by decide +kernel) (bL_fixing F hx σ) ?_
    obtain ⟨F', rfl⟩ : ∃ k, F = k + 1 := ⟨F - 1, by omega⟩
    unfold m_X8_fixing
    rw [show (255 : Int32) = nI 255 from rfl, in_bad _ (by omega) hx, bd_some, goes_1, bd_some, m_X8_fixing_19]; dsimp only
    unfold m_X8_fixing_111
    by_cases q : gI (sI σ 46 16 1) 46 14 ≤ 0
    · rw [if_pos q]
    · rw [if_neg q, if_pos rfl]
  · obtain ⟨n1, hn1, h38, h14⟩ := h'.2.order
    have hnn : n1 = N := (nI_eq (by omega) (by omega)).mp (h14.symm.trans h4.1)
    subst hnn
    obtain ⟨s1, e1, f1⟩ := countFixing_eq F (by omega) a1 a2 a3 hN h38 h4.2.2.1 h5 ha
    generalize hcc : cnt (fun n => fxT a (L n) 8) n1 = cc at e1
    generalize hs2 : sL s1 60 0 (nI cc).toInt64 = s2
    generalize hs3 : sI s2 46 16 0 = s3
    have f2 : Fr (fun p _ => (42 ≤ p ∧ p ≤ 45) ∨ p = 60) σ s2 := by
      subst hs2
      exact (f1.mono (fun _ _ z => Or.inl z)).tr (Fr.sL (by omega))
    have f3 : Fr (fun p j => (42 ≤ p ∧ p ≤ 45) ∨ p = 60 ∨ (p = 46 ∧ j = 16)) σ s3 := by
      subst hs3
      exact (f2.mono (fun p j z => by omega)).tr (Fr.sI (by omega))
    have h4' := h4.mv2 f3 (fun p j z => by omega)
    refine ⟨0, s2, nI cc, s3, ?_, ?_, ?_, fun _ => ?_, hG.mg (f3.mono (fun p j z => by unfold SG; omega)), h'.2.mv f3 (fun p j z => by omega)⟩
    · have e2 : m_X7_fixing F 0 (nI a) σ = some (.inr (nI cc), s1) := by
        unfold m_X7_fixing
        rw [if_neg (nI_pos (by omega)), show (255 : Int32) = nI 255 from rfl, if_pos (nI_le (by omega) (by omega))]
        show bd (m_X3_countFixing F 36 (nI a) σ) _ = _
        rw [e1, bd_some]
      unfold m_L_fixing
      rw [e2, bc_inr, out_at, hs2]
    · unfold m_X8_fixing
      rw [show (255 : Int32) = nI 255 from rfl, in_ok F (by omega) (show a < 255 + 1 by omega), bd_some, goes_0 F n10 n10, bd_some, hs3]
      have inner : ∀ (k19 : Nat → Int32 → Int32 → Int32 → Int32 → zST → Option (Int32 × zST)) (t k : Nat), k < n1 → m_X8_fixing_38 F k19 F 46 (nI a) (nI t) 1 (nI k) 1 0 s3 = k19 46 (nI a) (nI (t + (fxT a (L k) 8).toNat)) 1 (nI (k + 1)) s3 := by
        intro k19 t k hk
        have hP := (h4'.2.1 k hk).1
        refine up_loop0 (fun n (i : Int32) (s : Int32) => m_X8_fixing_38 F k19 n 46 (nI a) (nI t) 1 (nI k) s i s3) 8 (fun i => bI (fxT a (L k) i)) _ (fun n i hi => ?_) (fun n => ?_) (show 8 < F by omega)
        · show m_X8_fixing_38 F k19 (n + 1) 46 (nI a) (nI t) 1 (nI k) (bI (fxT a (L k) i)) (nI i) s3 = m_X8_fixing_38 F k19 n 46 (nI a) (nI t) 1 (nI k) (bI (fxT a (L k) (i + 1))) (nI (i + 1)) s3
          have hx := hP.2.1 i hi
          rw [m_X8_fixing_38]; dsimp only
          unfold m_X8_fixing_83 m_X8_fixing_79 m_X8_fixing_84
          rw [l8, if_neg (nI_ge hi (by omega)), fxT]
          cases e : fxT a (L k) i
          · rw [if_pos (by decide +kernel), nm_eq, nI_1]; rfl
          · rw [if_neg (by decide +kernel), shr_and1 (by omega) (by omega)]
            cases e2 : a.testBit i
            · rw [if_pos (by decide +kernel), nm_eq, nI_1]; rfl
            · rw [if_neg (by decide +kernel), ldI_at (show k < 40320 by omega) (by omega), (h4'.2.1 k hk).2, qk_b hP.2.1 hi]
              by_cases e3 : L k i = i
              · rw [e3, if_pos rfl, nm_eq, nI_1]; simp [bI]
              · rw [if_neg (fun z => e3 ((nI_eq (by omega) (by omega)).mp z)), nm_eq, nI_1]
                have : (L k i == i) = false := by simpa using e3
                rw [this]; rfl
        · show m_X8_fixing_38 F k19 (n + 1) 46 (nI a) (nI t) 1 (nI k) (bI (fxT a (L k) 8)) (nI 8) s3 = _
          rw [m_X8_fixing_38]; dsimp only
          unfold m_X8_fixing_103
          rw [l8, if_pos (nI_le (by omega) (by omega))]
          cases fxT a (L k) 8
          · rw [if_pos (by decide +kernel), nm_eq, nm_eq, nI_1, l0, nI_add]; rfl
          · rw [if_neg (by decide +kernel), nm_eq, nm_eq, nI_1, l1, nI_add]; rfl
      have := up_loop0 (fun n (i : Int32) (t : Int32) => m_X8_fixing_19 F n 46 (nI a) t 1 i s3) n1 (fun i => nI (cnt (fun n => fxT a (L n) 8) i)) (some (nI cc, s3)) (fun n i hi => by
        show m_X8_fixing_19 F (n + 1) 46 (nI a) (nI (cnt (fun n => fxT a (L n) 8) i)) 1 (nI i) s3 = m_X8_fixing_19 F n 46 (nI a) (nI (cnt (fun n => fxT a (L n) 8) (i + 1))) 1 (nI (i + 1)) s3
        rw [m_X8_fixing_19]; dsimp only
        rw [h4'.1, if_neg (nI_ge hi (by omega)), if_neg n10, inner _ _ i hi, cnt_s])
        (fun n => by
        show m_X8_fixing_19 F (n + 1) 46 (nI a) (nI (cnt (fun n => fxT a (L n) 8) n1)) 1 (nI n1) s3 = _
        rw [m_X8_fixing_19]; dsimp only
        unfold m_X8_fixing_111
        rw [h4'.1, if_pos (nI_le (by omega) (by omega)), hcc]) (show n1 < F by omega)
      exact this
    · subst hs3
      exact gI_same _ _ _ _
    · subst hs3
      rw [gL_sI]
      subst hs2
      exact gL_same _ _ _ _
end
