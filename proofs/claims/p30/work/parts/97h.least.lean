/-! THE LAW'S LEAST AND FIRST -/
section
theorem iv_idL : iv (fun i => i) = fun i => i := by
  funext y
  have := iv_l IsP.id (i := y)
  exact this
theorem pmn_0 : ∀ n, n < 6 → ∀ i, i < n → gim n 0 i = i := by decide +kernel
theorem pmn_id {n : Nat} (hn : n < 6) : pmn n 0 = fun i => i := by
  refine (pmn_N hn (fac_5 n hn).1).ext (IsN.id n) (fun i hi => ?_)
  rw [pmn_in hi, pmn_0 n hn i hi]
theorem cde_eq {n : Nat} {M C w M2 C2 w2 : Nat → Nat} : cde n M C w = cde n M2 C2 w2 ↔ cod n M C w = cod n M2 C2 w2 := by
  unfold cde
  omega
theorem cde_le {n : Nat} {M C w M2 C2 w2 : Nat → Nat} : cde n M C w ≤ cde n M2 C2 w2 ↔ cod n M C w ≤ cod n M2 C2 w2 := by
  unfold cde
  omega
theorem least_eq (F : Nat) (hF : 9 < F) (w : Nat) {n : Nat} (hn : n < 6) {M C : Nat → Nat} (hG : Gr n M C) (σ : zST) : ∃ L τ, m_L_least F w (lN (cde n M C (fun i => i))) σ = some (nI L, τ) ∧ L < fac n ∧ Bst n M C (iv (pmn n L)) ∧ Fr (fun p _ => p = w) σ τ := by
  have h8 : n ≤ 8 := by omega
  obtain ⟨hf1, hf2⟩ := fac_5 n hn
  have hN : ∀ k, k < fac n → IsN n (pmn n k) := fun k hk => pmn_N hn hk
  unfold m_L_least
  have := up_inv (fun m (k : Int32) (st : (Int32 × Int64) × zST) => m_L_least_7 F w m (lN (cde n M C (fun i => i))) st.1.1 st.1.2 k st.2) (fac n) (fun k st => ∃ b, b < k ∧ st.1.1 = nI b ∧ st.1.2 = lN (cde n M C (iv (pmn n b))) ∧ (∀ j, j < k → cod n M C (iv (pmn n b)) ≤ cod n M C (iv (pmn n j))) ∧ (∀ j, j < b → cod n M C (iv (pmn n b)) < cod n M C (iv (pmn n j))) ∧ Fr (fun p _ => p = w) σ st.2) (fun o => ∃ L τ, o = some (nI L, τ) ∧ L < fac n ∧ Bst n M C (iv (pmn n L)) ∧ Fr (fun p _ => p = w) σ τ) (fun m k st hk hI => ?_) (fun m st hI => ?_) (fac n - 1) 1 121 ((0, lN (cde n M C (fun i => i))), σ) (by omega) (by omega) ⟨0, by omega, rfl, by rw [pmn_id hn, iv_idL], fun j hj => by rw [show j = 0 by omega]; exact Nat.le_refl _, fun j hj => absurd hj (by omega), Fr.rf⟩
  · exact this
  · obtain ⟨⟨a, c⟩, s⟩ := st
    obtain ⟨b, b1, b2, b3, b4, b5, b6⟩ := hI
    dsimp only at b2 b3 b6
    subst b2 b3
    obtain ⟨s', e1, f1⟩ := putg_eq F hF w hn hk hG s
    have hlt1 := cde_lt h8 hG (hN k hk).iv
    have hlt2 := cde_lt h8 hG (hN b (by omega)).iv
    show ∃ st', _ ∧ m_L_least_7 F w (m + 1) (lN (cde n M C (fun i => i))) (nI b) (lN (cde n M C (iv (pmn n b)))) (nI k) s = _
    rw [m_L_least_7]; dsimp only
    unfold m_L_least_40 m_L_least_54
    rw [sizeg_eq F hG, bd_some, maps_eq F (by omega) (by omega), bd_some, if_neg (nI_ge hk (by omega)), e1, bd_some]
    by_cases q : cde n M C (iv (pmn n b)) ≤ cde n M C (iv (pmn n k))
    · have q2 := cde_le.mp q
      rw [if_pos ((cmp_ge hlt1 hlt2).mpr q), if_pos ((cmp_ge hlt1 hlt2).mpr q), nm_eq, nI_1]
      refine ⟨((nI b, lN (cde n M C (iv (pmn n b)))), s'), ⟨b, by omega, rfl, rfl, fun j hj => ?_, b5, b6.tr f1⟩, rfl⟩
      by_cases e : j = k
      · rw [e]; exact q2
      · exact b4 j (by omega)
    · have q2 : cod n M C (iv (pmn n k)) < cod n M C (iv (pmn n b)) := Nat.lt_of_not_le (fun z => q (cde_le.mpr z))
      rw [if_neg (fun z => q ((cmp_ge hlt1 hlt2).mp z)), if_neg (fun z => q ((cmp_ge hlt1 hlt2).mp z)), nm_eq, nI_1]
      refine ⟨((nI k, lN (cde n M C (iv (pmn n k)))), s'), ⟨k, by omega, rfl, rfl, fun j hj => ?_, fun j hj => ?_, b6.tr f1⟩, rfl⟩
      · by_cases e : j = k
        · rw [e]; exact Nat.le_refl _
        · have := b4 j (by omega); omega
      · have := b4 j (by omega); omega
  · obtain ⟨⟨a, c⟩, s⟩ := st
    obtain ⟨b, b1, b2, b3, b4, b5, b6⟩ := hI
    dsimp only at b2 b3 b6
    subst b2 b3
    refine ⟨b, s, ?_, b1, ?_, b6⟩
    · show m_L_least_7 F w (m + 1) (lN (cde n M C (fun i => i))) (nI b) (lN (cde n M C (iv (pmn n b)))) (nI (fac n)) s = _
      rw [m_L_least_7]; dsimp only
      rw [sizeg_eq F hG, bd_some, maps_eq F (by omega) (by omega), bd_some, if_pos (nI_le (Nat.le_refl _) (by omega))]
    · have hall : ∀ w', IsN n w' → ∃ j, j < fac n ∧ w' = iv (pmn n j) := fun w' hw' => by
        obtain ⟨j, h1, h2⟩ := pmn_onto hG.1.1 hn hw'.iv
        exact ⟨j, h1, by rw [h2, iv_iv hw'.1]⟩
      refine ⟨⟨(hN b b1).iv, fun w' hw' => ?_⟩, fun w' hw' => ?_⟩
      · obtain ⟨j, h1, rfl⟩ := hall w' hw'
        exact b4 j h1
      · obtain ⟨j, h1, rfl⟩ := hall w' hw'.1
        rw [iv_iv (hN b b1).1, iv_iv (hN j h1).1]
        have h2 := hw'.2 _ (hN b b1).iv
        have h3 : b ≤ j := by
          rcases Nat.lt_or_ge j b with z | z
          · have := b5 j z; omega
          · exact z
        exact (pmn_le hn b1 h1).mpr h3
/-- a map puts one code onto another one if it carries the graph there -/
theorem put_iso {n : Nat} (hn : n ≤ 8) {M C M2 C2 p : Nat → Nat} (hG : Gr n M C) (hG2 : Gr n M2 C2) (hp : IsN n p) : cod n M C (iv p) = cod n M2 C2 (fun i => i) ↔ Iso n M C M2 C2 p := by
  constructor
  · intro h
    have := cod_iso hn hG hG2 hp.iv (IsN.id n) h
    rw [iv_iv hp.1] at this
    exact this
  · intro h
    have := iso_cod hn h hp.iv
    rw [← this]
    congr 1
    funext i
    rw [iv_r hp.1]
/-- what first answers -/
def FstOk (n n2 : Nat) (M C M2 C2 : Nat → Nat) (r : Int32) : Prop := (n = n2 ∧ ∃ L, L < fac n ∧ Iso n M C M2 C2 (pmn n L) ∧ (∀ g, Iso n M C M2 C2 g → rv n (pmn n L) ≤ rv n g) ∧ r = nI L) ∨ (¬ Alk n n2 M C M2 C2 ∧ r = -1)
theorem first_eq (F : Nat) (hF : 9 < F) (w : Nat) {n n2 : Nat} (hn : n < 6) (hn2 : n2 < 6) {M C M2 C2 : Nat → Nat} (hG : Gr n M C) (hG2 : Gr n2 M2 C2) (σ : zST) : ∃ r τ, m_L_first F w (lN (cde n M C (fun i => i))) (lN (cde n2 M2 C2 (fun i => i))) σ = some (r, τ) ∧ FstOk n n2 M C M2 C2 r ∧ Fr (fun p _ => p = w) σ τ := by
  have h8 : n ≤ 8 := by omega
  obtain ⟨hf1, hf2⟩ := fac_5 n hn
  have hN : ∀ k, k < fac n → IsN n (pmn n k) := fun k hk => pmn_N hn hk
  unfold m_L_first m_L_first_17
  rw [sizeg_eq F hG, bd_some, sizeg_eq F hG2, bd_some]
  by_cases e : n = n2
  · subst e
    rw [if_pos rfl]
    have hlt2 := cde_lt h8 hG2 (IsN.id n)
    have step : ∀ m k s, k < fac n → ∃ s', Fr (fun p _ => p = w) s s' ∧ m_L_first_19 F w (m + 1) (lN (cde n M C (fun i => i))) (lN (cde n M2 C2 (fun i => i))) (nI k) s = if cod n M C (iv (pmn n k)) = cod n M2 C2 (fun i => i) then some (nI k, s') else m_L_first_19 F w m (lN (cde n M C (fun i => i))) (lN (cde n M2 C2 (fun i => i))) (nI (k + 1)) s' := fun m k s hk => by
      obtain ⟨s', e1, f1⟩ := putg_eq F hF w hn hk hG s
      have hlt1 := cde_lt h8 hG (hN k hk).iv
      refine ⟨s', f1, ?_⟩
      rw [m_L_first_19]; dsimp only
      unfold m_L_first_48
      rw [sizeg_eq F hG, bd_some, maps_eq F (by omega) (by omega), bd_some, if_neg (nI_ge hk (by omega)), e1, bd_some]
      by_cases q : cod n M C (iv (pmn n k)) = cod n M2 C2 (fun i => i)
      · rw [if_pos ((cmp_0 hlt1 hlt2).mpr (cde_eq.mpr q)), if_pos q, sizeg_eq F hG, bd_some, maps_eq F (by omega) (by omega), bd_some, if_neg (nI_ge hk (by omega))]
      · rw [if_neg (fun z => q (cde_eq.mp ((cmp_0 hlt1 hlt2).mp z))), if_neg q, nm_eq, nI_1]
    by_cases hex : ∃ L, L < fac n ∧ Iso n M C M2 C2 (pmn n L)
    · obtain ⟨L0, hL0⟩ := hex
      obtain ⟨L, hLl, ⟨hL1, hL2⟩, hL3⟩ := least_of (P := fun L => L < fac n ∧ Iso n M C M2 C2 (pmn n L)) hL0
      refine up_inv (fun m (k : Int32) (s : zST) => m_L_first_19 F w m (lN (cde n M C (fun i => i))) (lN (cde n M2 C2 (fun i => i))) k s) L (fun k s => Fr (fun p _ => p = w) σ s) (fun o => ∃ r τ, o = some (r, τ) ∧ FstOk n n M C M2 C2 r ∧ Fr (fun p _ => p = w) σ τ) (fun m k s hk hI => ?_) (fun m s hI => ?_) L 0 122 σ (by omega) (by omega) Fr.rf
      · obtain ⟨s', f1, e1⟩ := step m k s (by omega)
        refine ⟨s', hI.tr f1, ?_⟩
        show m_L_first_19 F w (m + 1) (lN (cde n M C (fun i => i))) (lN (cde n M2 C2 (fun i => i))) (nI k) s = _
        rw [e1, if_neg (fun z => hL3 k hk ⟨by omega, (put_iso h8 hG hG2 (hN k (by omega))).mp z⟩)]
      · obtain ⟨s', f1, e1⟩ := step m L s hL1
        refine ⟨nI L, s', ?_, Or.inl ⟨rfl, L, hL1, hL2, fun g hg => ?_, rfl⟩, hI.tr f1⟩
        · show m_L_first_19 F w (m + 1) (lN (cde n M C (fun i => i))) (lN (cde n M2 C2 (fun i => i))) (nI L) s = _
          rw [e1, if_pos ((put_iso h8 hG hG2 (hN L hL1)).mpr hL2)]
        · obtain ⟨j, j1, rfl⟩ := pmn_onto hG.1.1 hn hg.1
          have : L ≤ j := by
            rcases Nat.lt_or_ge j L with z | z
            · exact absurd ⟨j1, hg⟩ (hL3 j z)
            · exact z
          exact (pmn_le hn hL1 j1).mpr this
    · refine up_inv (fun m (k : Int32) (s : zST) => m_L_first_19 F w m (lN (cde n M C (fun i => i))) (lN (cde n M2 C2 (fun i => i))) k s) (fac n) (fun k s => Fr (fun p _ => p = w) σ s) (fun o => ∃ r τ, o = some (r, τ) ∧ FstOk n n M C M2 C2 r ∧ Fr (fun p _ => p = w) σ τ) (fun m k s hk hI => ?_) (fun m s hI => ?_) (fac n) 0 122 σ (by omega) (by omega) Fr.rf
      · obtain ⟨s', f1, e1⟩ := step m k s hk
        refine ⟨s', hI.tr f1, ?_⟩
        show m_L_first_19 F w (m + 1) (lN (cde n M C (fun i => i))) (lN (cde n M2 C2 (fun i => i))) (nI k) s = _
        rw [e1, if_neg (fun z => hex ⟨k, hk, (put_iso h8 hG hG2 (hN k hk)).mp z⟩)]
      · refine ⟨-1, s, ?_, Or.inr ⟨fun z => ?_, rfl⟩, hI⟩
        · show m_L_first_19 F w (m + 1) (lN (cde n M C (fun i => i))) (lN (cde n M2 C2 (fun i => i))) (nI (fac n)) s = _
          rw [m_L_first_19]; dsimp only
          unfold m_L_first_48
          rw [sizeg_eq F hG, bd_some, maps_eq F (by omega) (by omega), bd_some, if_pos (nI_le (Nat.le_refl _) (by omega)), sizeg_eq F hG, bd_some, maps_eq F (by omega) (by omega), bd_some, if_pos (nI_le (Nat.le_refl _) (by omega))]
        · obtain ⟨_, q, hq⟩ := z
          obtain ⟨j, j1, rfl⟩ := pmn_onto hG.1.1 hn hq.1
          exact hex ⟨j, j1, hq⟩
  · rw [if_neg (fun z => e ((nI_eq (by omega) (by omega)).mp z))]
    refine ⟨-1, σ, ?_, Or.inr ⟨fun z => e z.1, rfl⟩, Fr.rf⟩
    rw [show (122 : Nat) = 121 + 1 from rfl, m_L_first_19]; dsimp only
    unfold m_L_first_48
    rw [sizeg_eq F hG, bd_some, maps_eq F (by omega) (by omega), bd_some, show (999999 : Int32) = nI 999999 from rfl, if_pos (nI_le (by omega) (by omega)), sizeg_eq F hG, bd_some, maps_eq F (by omega) (by omega), bd_some, if_pos (nI_le (by omega) (by omega))]
end
