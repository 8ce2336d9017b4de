/-! THE LAW'S ISTURNED: symmetries and orbits -/
section
theorem cd_nums {n : Nat} (h1 : 1 ≤ n) (hn : n < 6) (p : (Nat → Nat) → Prop) : cd n p = cnt (fun k => dc (p (pmn n k))) (fac n) := by
  have hK : ∀ K, K ≤ fac n → cd n (fun w => p w ∧ ∃ k, k < K ∧ w = pmn n k) = cnt (fun k => dc (p (pmn n k))) K := by
    intro K
    induction K with
    | zero => intro _; rw [cd_none (fun w _ h => by obtain ⟨_, k, h, _⟩ := h; omega)]; rfl
    | succ K ih =>
      intro hK
      rw [cnt_s, ← ih (by omega)]
      have hN := pmn_N hn (show K < fac n by omega)
      have hno : ¬ (p (pmn n K) ∧ ∃ k, k < K ∧ pmn n K = pmn n k) := fun h => by
        obtain ⟨_, k, h1, h2⟩ := h
        have := pmn_inj hn (by omega) (by omega) h2
        omega
      by_cases q : p (pmn n K)
      · rw [dc_yes q, Bool.toNat_true]
        rw [← cd_add hN (p := fun w => p w ∧ ∃ k, k < K ∧ w = pmn n k) hno]
        refine cd_cong (fun w hw => ?_)
        constructor
        · rintro ⟨a, k, b, c⟩
          by_cases e : k = K
          · exact Or.inr (by rw [c, e])
          · exact Or.inl ⟨a, k, by omega, c⟩
        · rintro (⟨a, k, b, c⟩ | rfl)
          · exact ⟨a, k, by omega, c⟩
          · exact ⟨q, K, by omega, rfl⟩
      · have e1 : cd n (fun w => p w ∧ ∃ k, k < K + 1 ∧ w = pmn n k) = cd n (fun w => p w ∧ ∃ k, k < K ∧ w = pmn n k) := by
          refine cd_cong (fun w hw => ⟨fun h => ?_, fun h => ?_⟩)
          · obtain ⟨a, k, b, c⟩ := h
            refine ⟨a, k, ?_, c⟩
            by_cases e : k = K
            · rw [c, e] at a
              exact absurd a q
            · omega
          · obtain ⟨a, k, b, c⟩ := h
            exact ⟨a, k, by omega, c⟩
        rw [dc_no q, Bool.toNat_false, e1]
        exact (Nat.add_zero _).symm
  rw [← hK (fac n) (Nat.le_refl _)]
  refine cd_cong (fun w hw => ?_)
  constructor
  · intro a
    obtain ⟨k, b, c⟩ := pmn_onto h1 hn hw
    exact ⟨a, k, b, c.symm⟩
  · exact fun h => h.1
noncomputable def isoB (n : Nat) (M C : Nat → Nat) (k : Nat) : Bool := dc (Iso n M C M C (pmn n k))
noncomputable def mo (n : Nat) (M C : Nat → Nat) : Nat → Nat → Nat
  | 0, _ => 0
  | K + 1, j => if isoB n M C K = true then mo n M C K j ||| 2 ^ gim n K j else mo n M C K j
theorem mo_lt {n : Nat} (hn : n < 6) (M C : Nat → Nat) {j : Nat} (hj : j < n) : ∀ K, K ≤ fac n → mo n M C K j < 256
  | 0, _ => by rw [mo]; omega
  | K + 1, h => by
    have h1 := mo_lt hn M C hj K (by omega)
    rw [mo]
    split
    · have h2 := (img_ok n hn K (by omega) j hj).2
      exact Nat.or_lt_two_pow (n := 8) h1 (Nat.pow_lt_pow_right (by omega) (by omega))
    · exact h1
theorem mo_bit {n : Nat} (hn : n < 6) (M C : Nat → Nat) {j : Nat} (hj : j < n) (y : Nat) : ∀ K, K ≤ fac n → ((mo n M C K j).testBit y = true ↔ ∃ k, k < K ∧ Iso n M C M C (pmn n k) ∧ pmn n k j = y)
  | 0, _ => by
    rw [mo, Nat.zero_testBit]
    constructor
    · intro h; cases h
    · rintro ⟨k, h, _⟩; omega
  | K + 1, h => by
    have ih := mo_bit hn M C hj y K (by omega)
    rw [mo]
    by_cases q : Iso n M C M C (pmn n K)
    · rw [if_pos (show isoB n M C K = true from dc_yes q), Nat.testBit_or, Bool.or_eq_true, ih, Nat.testBit_two_pow, decide_eq_true_iff]
      constructor
      · rintro (⟨k, a, b⟩ | e)
        · exact ⟨k, by omega, b⟩
        · exact ⟨K, by omega, q, by rw [pmn_in hj, e]⟩
      · rintro ⟨k, a, b, c⟩
        by_cases e : k = K
        · exact Or.inr (by rw [← c, e, pmn_in hj])
        · exact Or.inl ⟨k, by omega, b, c⟩
    · rw [if_neg (show ¬ isoB n M C K = true from fun z => q (dc_iff.mp z)), ih]
      constructor
      · rintro ⟨k, a, b⟩; exact ⟨k, by omega, b⟩
      · rintro ⟨k, a, b, c⟩
        by_cases e : k = K
        · rw [e] at b; exact absurd b q
        · exact ⟨k, by omega, b, c⟩
theorem mo_orb {n : Nat} (h1 : 1 ≤ n) (hn : n < 6) {M C : Nat → Nat} : Orb n M C (mo n M C (fac n)) := fun v hv => by
  refine ⟨mo_lt hn M C hv _ (Nat.le_refl _), fun y => ?_⟩
  rw [mo_bit hn M C hv y _ (Nat.le_refl _)]
  constructor
  · rintro ⟨k, a, b, c⟩
    exact ⟨by rw [← c]; exact b.1.lt (by omega) hv, _, b, c⟩
  · rintro ⟨_, f, a, b⟩
    obtain ⟨k, c, rfl⟩ := pmn_onto h1 hn a.1
    exact ⟨k, c, a, b⟩
theorem isTurned_eq (F : Nat) (hF : 12 < F) {w k n : Nat} (hw : 49 ≤ w) (hk : k < 4) (hn : n < 6) {M C : Nat → Nat} {σ : zST} (hG : Gr n M C) (hA : At (2 + 3 * k) n M C σ) : AskOk (m_L_isTurned F w 0 (nI k) (lN (cde n M C (fun i => i))) σ) σ := by
  have h8 := hG.1.2
  have h1 := hG.1.1
  obtain ⟨hf1, hf2⟩ := fac_5 n hn
  have hlt2 := cde_lt h8 hG (IsN.id n)
  have hmm := mo_orb h1 hn (M := M) (C := C)
  have fa : Fr SQ σ (clI σ w) := fun q j hq => ⟨by
    show (if q = w then fun _ => (0 : Int32) else σ.1 q) j = _
    rw [if_neg (fun e => hq (by unfold SQ; omega))]; rfl, rfl⟩
  unfold m_L_isTurned m_L_isTurned_13
  rw [sizeg_eq F hG, bd_some, nm_eq]
  refine up_inv (fun m (K : Int32) (st : Int32 × zST) => m_L_isTurned_18 F w m 0 (nI k) (lN (cde n M C (fun i => i))) (nI n) st.1 w K st.2) (fac n) (fun K st => st.1 = nI (cnt (isoB n M C) K) ∧ (∀ j, j < n → gI st.2 w j = nI (mo n M C K j)) ∧ Fr SQ σ st.2) (fun o => AskOk o σ) (fun m K st hK hI => ?_) (fun m st hI => ?_) (fac n) 0 122 (0, clI σ w) (by omega) (by omega) ⟨rfl, fun j hj => by show (if w = w then fun _ => (0 : Int32) else σ.1 w) j = _; rw [if_pos rfl]; rfl, fa⟩
  · obtain ⟨a, s⟩ := st
    obtain ⟨i0, i1, i2⟩ := hI
    dsimp only at i0 i1 i2
    subst i0
    obtain ⟨s1, e1, f1⟩ := putg_eq F (by omega) (w + 1) hn hK hG s
    have hlt1 := cde_lt h8 hG (pmn_N hn hK).iv
    have j1 : ∀ j, j < n → gI s1 w j = nI (mo n M C K j) := fun j hj => by rw [(f1 w j (by omega)).1, i1 j hj]
    have hs1 : Fr SQ σ s1 := i2.tr (f1.mono (fun q j z => by unfold SQ; omega))
    -- the row of one map
    have row : ∀ c : Int32, ∃ s2, m_L_isTurned_64 F w (m_L_isTurned_18 F w m) F 0 (nI k) (lN (cde n M C (fun i => i))) (nI n) c w (nI K) (bI (isoB n M C K)) 0 s1 = m_L_isTurned_18 F w m 0 (nI k) (lN (cde n M C (fun i => i))) (nI n) c w (nI (K + 1)) s2 ∧ (∀ j, j < n → gI s2 w j = nI (mo n M C (K + 1) j)) ∧ Fr (fun q _ => q = w) s1 s2 := fun c => by
      cases q : isoB n M C K
      · refine ⟨s1, ?_, fun j hj => ?_, Fr.rf⟩
        · obtain ⟨F', rfl⟩ : ∃ F', F = F' + 1 := ⟨F - 1, by omega⟩
          rw [m_L_isTurned_64]; dsimp only
          unfold m_L_isTurned_101
          rw [if_neg (show ¬ nI n ≤ 0 from nI_nle h1 (by omega)), if_pos (by decide +kernel), nm_eq, nI_1]
        · rw [j1 j hj, mo, if_neg (by rw [q]; decide)]
      · refine up_inv0 (fun g (j : Int32) (s : zST) => m_L_isTurned_64 F w (m_L_isTurned_18 F w m) g 0 (nI k) (lN (cde n M C (fun i => i))) (nI n) c w (nI K) (bI true) j s) n (fun j s => (∀ x, x < n → gI s w x = nI (if x < j then mo n M C (K + 1) x else mo n M C K x)) ∧ Fr (fun q _ => q = w) s1 s) (fun o => ∃ s2, o = m_L_isTurned_18 F w m 0 (nI k) (lN (cde n M C (fun i => i))) (nI n) c w (nI (K + 1)) s2 ∧ (∀ j, j < n → gI s2 w j = nI (mo n M C (K + 1) j)) ∧ Fr (fun q _ => q = w) s1 s2) (fun g j s hj hI => ?_) (fun g s hI => ?_) (show n < F by omega) (s := s1) ⟨fun x hx => by rw [j1 x hx, if_neg (by omega)], Fr.rf⟩
        · obtain ⟨a1, a2⟩ := hI
          have hmv : mo n M C (K + 1) j = mo n M C K j ||| 2 ^ gim n K j := by rw [mo, if_pos q]
          have him := (img_ok n hn K hK j hj).2
          refine ⟨sI s w j (nI (mo n M C (K + 1) j)), ⟨fun x hx => ?_, a2.tr (Fr.sI rfl)⟩, ?_⟩
          · rw [gI_sI]
            by_cases e : x = j
            · rw [if_pos ⟨rfl, e⟩, e, if_pos (by omega)]
            · rw [if_neg (fun z => e z.2), a1 x hx]
              by_cases z : x < j
              · rw [if_pos z, if_pos (by omega)]
              · rw [if_neg z, if_neg (by omega)]
          · show m_L_isTurned_64 F w (m_L_isTurned_18 F w m) (g + 1) 0 (nI k) (lN (cde n M C (fun i => i))) (nI n) c w (nI K) (bI true) (nI j) s = _
            rw [m_L_isTurned_64]; dsimp only
            rw [if_neg (nI_ge hj (by omega)), if_neg (by decide +kernel), ldI_at (by omega) (by omega), image_eq F (by omega) hn hK hj, bd_some, a1 j hj, if_neg (by omega), shl1 (by omega), b_or, stI_at (by omega) (by omega), ← hmv, nm_eq, nI_1]
        · obtain ⟨a1, a2⟩ := hI
          refine ⟨s, ?_, fun j hj => by rw [a1 j hj, if_pos hj], a2⟩
          show m_L_isTurned_64 F w (m_L_isTurned_18 F w m) (g + 1) 0 (nI k) (lN (cde n M C (fun i => i))) (nI n) c w (nI K) (bI true) (nI n) s = _
          rw [m_L_isTurned_64]; dsimp only
          unfold m_L_isTurned_101
          rw [if_pos (nI_le (Nat.le_refl _) (by omega)), nm_eq, nI_1]
    obtain ⟨s2, e2, k2, f2⟩ := row (nI (cnt (isoB n M C) (K + 1)))
    refine ⟨(nI (cnt (isoB n M C) (K + 1)), s2), ⟨rfl, k2, hs1.tr (f2.mono (fun q j z => by unfold SQ; omega))⟩, ?_⟩
    show m_L_isTurned_18 F w (m + 1) 0 (nI k) (lN (cde n M C (fun i => i))) (nI n) (nI (cnt (isoB n M C) K)) w (nI K) s = _
    rw [m_L_isTurned_18]; dsimp only
    unfold m_L_isTurned_44 m_L_isTurned_58
    rw [maps_eq F (by omega) (by omega), bd_some, if_neg (nI_ge hK (by omega)), e1, bd_some, ← e2, cnt_s]
    by_cases q : Iso n M C M C (pmn n K)
    · rw [if_pos ((cmp_0 hlt1 hlt2).mpr (cde_eq.mpr ((put_iso h8 hG hG (pmn_N hn hK)).mpr q))), if_neg n10, nm_eq, nI_1, show isoB n M C K = true from dc_yes q]
      rfl
    · rw [if_neg (fun z => q ((put_iso h8 hG hG (pmn_N hn hK)).mp (cde_eq.mp ((cmp_0 hlt1 hlt2).mp z)))), if_pos rfl, nm_eq, show isoB n M C K = false from dc_no q, l0, nI_add]
      rfl
  · obtain ⟨a, s⟩ := st
    obtain ⟨i0, i1, i2⟩ := hI
    dsimp only at i0 i1 i2
    subst i0
    obtain ⟨s1, e1, f1⟩ := x_symmetries F (by omega) hk hG (at_q hA hk i2)
    have hcd : cnt (isoB n M C) (fac n) = cd n (Iso n M C M C) := (cd_nums h1 hn _).symm
    have hs1 := i2.tr (f1.mono SX_Q)
    have j1 : ∀ j, j < n → gI s1 w j = nI (mo n M C (fac n) j) := fun j hj => by rw [(f1 w j (by unfold SX; omega)).1, i1 j hj]
    show AskOk (m_L_isTurned_18 F w (m + 1) 0 (nI k) (lN (cde n M C (fun i => i))) (nI n) (nI (cnt (isoB n M C) (fac n))) w (nI (fac n)) s) σ
    rw [m_L_isTurned_18]; dsimp only
    unfold m_L_isTurned_125
    rw [maps_eq F (by omega) (by omega), bd_some, if_pos (nI_le (Nat.le_refl _) (by omega)), e1, br_inr, hcd, if_pos rfl]
    generalize hP : (fun v => decide (mo n M C (fac n) v &&& (2 ^ v - 1) = 0)) = P
    have hPv : ∀ v, P v = decide (mo n M C (fac n) v &&& (2 ^ v - 1) = 0) := fun v => by rw [← hP]
    refine up_inv (fun m (j : Int32) (st : Int32 × zST) => m_L_isTurned_130 F w m 0 (nI k) (nI n) w st.1 1 j st.2) n (fun j st => st.1 = nI (cnt P j) ∧ (∀ j, j < n → gI st.2 w j = nI (mo n M C (fac n) j)) ∧ Fr SQ σ st.2) (fun o => AskOk o σ) (fun m j st hj hI => ?_) (fun m st hI => ?_) n 0 7 (0, s1) (by omega) (by omega) ⟨rfl, j1, hs1⟩
    · obtain ⟨a, s⟩ := st
      obtain ⟨i0, i1, i2⟩ := hI
      dsimp only at i0 i1 i2
      subst i0
      obtain ⟨s2, e2, f2⟩ := x_orbit F (by omega) hk hG (at_q hA hk i2) hj hmm
      have hm256 := (hmm j hj).1
      have h2j : 0 < 2 ^ j ∧ 2 ^ j ≤ 32 := ⟨Nat.two_pow_pos j, Nat.pow_le_pow_right (n := 2) (i := j) (j := 5) (by omega) (by omega)⟩
      have hml := Nat.mod_lt (mo n M C (fac n) j) h2j.1
      have k2 : ∀ j, j < n → gI s2 w j = nI (mo n M C (fac n) j) := fun j hj => by rw [(f2 w j (by unfold SX; omega)).1, i1 j hj]
      refine ⟨(nI (cnt P (j + 1)), s2), ⟨rfl, k2, i2.tr (f2.mono SX_Q)⟩, ?_⟩
      show m_L_isTurned_130 F w (m + 1) 0 (nI k) (nI n) w (nI (cnt P j)) 1 (nI j) s = _
      rw [m_L_isTurned_130]; dsimp only
      unfold m_L_isTurned_157 m_L_isTurned_185
      rw [if_neg (nI_ge hj (by omega)), ldI_at (by omega) (by omega), i1 j hj, shl1 (by omega), gd_yes (nI_ne0 h2j.1 (by omega)), pk_rem (by omega) h2j.1 (by omega), cnt_s, hPv, Nat.and_two_pow_sub_one_eq_mod]
      by_cases q : mo n M C (fac n) j % 2 ^ j = 0
      · rw [if_pos (by rw [q]; rfl), nm_eq, if_neg n10, e2, br_inr, ldI_at (by omega) (by omega), k2 j hj, if_pos rfl, nm_eq, nI_1, nI_1, decide_eq_true q]
        rfl
      · rw [if_neg (nI_ne0 (by omega) (by omega)), nm_eq, if_neg n10, e2, br_inr, ldI_at (by omega) (by omega), k2 j hj, if_pos rfl, nm_eq, nI_1, decide_eq_false q, l0, nI_add]
        rfl
    · obtain ⟨a, s⟩ := st
      obtain ⟨i0, i1, i2⟩ := hI
      dsimp only at i0 i1 i2
      subst i0
      obtain ⟨s2, e2, f2⟩ := x_orbits F (by omega) hk hG (at_q hA hk i2) hmm
      rw [hP] at e2
      refine ⟨s2, ?_, i2.tr (f2.mono SX_Q)⟩
      show m_L_isTurned_130 F w (m + 1) 0 (nI k) (nI n) w (nI (cnt P n)) 1 (nI n) s = _
      rw [m_L_isTurned_130]; dsimp only
      rw [if_pos (nI_le (Nat.le_refl _) (by omega)), if_neg n10, e2, br_inr, if_pos rfl]
end
