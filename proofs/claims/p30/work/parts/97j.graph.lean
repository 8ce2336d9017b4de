/-! THE LAW'S ISREFINED, ISGRAPH -/
section
def SQ (q _j : Nat) : Prop := (14 ≤ q ∧ q ≤ 35) ∨ 49 ≤ q
def AskOk (o : Option (Int32 × zST)) (σ : zST) : Prop := ∃ τ, o = some (1, τ) ∧ Fr SQ σ τ
theorem SX_Q : ∀ q j, SX q j → SQ q j := fun q j z => Or.inl z
theorem at_q {k n : Nat} {M C : Nat → Nat} {σ τ : zST} (h : At (2 + 3 * k) n M C σ) (hk : k < 4) (hf : Fr SQ σ τ) : At (2 + 3 * k) n M C τ := h.mv hf (fun q j _ _ => by unfold SQ; omega)
theorem cd_g (F : Nat) (hF : 8 < F) {n : Nat} {M C : Nat → Nat} (hG : Gr n M C) : Cdd F n M C (lN (cde n M C (fun i => i))) := ⟨fun _ _ s hu hv => edgeg_eq F hF hG hu hv s, fun _ s hv => colourg_eq F hG hv s⟩
theorem round0 (F : Nat) (hF : 9 < F) (w : Nat) {n : Nat} (hn : n < 6) {M C : Nat → Nat} (hG : Gr n M C) {c0 : Int64} (hc0 : Cdd F n M C c0) (a1 : Int32) (g : Nat) (s0 : zST) : ∃ s, m_L_isRefined_27 F w (g + 1) 0 a1 c0 (nI n) w (w + 1) 0 1 (-1) s0 = m_L_isRefined_27 F w g 0 a1 c0 (nI n) w (w + 1) (nI (Cp n M C 0)) (nI (Cn n M C 0)) (nI 0) s ∧ (∀ v, v < n → gI s (w + 1) v = nI (Rk n M C 0 v)) ∧ Fr (fun q _ => q = w ∨ q = w + 1) s0 s := by
  obtain ⟨s1, e1, k1, f1⟩ := r53 F hF w hn hG (R := fun _ => 0) hc0 (m_L_isRefined_27 F w g) a1 0 0 (a9 := -1) (first := true) rfl (s0 := s0) (fun h => by cases h)
  have hK : ∀ x, x < n → gL s1 w x = lN (C x) ∧ C x < 2 ^ 63 := fun x hx => ⟨k1 x hx, Nat.lt_trans (hG.2 x (by have := hG.1.2; omega)).1 (by omega)⟩
  obtain ⟨s2, e2, k2, f2⟩ := r184 F hF w hn (m_L_isRefined_27 F w g) a1 c0 0 (a9 := -1) hK hG.1.1
  refine ⟨s2, ?_, k2, (f1.mono (fun q j z => Or.inl z)).tr (f2.mono (fun q j z => Or.inr z))⟩
  rw [m_L_isRefined_27]; dsimp only
  unfold m_L_isRefined_45
  rw [if_neg (by decide +kernel), if_neg (by decide +kernel), e1, e2]
  rfl
theorem roundS (F : Nat) (hF : 9 < F) (w : Nat) {n : Nat} (hn : n < 6) {M C : Nat → Nat} (hG : Gr n M C) {c0 : Int64} (hc0 : Cdd F n M C c0) (a1 : Int32) (g : Nat) {t : Nat} (ht : t < 9) (hlt : Cp n M C t < Cn n M C t) {s0 : zST} (hR : ∀ v, v < n → gI s0 (w + 1) v = nI (Rk n M C t v)) : ∃ s, m_L_isRefined_27 F w (g + 1) 0 a1 c0 (nI n) w (w + 1) (nI (Cp n M C t)) (nI (Cn n M C t)) (nI t) s0 = m_L_isRefined_27 F w g 0 a1 c0 (nI n) w (w + 1) (nI (Cp n M C (t + 1))) (nI (Cn n M C (t + 1))) (nI (t + 1)) s ∧ (∀ v, v < n → gI s (w + 1) v = nI (Rk n M C (t + 1) v)) ∧ Fr (fun q _ => q = w ∨ q = w + 1) s0 s := by
  have h8 := hG.1.2
  have hRl : ∀ v, v < n → Rk n M C t v < n := fun v hv => Rk_ltn M C t hv
  have hcn := Cn_le n M C t
  obtain ⟨s1, e1, k1, f1⟩ := r53 F hF w hn hG (R := Rk n M C t) hc0 (m_L_isRefined_27 F w g) a1 (nI (Cn n M C t)) 0 (a9 := nI t) (first := false) ⟨t, by omega, rfl⟩ (s0 := s0) (fun _ v hv => ⟨hR v hv, by have := hRl v hv; omega⟩)
  have hK : ∀ x, x < n → gL s1 w x = lN (kLw M (Rk n M C t) n x n) ∧ kLw M (Rk n M C t) n x n < 2 ^ 63 := fun x hx => ⟨k1 x hx, by
    have h1 := kL_lt M (Rk n M C t) n x hn hG hx (by have := hRl x hx; omega) n
    have h2 : 8 ^ n ≤ 8 ^ 5 := Nat.pow_le_pow_right (by omega) (by omega)
    have h3 : (8 : Nat) ^ 5 = 32768 := by decide
    omega⟩
  obtain ⟨s2, e2, k2, f2⟩ := r184 F hF w hn (m_L_isRefined_27 F w g) a1 c0 (nI (Cn n M C t)) (a9 := nI t) hK hG.1.1
  obtain ⟨o1, o2⟩ := rk_ord (K := fun x => kLw M (Rk n M C t) n x n) (L := fun x => key M (Rk n M C t) n x) (n := n) (fun u v hu hv => kL_ord hn hG hRl hu hv)
  refine ⟨s2, ?_, fun v hv => by rw [k2 v hv, o1 v hv]; rfl, (f1.mono (fun q j z => Or.inl z)).tr (f2.mono (fun q j z => Or.inr z))⟩
  rw [m_L_isRefined_27]; dsimp only
  unfold m_L_isRefined_45
  rw [if_neg (nI_ge hlt (by omega)), if_pos (show (0 : Int32) ≤ nI t from nI_pos' (by omega)), e1, e2, o2, nI_1]
  rfl
theorem isRefined_eq (F : Nat) (hF : 12 < F) {w k n : Nat} (hw : 49 ≤ w) (hk : k < 4) (hn : n < 6) {M C : Nat → Nat} {σ : zST} (hG : Gr n M C) (hA : At (2 + 3 * k) n M C σ) : AskOk (m_L_isRefined F w 0 (nI k) (lN (cde n M C (fun i => i))) σ) σ := by
  have h8 := hG.1.2
  have hc0 := cd_g F (by omega) hG
  obtain ⟨T, hT⟩ := endR_ex hG.1.1 h8 M C
  -- behind the loop
  have fin : ∀ s, Fr SQ σ s → (∀ v, v < n → gI s (w + 1) v = nI (Rk n M C T v)) → ∀ g, AskOk (m_L_isRefined_27 F w (g + 1) 0 (nI k) (lN (cde n M C (fun i => i))) (nI n) w (w + 1) (nI (Cp n M C T)) (nI (Cn n M C T)) (nI T) s) σ := fun s hs hR g => by
    obtain ⟨s1, e1, f1⟩ := x_classes F (by omega) hk hG (at_q hA hk hs) hT
    have hs1 := hs.tr (f1.mono SX_Q)
    obtain ⟨s2, e2, f2⟩ := x_rounds F (by omega) hk hG (at_q hA hk hs1) hT
    have hs2 := hs1.tr (f2.mono SX_Q)
    have hR2 : ∀ v, v < n → gI s2 (w + 1) v = nI (Rk n M C T v) := fun v hv => by
      rw [(f2 (w + 1) v (by unfold SX; omega)).1, (f1 (w + 1) v (by unfold SX; omega)).1, hR v hv]
    have hcp : Cp n M C T ≤ n := by
      cases T with
      | zero => exact Nat.zero_le _
      | succ t => exact Cn_le n M C t
    rw [m_L_isRefined_27]; dsimp only
    unfold m_L_isRefined_350
    rw [if_pos (nI_le hT.2.2.1 (by omega)), e1, br_inr, if_pos rfl, e2, br_inr, if_pos rfl]
    refine up_inv (fun m (v : Int32) (s : zST) => m_L_isRefined_355 F w m 0 (nI k) (nI n) (w + 1) 1 v s) n (fun v s => Fr SQ σ s ∧ ∀ v, v < n → gI s (w + 1) v = nI (Rk n M C T v)) (fun o => AskOk o σ) (fun m v s hv hI => ?_) (fun m s hI => ?_) n 0 7 s2 (by omega) (by omega) ⟨hs2, hR2⟩
    · obtain ⟨i1, i2⟩ := hI
      obtain ⟨s', e3, f3⟩ := x_classOf F (by omega) hk hG (at_q hA hk i1) hv hT
      have i3 : ∀ v, v < n → gI s' (w + 1) v = nI (Rk n M C T v) := fun v hv => by rw [(f3 (w + 1) v (by unfold SX; omega)).1, i2 v hv]
      refine ⟨s', ⟨i1.tr (f3.mono SX_Q), i3⟩, ?_⟩
      show m_L_isRefined_355 F w (m + 1) 0 (nI k) (nI n) (w + 1) 1 (nI v) s = _
      rw [m_L_isRefined_355]; dsimp only
      unfold m_L_isRefined_387
      rw [if_neg (nI_ge hv (by omega)), if_neg n10, e3, br_inr, ldI_at (by omega) (by omega), i3 v hv, if_pos rfl, nm_eq, nI_1]
    · obtain ⟨i1, i2⟩ := hI
      refine ⟨s, ?_, i1⟩
      show m_L_isRefined_355 F w (m + 1) 0 (nI k) (nI n) (w + 1) 1 (nI n) s = _
      rw [m_L_isRefined_355]; dsimp only
      unfold m_L_isRefined_395
      rw [if_pos (nI_le (Nat.le_refl _) (by omega)), gd_yes (Or.inr rfl)]
  have go : ∀ (d t g : Nat) (s : zST), t + d = T → d < g → Fr SQ σ s → (∀ v, v < n → gI s (w + 1) v = nI (Rk n M C t v)) → AskOk (m_L_isRefined_27 F w g 0 (nI k) (lN (cde n M C (fun i => i))) (nI n) w (w + 1) (nI (Cp n M C t)) (nI (Cn n M C t)) (nI t) s) σ := by
    intro d
    induction d with
    | zero =>
      intro t g s ht hg hs hR
      obtain ⟨g', rfl⟩ : ∃ g', g = g' + 1 := ⟨g - 1, by omega⟩
      obtain rfl : t = T := by omega
      exact fin s hs hR g'
    | succ d ih =>
      intro t g s ht hg hs hR
      obtain ⟨g', rfl⟩ : ∃ g', g = g' + 1 := ⟨g - 1, by omega⟩
      have h8T := hT.2.1
      obtain ⟨s', e1, k1, f1⟩ := roundS F (by omega) w hn hG hc0 (nI k) g' (by omega) (hT.2.2.2 t (by omega)) hR
      rw [e1]
      exact ih (t + 1) g' s' (by omega) (by omega) (hs.tr (f1.mono (fun q j z => by unfold SQ; omega))) k1
  unfold m_L_isRefined m_L_isRefined_10 m_L_isRefined_16
  rw [sizeg_eq F hG, bd_some, nm_eq, nm_eq]
  have fa : Fr SQ σ (clL σ w) := fun q j hq => ⟨rfl, by
    show (if q = w then fun _ => (0 : Int64) else σ.2 q) j = _
    rw [if_neg (fun e => hq (by unfold SQ; omega))]; rfl⟩
  have fb : Fr SQ (clL σ w) (clI (clL σ w) (w + 1)) := fun q j hq => ⟨by
    show (if q = w + 1 then fun _ => (0 : Int32) else (clL σ w).1 q) j = _
    rw [if_neg (fun e => hq (by unfold SQ; omega))]; rfl, rfl⟩
  have h8T := hT.2.1
  obtain ⟨F', rfl⟩ : ∃ F', F = F' + 1 := ⟨F - 1, by omega⟩
  obtain ⟨s1, e1, k1, f1⟩ := round0 (F' + 1) (by omega) w hn hG hc0 (nI k) F' (clI (clL σ w) (w + 1))
  rw [e1]
  exact go T 0 F' s1 (by omega) (by omega) ((fa.tr fb).tr (f1.mono (fun q j z => by unfold SQ; omega))) k1
/-- edges counted from above -/
theorem edg_dn {n : Nat} {M C : Nat → Nat} (hG : Gr n M C) : edg M = sumTo (fun i => sumTo (fun j => if j < i then ((M i).testBit j).toNat else 0) n) n := by
  have h8 := hG.1.2
  rw [edg_sum hG, sumTo_sw]
  refine sumTo_cong (fun j hj => sumTo_cong (fun i hi => ?_))
  by_cases h : i < j
  · rw [if_pos h, if_pos h, hG.sy (u := i) (v := j) (by omega) (by omega)]
  · rw [if_neg h, if_neg h]
theorem edg_25 {n : Nat} (hn : n < 6) (f : Nat → Nat → Bool) (m : Nat) (hm : m ≤ n) : sumTo (fun i => sumTo (fun j => if j < i then (f i j).toNat else 0) n) m ≤ 25 := by
  have h := sumTo_le (fun i => sumTo (fun j => if j < i then (f i j).toNat else 0) n) n m (fun i _ => by
    have := sumTo_le (fun j => if j < i then (f i j).toNat else 0) 1 n (fun j _ => by
      split
      · cases f i j <;> decide
      · omega)
    omega)
  have : m * n ≤ 5 * 5 := Nat.mul_le_mul (by omega) (by omega)
  omega
theorem isGraph_eq (F : Nat) (hF : 12 < F) {w k n : Nat} (hw : 49 ≤ w) (hk : k < 4) (hn : n < 6) {M C : Nat → Nat} {σ : zST} (hG : Gr n M C) (hA : At (2 + 3 * k) n M C σ) : AskOk (m_L_isGraph F w 0 (nI k) (lN (cde n M C (fun i => i))) σ) σ := by
  have h8 := hG.1.2
  have fw : ∀ s s', Fr (fun p _ => p = w) s s' → Fr SQ s s' := fun s s' h => h.mono (fun q j z => by unfold SQ; omega)
  obtain ⟨L, s1, e1, hL, hB, f1⟩ := least_eq F (by omega) w hn hG σ
  have hs1 := fw _ _ f1
  have hp := pmn_N hn hL
  obtain ⟨s2, e2, f2⟩ := x_form F (by omega) hk hG (at_q hA hk hs1) hB
  have hs2 := hs1.tr (f2.mono SX_Q)
  obtain ⟨s3, e3, f3⟩ := putg_eq F (by omega) w hn hL hG s2
  have hs3 := hs2.tr (fw _ _ f3)
  have hlt := cde_lt h8 hG hp.iv
  unfold m_L_isGraph m_L_isGraph_45
  rw [sizeg_eq F hG, bd_some, e1, bd_some, x_size F hk (at_q hA hk hs1), br_inr, if_pos rfl, e2, br_inr, e3, bd_some, if_pos ((cmp_0 hlt hlt).mpr rfl)]
  have hLf : L < 120 := by have := (fac_5 n hn).2; omega
  refine up_inv (fun m (v : Int32) (st : Int32 × zST) => m_L_isGraph_50 F w m 0 (nI k) (lN (cde n M C (fun i => i))) (nI n) st.1 (nI L) 1 v st.2) n (fun v st => st.1 = nI (sumTo (fun i => sumTo (fun j => if j < i then ((M i).testBit j).toNat else 0) n) v) ∧ Fr SQ σ st.2) (fun o => AskOk o σ) (fun m v st hv hI => ?_) (fun m st hI => ?_) n 0 7 (0, s3) (by omega) (by omega) ⟨rfl, hs3⟩
  · obtain ⟨a, s⟩ := st
    obtain ⟨i0, i1⟩ := hI
    dsimp only at i0 i1
    subst i0
    have hA1 := at_q hA hk i1
    obtain ⟨s5, e5, f5⟩ := x_placeOf F (by omega) hk hG hA1 hv hB
    have hiv : iv (iv (pmn n L)) v = gim n L v := by rw [iv_iv hp.1, pmn_in hv]
    have h25 := edg_25 hn (fun i j => (M i).testBit j) v (by omega)
    have hrow := sumTo_le (fun j => if j < v then ((M v).testBit j).toNat else 0) 1
    refine ⟨(nI (sumTo (fun i => sumTo (fun j => if j < i then ((M i).testBit j).toNat else 0) n) (v + 1)), s5), ⟨rfl, i1.tr (f5.mono SX_Q)⟩, ?_⟩
    show m_L_isGraph_50 F w (m + 1) 0 (nI k) (lN (cde n M C (fun i => i))) (nI n) (nI (sumTo (fun i => sumTo (fun j => if j < i then ((M i).testBit j).toNat else 0) n) v)) (nI L) 1 (nI v) s = _
    rw [m_L_isGraph_50]; dsimp only
    rw [if_neg (nI_ge hv (by omega)), if_neg n10, sumTo]
    generalize hE : sumTo (fun i => sumTo (fun j => if j < i then ((M i).testBit j).toNat else 0) n) v = E at h25
    have hmask : ∀ j, j ≤ n → msk (fun j => (M v).testBit j) j < 256 := fun j hj => Nat.lt_of_lt_of_le (msk_lt _ _) (by
      have : 2 ^ j ≤ 2 ^ 5 := Nat.pow_le_pow_right (by omega) (by omega)
      omega)
    have hmn : msk (fun j => (M v).testBit j) n = M v := by
      apply Nat.eq_of_testBit_eq
      intro y
      rw [msk_bit]
      by_cases z : y < n
      · rw [decide_eq_true z, Bool.true_and]
      · rw [decide_eq_false z, Bool.false_and]
        exact (bit_big (hG.2 v (by omega)).2.1 (by omega)).symm
    refine up_loop0 (fun g (j : Int32) (z : Int32 × Int32) => m_L_isGraph_68 F w (m_L_isGraph_50 F w m) g 0 (nI k) (lN (cde n M C (fun i => i))) (nI n) z.1 (nI L) (nI v) z.2 j s) n (fun j => (nI (E + sumTo (fun j => if j < v then ((M v).testBit j).toNat else 0) j), nI (msk (fun j => (M v).testBit j) j))) _ (fun g j hj => ?_) (fun g => ?_) (show n < F by omega)
    · show m_L_isGraph_68 F w (m_L_isGraph_50 F w m) (g + 1) 0 (nI k) (lN (cde n M C (fun i => i))) (nI n) (nI (E + sumTo (fun j => if j < v then ((M v).testBit j).toNat else 0) j)) (nI L) (nI v) (nI (msk (fun j => (M v).testBit j) j)) (nI j) s = m_L_isGraph_68 F w (m_L_isGraph_50 F w m) g 0 (nI k) (lN (cde n M C (fun i => i))) (nI n) (nI (E + sumTo (fun j => if j < v then ((M v).testBit j).toNat else 0) (j + 1))) (nI L) (nI v) (nI (msk (fun j => (M v).testBit j) (j + 1))) (nI (j + 1)) s
      have hbit : ∀ b : Bool, (if b = true then (2 : Nat) ^ j else 0) = b.toNat * 2 ^ j := fun b => by cases b <;> simp
      have hms : msk (fun j => (M v).testBit j) (j + 1) = msk (fun j => (M v).testBit j) j ||| (if (M v).testBit j = true then 2 ^ j else 0) := by
        apply Nat.eq_of_testBit_eq
        intro y
        rw [Nat.testBit_or, msk_bit, msk_bit]
        by_cases e : y = j
        · rw [e, decide_eq_true (show j < j + 1 by omega), decide_eq_false (show ¬ j < j by omega)]
          cases q : (M v).testBit j
          · simp
          · rw [if_pos rfl, Nat.testBit_two_pow_self]; rfl
        · have h2 : (if (M v).testBit j = true then 2 ^ j else 0).testBit y = false := by
            split
            · rw [Nat.testBit_two_pow]; exact decide_eq_false (by omega)
            · exact Nat.zero_testBit y
          rw [h2, Bool.or_false]
          congr 1
          exact decide_eq_decide.mpr (by omega)
      rw [m_L_isGraph_68]; dsimp only
      unfold m_L_isGraph_96 m_L_isGraph_123 m_L_isGraph_124
      rw [if_neg (nI_ge hj (by omega)), edgeg_eq F (by omega) hG hv hj, bd_some, sumTo]
      cases q : (M v).testBit j
      · have hm0 : msk (fun j => (M v).testBit j) (j + 1) = msk (fun j => (M v).testBit j) j := by rw [hms, q, if_neg (by decide), Nat.or_zero]
        rw [hm0, if_pos (by decide +kernel), l0, b_or, Nat.or_zero, nm_eq]
        by_cases z : v ≤ j
        · rw [if_pos (nI_le z (by omega)), nm_eq, nm_eq, nI_1, nI_add, if_neg (by omega), ← Nat.add_assoc]
        · rw [if_neg (nI_ge (by omega) (by omega)), edgeg_eq F (by omega) hG hv hj, bd_some, q, if_pos (by decide +kernel), nm_eq, nm_eq, nI_1, nI_add, if_pos (by omega), ← Nat.add_assoc]
          rfl
      · have hm1 : msk (fun j => (M v).testBit j) (j + 1) = msk (fun j => (M v).testBit j) j ||| 2 ^ j := by rw [hms, q, if_pos rfl]
        rw [hm1, if_neg (by decide +kernel), shl1 (by omega), b_or, nm_eq]
        by_cases z : v ≤ j
        · rw [if_pos (nI_le z (by omega)), nm_eq, nm_eq, nI_1, l0, nI_add, if_neg (by omega), ← Nat.add_assoc]
        · rw [if_neg (nI_ge (by omega) (by omega)), edgeg_eq F (by omega) hG hv hj, bd_some, q, if_neg (by decide +kernel), nm_eq, nm_eq, nI_1, nI_1, if_pos (by omega), ← Nat.add_assoc]
          rfl
    · show m_L_isGraph_68 F w (m_L_isGraph_50 F w m) (g + 1) 0 (nI k) (lN (cde n M C (fun i => i))) (nI n) (nI (E + sumTo (fun j => if j < v then ((M v).testBit j).toNat else 0) n)) (nI L) (nI v) (nI (msk (fun j => (M v).testBit j) n)) (nI n) s = _
      rw [m_L_isGraph_68]; dsimp only
      unfold m_L_isGraph_185
      rw [if_pos (nI_le (Nat.le_refl _) (by omega)), hmn, x_neighbours F hk hG hA1 hv, br_inr, if_pos rfl, x_colour F hk hG hA1 hv, br_inr, colourg_eq F hG hv, bd_some, if_pos rfl, e5, br_inr, image_eq F (by omega) hn hL hv, bd_some, hiv, if_pos rfl, nm_eq, nI_1]
  · obtain ⟨a, s⟩ := st
    obtain ⟨i0, i1⟩ := hI
    dsimp only at i0 i1
    subst i0
    have hA1 := at_q hA hk i1
    obtain ⟨s6, e6, f6⟩ := isRefined_eq F hF hw hk hn hG hA1
    refine ⟨s6, ?_, i1.tr f6⟩
    show m_L_isGraph_50 F w (m + 1) 0 (nI k) (lN (cde n M C (fun i => i))) (nI n) (nI (sumTo (fun i => sumTo (fun j => if j < i then ((M i).testBit j).toNat else 0) n) n)) (nI L) 1 (nI n) s = _
    rw [m_L_isGraph_50]; dsimp only
    unfold m_L_isGraph_193
    rw [if_pos (nI_le (Nat.le_refl _) (by omega)), if_neg n10, x_edges F (by omega) hk hG hA1, br_inr, ← edg_dn hG, if_pos rfl, e6, bd_some, if_neg n10]
end
