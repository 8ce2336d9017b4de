/-! THE LAW'S PART: the graph of some vertices -/
section
noncomputable def gN (C : Nat → Nat) (t N i : Nat) : Nat := if i < N then C (el t i) else 0
noncomputable def gP (M : Nat → Nat) (t N m x y : Nat) : Bool := decide ((x < N ∧ y < N) ∨ (x = N ∧ y < m) ∨ (y = N ∧ x < m)) && (M (el t x)).testBit (el t y)
theorem gP_sym {n : Nat} {M C : Nat → Nat} (hG : Gr n M C) {t N m : Nat} (hN : N < pop t) (hm : m ≤ pop t) : Sym (gP M t N m) := fun x y => by
  unfold gP
  by_cases h : (x < N ∧ y < N) ∨ (x = N ∧ y < m) ∨ (y = N ∧ x < m)
  · rw [decide_eq_true h, decide_eq_true (by omega), hG.sy (el_ok (show x < pop t by omega)).1 (el_ok (show y < pop t by omega)).1]
  · rw [decide_eq_false h, decide_eq_false (by omega), Bool.false_and, Bool.false_and]
theorem gN_8 {n : Nat} {M C : Nat → Nat} (hG : Gr n M C) {t N : Nat} (hN : N ≤ pop t) : C8 (gN C t N) := fun i hi => by
  unfold gN
  by_cases h : i < N
  · rw [if_pos h]; exact (hG.2 _ (el_ok (show i < pop t by omega)).1).1
  · rw [if_neg h]; omega
theorem kc_0or {N : Nat} (hN : N ≤ 8) {c : Nat → Nat} (hc : C8 c) (A : Nat → Nat → Bool) : lN (kc 0 c A) ||| jlshl (nI N).toInt64 52 = lN (kc N c A) := by
  rw [nI_l (by omega), show (52 : Int32) = nI 52 from rfl, L_shl _ (by omega), L_or]
  congr 1
  apply Nat.eq_of_testBit_eq
  intro j
  rw [Nat.testBit_or, kc_bit hc, kc_bit hc, Nat.testBit_mul_two_pow]
  by_cases h1 : j < 28
  · rw [if_pos h1, if_pos h1, decide_eq_false (by omega), Bool.false_and, Bool.or_false]
  · rw [if_neg h1, if_neg h1]
    by_cases h2 : j < 52
    · rw [if_pos h2, if_pos h2, decide_eq_false (by omega), Bool.false_and, Bool.or_false]
    · rw [if_neg h2, if_neg h2, Nat.zero_testBit, decide_eq_true (by omega), Bool.true_and, Bool.false_or]
theorem part_law (F : Nat) (hF : 9 < F) {n t : Nat} (hn : n < 6) (ht : t < 2 ^ n) {M C : Nat → Nat} (hG : Gr n M C) (σ : zST) : m_L_part F (lN (cde n M C (fun i => i))) (nI t) σ = some (lN (cde (pop t) (MP M t) (CP C t) (fun i => i)), σ) := by
  have h8 := hG.1.2
  have hpl := pop_le t
  have ht8 : t < 2 ^ 31 := Nat.lt_of_lt_of_le ht (Nat.le_trans (Nat.pow_le_pow_right (n := 2) (i := n) (j := 5) (by omega) (by omega)) (by omega))
  have hhi : ∀ v, n ≤ v → t.testBit v = false := fun v hv => bit_big ht hv
  have hpop : pop t = cnt (fun i => t.testBit i) n := by
    rw [pop_cnt]
    exact pop_n h8 (fun y hy => by
      rcases Nat.lt_or_ge y n with z | z
      · exact z
      · rw [hhi y z] at hy; cases hy)
  have hz : (0 : Int64) = lN (kc 0 (gN C t 0) (gP M t 0 0)) := by
    have e1 : rv 8 (gN C t 0) = 0 := by
      have : rv 8 (gN C t 0) = rv 8 (fun _ => 0) := rv_cong (fun i _ => by
        unfold gN
        rw [if_neg (by omega)])
      rw [this]
      decide +kernel
    have e2 : eb 8 (gP M t 0 0) = 0 := by
      have : eb 8 (gP M t 0 0) = eb 8 (fun _ _ => false) := eb_cong (fun i j _ _ => by
        unfold gP
        rw [decide_eq_false (by omega), Bool.false_and])
      rw [this]
      decide +kernel
    unfold kc pk5
    rw [e1, e2]
    rfl
  unfold m_L_part
  rw [hz]
  refine up_loop0 (fun m (k : Int32) (st : Int64 × Int32) => m_L_part_8 F m (lN (cde n M C (fun i => i))) (nI t) st.1 st.2 k σ) n (fun k => (lN (kc 0 (gN C t (cnt (fun i => t.testBit i) k)) (gP M t (cnt (fun i => t.testBit i) k) 0)), nI (cnt (fun i => t.testBit i) k))) _ (fun m k hk => ?_) (fun m => ?_) (show n < F by omega)
  · show m_L_part_8 F (m + 1) (lN (cde n M C (fun i => i))) (nI t) (lN (kc 0 (gN C t (cnt (fun i => t.testBit i) k)) (gP M t (cnt (fun i => t.testBit i) k) 0))) (nI (cnt (fun i => t.testBit i) k)) (nI k) σ = m_L_part_8 F m (lN (cde n M C (fun i => i))) (nI t) (lN (kc 0 (gN C t (cnt (fun i => t.testBit i) (k + 1))) (gP M t (cnt (fun i => t.testBit i) (k + 1)) 0))) (nI (cnt (fun i => t.testBit i) (k + 1))) (nI (k + 1)) σ
    rw [m_L_part_8]; dsimp only
    rw [sizeg_eq F hG, bd_some, if_neg (nI_ge hk (by omega)), shr_and1 ht8 (by omega), cnt_s]
    cases e : t.testBit k
    · rw [if_neg (by decide)]
      unfold m_L_part_126
      rw [nm_eq, nI_1]
      rfl
    · rw [if_pos (by decide +kernel), Bool.toNat_true]
      obtain ⟨hN, hel⟩ := el_cnt (t := t) (v := k) (by omega) e
      have hCk := (hG.2 k (by omega)).1
      generalize hNe : cnt (fun i => t.testBit i) k = N at hN hel
      have hc1 := gN_8 hG (C := C) (t := t) (N := N) (by omega)
      have hc2 := gN_8 hG (C := C) (t := t) (N := N + 1) (by omega)
      have hup : upN (gN C t N) N (C k) = gN C t (N + 1) := by
        funext i
        unfold upN gN
        by_cases q : i = N
        · rw [if_pos q, if_pos (by omega), q, hel]
        · rw [if_neg q]
          by_cases z : i < N
          · rw [if_pos z, if_pos (by omega)]
          · rw [if_neg z, if_neg (by omega)]
      rw [colourg_eq F hG hk, bd_some, coloured_eq F hc1 _ (by omega) hCk, bd_some, hup]
      have hend : gP M t (N + 1) 0 = gP M t N N := by
        funext x y
        unfold gP
        by_cases q : x = N ∧ y = N
        · rw [q.1, q.2, hel, (hG.2 k (by omega)).2.2.2.1, Bool.and_false, Bool.and_false]
        · congr 1
          exact decide_eq_decide.mpr (by omega)
      rw [hend]
      refine up_loop0 (fun g (j : Int32) (st : Int64 × Int32) => m_L_part_46 F (m_L_part_8 F m) g (lN (cde n M C (fun i => i))) (nI t) st.1 (nI N) (nI k) st.2 j σ) k (fun j => (lN (kc 0 (gN C t (N + 1)) (gP M t N (cnt (fun i => t.testBit i) j))), nI (cnt (fun i => t.testBit i) j))) _ (fun g j hj => ?_) (fun g => ?_) (show k < F by omega)
      · show m_L_part_46 F (m_L_part_8 F m) (g + 1) (lN (cde n M C (fun i => i))) (nI t) (lN (kc 0 (gN C t (N + 1)) (gP M t N (cnt (fun i => t.testBit i) j)))) (nI N) (nI k) (nI (cnt (fun i => t.testBit i) j)) (nI j) σ = m_L_part_46 F (m_L_part_8 F m) g (lN (cde n M C (fun i => i))) (nI t) (lN (kc 0 (gN C t (N + 1)) (gP M t N (cnt (fun i => t.testBit i) (j + 1))))) (nI N) (nI k) (nI (cnt (fun i => t.testBit i) (j + 1))) (nI (j + 1)) σ
        rw [m_L_part_46]; dsimp only
        unfold m_L_part_68 m_L_part_99 m_L_part_100 m_L_part_114
        rw [if_neg (nI_ge hj (by omega)), shr_and1 ht8 (by omega), cnt_s]
        cases f : t.testBit j
        · rw [if_neg (by decide), if_pos rfl, kc_or0, nm_eq, if_pos rfl, nm_eq, nm_eq, nI_1, l0, nI_add]
          rfl
        · obtain ⟨hm, hem⟩ := el_cnt (t := t) (v := j) (by omega) f
          have hmN : cnt (fun i => t.testBit i) j < N := by rw [← hNe]; exact cnt_lt_of (P := fun i => t.testBit i) hj f
          generalize hme : cnt (fun i => t.testBit i) j = mm at hm hem hmN
          rw [if_pos (by decide +kernel), if_neg n10, edgeg_eq F (by omega) hG hk (show j < n by omega), bd_some, Bool.toNat_true]
          have hA : kc 0 (gN C t (N + 1)) (gP M t N (mm + 1)) = if (M k).testBit j = true then kc 0 (gN C t (N + 1)) (upA (gP M t N mm) N mm true) else kc 0 (gN C t (N + 1)) (gP M t N mm) := by
            have hst : ∀ x y, x < y → y < 8 → gP M t N (mm + 1) x y = if (x = N ∧ y = mm) ∨ (x = mm ∧ y = N) then (M k).testBit j else gP M t N mm x y := fun x y hxy hy => by
              unfold gP
              by_cases q : (x = N ∧ y = mm) ∨ (x = mm ∧ y = N)
              · rw [if_pos q, decide_eq_true (by omega), Bool.true_and]
                have e1 : x = mm ∧ y = N := by omega
                rw [e1.1, e1.2, hel, hem, hG.sy (u := j) (v := k) (by omega) (by omega)]
              · rw [if_neg q]
                congr 1
                exact decide_eq_decide.mpr (by omega)
            by_cases q : (M k).testBit j = true
            · rw [if_pos q]
              refine kc_cong (fun _ _ => rfl) (fun x y hxy hy => ?_)
              rw [hst x y hxy hy, q]
              rfl
            · rw [if_neg q]
              refine kc_cong (fun _ _ => rfl) (fun x y hxy hy => ?_)
              rw [hst x y hxy hy]
              by_cases z : (x = N ∧ y = mm) ∨ (x = mm ∧ y = N)
              · rw [if_pos z, Bool.eq_false_iff.mpr q]
                unfold gP
                rw [decide_eq_false (by omega), Bool.false_and]
              · rw [if_neg z]
          rw [hA]
          cases q : (M k).testBit j
          · rw [if_pos (by decide +kernel), kc_or0, nm_eq, if_neg n10, nm_eq, nm_eq, nI_1, nI_1]
            rfl
          · rw [if_neg (by decide +kernel), bit_eq F (by omega) (by omega) (by omega) (show N ≠ mm by omega), bd_some, kc_set hc2 _ (by omega) (by omega) (by omega), nm_eq, if_neg n10, nm_eq, nm_eq, nI_1, nI_1]
            rfl
      · show m_L_part_46 F (m_L_part_8 F m) (g + 1) (lN (cde n M C (fun i => i))) (nI t) (lN (kc 0 (gN C t (N + 1)) (gP M t N (cnt (fun i => t.testBit i) k)))) (nI N) (nI k) (nI (cnt (fun i => t.testBit i) k)) (nI k) σ = _
        rw [m_L_part_46]; dsimp only
        unfold m_L_part_126
        rw [if_pos (nI_le (Nat.le_refl _) (by omega)), nm_eq, nm_eq, nI_1, nI_1, hNe]
  · show m_L_part_8 F (m + 1) (lN (cde n M C (fun i => i))) (nI t) (lN (kc 0 (gN C t (cnt (fun i => t.testBit i) n)) (gP M t (cnt (fun i => t.testBit i) n) 0))) (nI (cnt (fun i => t.testBit i) n)) (nI n) σ = _
    have hc := gN_8 hG (C := C) (t := t) (N := pop t) (Nat.le_refl _)
    rw [m_L_part_8]; dsimp only
    rw [sizeg_eq F hG, bd_some, if_pos (nI_le (Nat.le_refl _) (by omega)), ← hpop, kc_0or hpl hc]
    congr 2
    congr 1
    rw [show cde (pop t) (MP M t) (CP C t) (fun i => i) = kc (pop t) (gC (pop t) (CP C t) (fun i => i)) (gA (pop t) (MP M t) (fun i => i)) from (kc_cod hpl _ _ _).symm]
    refine kc_cong (fun i hi => ?_) (fun x y hxy hy => ?_)
    · show (if i < pop t then C (el t i) else 0) = (if i < pop t then (if i < pop t then C (el t i) else 0) else 0)
      by_cases q : i < pop t
      · rw [if_pos q, if_pos q]
      · rw [if_neg q, if_neg q]
    · show (decide ((x < pop t ∧ y < pop t) ∨ (x = pop t ∧ y < 0) ∨ (y = pop t ∧ x < 0)) && (M (el t x)).testBit (el t y)) = (decide (x < pop t ∧ y < pop t) && (MP M t x).testBit y)
      by_cases q : x < pop t ∧ y < pop t
      · rw [decide_eq_true (Or.inl q), decide_eq_true q, MP_bit q.1 q.2]
      · rw [decide_eq_false (by omega), decide_eq_false q, Bool.false_and, Bool.false_and]
theorem szkc (F : Nat) {n t : Nat} {M C : Nat → Nat} (hG : Gr n M C) (σ : zST) : m_L_size F (lN (cde (pop t) (MP M t) (CP C t) (fun i => i))) σ = some (nI (pop t), σ) := by
  have hpl := pop_le t
  have := size_eq F hpl (c := gC (pop t) (CP C t) (fun i => i)) (fun i hi => by
    show (if i < pop t then (if i < pop t then C (el t i) else 0) else 0) < 8
    by_cases q : i < pop t
    · rw [if_pos q, if_pos q]; exact (hG.2 _ (el_ok q).1).1
    · rw [if_neg q]; omega) (gA (pop t) (MP M t) (fun i => i)) σ
  rw [kc_cod hpl] at this
  exact this
theorem arePairs_eq (F : Nat) (hF : 300 < F) {w k l n n2 : Nat} (hw : 49 ≤ w) (hk : k < 4) (hl : l < 4) (hn : n < 6) (hn2 : n2 < 6) {M C M2 C2 : Nat → Nat} {σ : zST} (hG : Gr n M C) (hG2 : Gr n2 M2 C2) (hA : At (2 + 3 * k) n M C σ) (hA2 : At (2 + 3 * l) n2 M2 C2 σ) (hc : gL σ 46 k = lN (cde n M C (fun i => i))) (hc2 : gL σ 46 l = lN (cde n2 M2 C2 (fun i => i))) : AskOk (m_L_arePairs F w 0 46 (nI k) (nI l) σ) σ := by
  have h8 := hG.1.2
  have h1 := hG.1.1
  have fw : ∀ s s', Fr (fun p _ => p = w) s s' → Fr SQ s s' := fun s s' h => h.mono (fun q j z => by unfold SQ; omega)
  have g1 : ∀ s, Fr SQ σ s → gL s 46 k = lN (cde n M C (fun i => i)) := fun s hs => by rw [(hs 46 k (by unfold SQ; omega)).2, hc]
  have g2 : ∀ s, Fr SQ σ s → gL s 46 l = lN (cde n2 M2 C2 (fun i => i)) := fun s hs => by rw [(hs 46 l (by unfold SQ; omega)).2, hc2]
  obtain ⟨r, s1, e1, hr, f1⟩ := first_eq F (by omega) w hn hn2 hG hG2 σ
  have hs1 := fw _ _ f1
  obtain ⟨s2, e2, f2⟩ := x_areAlike F (by omega) hk hl hG (at_q hA hk hs1) hG2 (at_q hA2 hl hs1)
  have hs2 := hs1.tr (f2.mono SX_Q)
  -- the sets
  have sets : ∀ s, Fr SQ σ s → AskOk (m_L_arePairs_102 F w 0 46 (nI k) (nI l) 1 s) σ := fun s hs => by
    have h2n : 2 ^ n2 ≤ 32 := Nat.pow_le_pow_right (n := 2) (i := n2) (j := 5) (by omega) (by omega)
    unfold m_L_arePairs_102
    refine up_inv (fun m (t : Int32) (st : Int32 × zST) => m_L_arePairs_108 F w m 0 46 (nI k) (nI l) 1 st.1 t st.2) (2 ^ n2) (fun t st => st.1 = nI (cnt (Cpy n M C M2 C2) t) ∧ Fr SQ σ st.2) (fun o => AskOk o σ) (fun m t st ht hI => ?_) (fun m st hI => ?_) (2 ^ n2) 0 34 (0, s) (by omega) (by omega) ⟨rfl, hs⟩
    · obtain ⟨a, s⟩ := st
      obtain ⟨i0, i1⟩ := hI
      dsimp only at i0 i1
      subst i0
      have hpl := pop_le t
      show ∃ st', _ ∧ m_L_arePairs_108 F w (m + 1) 0 46 (nI k) (nI l) 1 (nI (cnt (Cpy n M C M2 C2) t)) (nI t) s = _
      rw [m_L_arePairs_108]; dsimp only
      unfold m_L_arePairs_162 m_L_arePairs_163
      rw [ldL_at hl (by omega), g2 s i1, sizeg_eq F hG2, bd_some, shl1 (by omega), if_neg (nI_ge ht (by omega)), ldL_at hl (by omega), g2 s i1, part_law F (by omega) hn2 ht hG2, bd_some, szkc F hG2, bd_some, ldL_at hk (by omega), g1 s i1, sizeg_eq F hG, bd_some]
      by_cases e : pop t = n
      · rw [if_pos (by rw [e]), ldL_at hk (by omega), g1 s i1]
        have hGp := part_gr hG2 (t := t) (by omega)
        obtain ⟨r', s', e3, hr', f3⟩ := first_eq F (by omega) w (show pop t < 6 by omega) hn hGp hG s
        rw [e3, bd_some]
        rcases hr' with ⟨_, L, hL, hIso, _, rfl⟩ | ⟨hno, rfl⟩
        · have hcp : Cpy n M C M2 C2 t = true := by
            refine dc_yes ⟨e, ?_⟩
            rw [e] at hIso
            exact ⟨_, hIso.iv h8⟩
          have hf := (fac_5 (pop t) (by omega)).2
          refine ⟨(nI (cnt (Cpy n M C M2 C2) (t + 1)), s'), ⟨rfl, i1.tr (fw _ _ f3)⟩, ?_⟩
          rw [if_neg (nI_pos (by omega)), nm_eq, nm_eq, nI_1, nI_1, cnt_s, hcp]
          rfl
        · have hcp : Cpy n M C M2 C2 t = false := by
            refine dc_no (fun z => hno ⟨e, ?_⟩)
            obtain ⟨_, q, hq⟩ := z
            have := hq.iv h8
            rw [← e] at this
            exact ⟨_, this⟩
          refine ⟨(nI (cnt (Cpy n M C M2 C2) (t + 1)), s'), ⟨rfl, i1.tr (fw _ _ f3)⟩, ?_⟩
          rw [if_pos (by decide +kernel), nm_eq, nm_eq, nI_1, l0, nI_add, cnt_s, hcp]
          rfl
      · have hcp : Cpy n M C M2 C2 t = false := dc_no (fun z => e z.1)
        refine ⟨(nI (cnt (Cpy n M C M2 C2) (t + 1)), s), ⟨rfl, i1⟩, ?_⟩
        rw [if_neg (fun z => e ((nI_eq (by omega) (by omega)).mp z)), nm_eq, nm_eq, nI_1, l0, nI_add, cnt_s, hcp]
        rfl
    · obtain ⟨a, s⟩ := st
      obtain ⟨i0, i1⟩ := hI
      dsimp only at i0 i1
      subst i0
      obtain ⟨s3, e3, f3⟩ := x_copies F hF hk hl hG (at_q hA hk i1) hG2 (at_q hA2 hl i1)
      refine ⟨s3, ?_, i1.tr (f3.mono SX_Q)⟩
      show m_L_arePairs_108 F w (m + 1) 0 46 (nI k) (nI l) 1 (nI (cnt (Cpy n M C M2 C2) (2 ^ n2))) (nI (2 ^ n2)) s = _
      rw [m_L_arePairs_108]; dsimp only
      rw [ldL_at hl (by omega), g2 s i1, sizeg_eq F hG2, bd_some, shl1 (by omega), if_pos (nI_le (Nat.le_refl _) (by omega)), if_neg n10, e3, br_inr, if_pos rfl]
  -- the images
  have imgs : AskOk (m_L_arePairs_40 F w 7 0 46 (nI k) (nI l) r 1 0 s2) σ := by
    refine up_inv (fun m (v : Int32) (s : zST) => m_L_arePairs_40 F w m 0 46 (nI k) (nI l) r 1 v s) n (fun v s => Fr SQ σ s) (fun o => AskOk o σ) (fun m v s hv hI => ?_) (fun m s hI => ?_) n 0 7 s2 (by omega) (by omega) hs2
    · obtain ⟨s3, r3, e3, f3, h3⟩ := x_image F (by omega) hk hl hG (at_q hA hk hI) hG2 (at_q hA2 hl hI) hv
      have hs3 := hI.tr (f3.mono SX_Q)
      refine ⟨s3, hs3, ?_⟩
      show m_L_arePairs_40 F w (m + 1) 0 46 (nI k) (nI l) r 1 (nI v) s = _
      rw [m_L_arePairs_40]; dsimp only
      unfold m_L_arePairs_86 m_L_arePairs_94
      rw [ldL_at hk (by omega), g1 s hI, sizeg_eq F hG, bd_some, if_neg (nI_ge hv (by omega)), if_neg n10, e3, br_inr]
      rcases hr with ⟨en, L, hL, hIso, hmin, rfl⟩ | ⟨hno, rfl⟩
      · have hf := (fac_5 n hn).2
        rcases h3 with ⟨_, q, q1, q2, rfl⟩ | ⟨hno, _⟩
        · have hq : q = pmn n L := val_inj h8 q1.1 hIso.1 (Nat.le_antisymm (q2 _ hIso) (hmin q q1))
          rw [if_pos (show (0 : Int32) ≤ nI L from nI_pos' (by omega)), ldL_at hk (by omega), g1 s3 hs3, sizeg_eq F hG, bd_some, image_eq F (by omega) hn hL hv, bd_some, hq, pmn_in hv, if_pos rfl, nm_eq, nI_1]
        · exact absurd ⟨en, _, by subst en; exact hIso⟩ hno
      · rcases h3 with ⟨en, q, q1, _, _⟩ | ⟨_, rfl⟩
        · exact absurd ⟨en, q, q1⟩ hno
        · rw [if_neg (by decide +kernel), if_pos rfl, nm_eq, nI_1]
    · show AskOk (m_L_arePairs_40 F w (m + 1) 0 46 (nI k) (nI l) r 1 (nI n) s) σ
      rw [m_L_arePairs_40]; dsimp only
      rw [ldL_at hk (by omega), g1 s hI, sizeg_eq F hG, bd_some, if_pos (nI_le (Nat.le_refl _) (by omega))]
      exact sets s hI
  unfold m_L_arePairs m_L_arePairs_27 m_L_arePairs_35
  rw [ldL_at hk (by omega), hc, ldL_at hl (by omega), hc2, e1, bd_some, e2, br_inr]
  rcases hr with ⟨en, L, hL, hIso, hmin, rfl⟩ | ⟨hno, rfl⟩
  · have hf := (fac_5 n hn).2
    rw [if_neg (nI_pos (by omega)), dc_yes (show Alk n n2 M C M2 C2 from ⟨en, _, hIso⟩), if_pos (by decide +kernel)]
    exact imgs
  · rw [if_pos (by decide +kernel), dc_no hno, if_pos (by decide +kernel)]
    exact imgs
end
