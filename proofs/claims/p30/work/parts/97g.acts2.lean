/-! THE LAW'S ACTS, the others -/
section
theorem sumTo_0 (n : Nat) : sumTo (fun _ => 0) n = 0 := by
  induction n with
  | zero => rfl
  | succ n ih => rw [sumTo, ih]
theorem sumTo_sp (f : Nat → Nat) (m : Nat) : ∀ n, sumTo f (m + n) = sumTo f m + sumTo (fun j => f (m + j)) n := by
  intro n
  induction n with
  | zero => rfl
  | succ n ih => rw [show m + (n + 1) = (m + n) + 1 from rfl, sumTo, ih, sumTo]; omega
theorem sumTo_cut {f : Nat → Nat} {n m : Nat} (h : n ≤ m) (h0 : ∀ i, n ≤ i → i < m → f i = 0) : sumTo f m = sumTo f n := by
  obtain ⟨d, rfl⟩ : ∃ d, m = n + d := ⟨m - n, by omega⟩
  rw [sumTo_sp, sumTo_cong (f := fun j => f (n + j)) (g := fun _ => 0) (fun i hi => h0 (n + i) (by omega) (by omega)), sumTo_0]
  rfl
theorem sumTo_sw (f : Nat → Nat → Nat) (n : Nat) : ∀ m, sumTo (fun i => sumTo (f i) n) m = sumTo (fun j => sumTo (fun i => f i j) m) n := by
  intro m
  induction m with
  | zero => exact (sumTo_0 n).symm
  | succ m ih =>
    rw [sumTo, ih, ← sumTo_add]
    rfl
theorem sumTo_sq (g : Nat → Nat → Nat) {n : Nat} (hn : 0 < n) : ∀ m, sumTo (fun t => g (t / n) (t % n)) (m * n) = sumTo (fun i => sumTo (g i) n) m := by
  intro m
  induction m with
  | zero => rw [Nat.zero_mul]; rfl
  | succ m ih =>
    rw [Nat.succ_mul, sumTo_sp, ih, sumTo]
    congr 1
    refine sumTo_cong (fun j hj => ?_)
    rw [show m * n + j = n * m + j by rw [Nat.mul_comm], Nat.mul_add_div hn, Nat.mul_add_mod, Nat.div_eq_of_lt hj, Nat.mod_eq_of_lt hj, Nat.add_zero]
/-- edges counted by pairs -/
theorem edg_sum {n : Nat} {M C : Nat → Nat} (hG : Gr n M C) : edg M = sumTo (fun i => sumTo (fun j => if i < j then ((M i).testBit j).toNat else 0) n) n := by
  have h8 := hG.1.2
  have e : edg M = sumTo (fun i => sumTo (fun j => if i < j then ((M i).testBit j).toNat else 0) 8) 8 := sumTo_sq (fun i j => if i < j then ((M i).testBit j).toNat else 0) (show 0 < 8 by omega) 8
  have hz : ∀ i j, i < 8 → (n ≤ i ∨ n ≤ j) → (M i).testBit j = false := fun i j hi h => by
    rcases h with h | h
    · rw [(hG.2 i hi).2.2.1 h, Nat.zero_testBit]
    · exact bit_big (hG.2 i hi).2.1 h
  rw [e, sumTo_cut h8 (fun i h1 h2 => ?_)]
  · refine sumTo_cong (fun i hi => ?_)
    refine sumTo_cut h8 (fun j h1 h2 => ?_)
    rw [hz i j (by omega) (Or.inr h1)]
    split <;> rfl
  · rw [sumTo_cong (g := fun _ => 0) (fun j hj => by
      rw [hz i j h2 (Or.inl h1)]
      split <;> rfl), sumTo_0]
def coA (n : Nat) (A : Nat → Nat → Bool) (t x y : Nat) : Bool := if max x y < n ∧ min x y * n + max x y < t then !A x y else A x y
theorem coA_s {n : Nat} {c : Nat → Nat} {A : Nat → Nat → Bool} (hA : Sym A) {t : Nat} (hij : t / n < t % n) (hn : 0 < n) : kc n c (upA (coA n A t) (t / n) (t % n) (!A (t / n) (t % n))) = kc n c (coA n A (t + 1)) := by
  refine kc_cong (fun _ _ => rfl) (fun x y hxy hy => ?_)
  have hm := Nat.mod_lt t hn
  have hd := Nat.div_add_mod t n
  unfold upA coA
  by_cases e : (x = t / n ∧ y = t % n) ∨ (x = t % n ∧ y = t / n)
  · have e1 : x = t / n ∧ y = t % n := by omega
    rw [if_pos e, if_pos ⟨by omega, by rw [show min x y = x by omega, show max x y = y by omega, e1.1, e1.2, Nat.mul_comm]; omega⟩, e1.1, e1.2]
  · rw [if_neg e]
    by_cases h : max x y < n ∧ min x y * n + max x y < t
    · rw [if_pos h, if_pos ⟨h.1, by omega⟩]
    · rw [if_neg h, if_neg (fun z => ?_)]
      have h1 : min x y * n + max x y = t := by
        have := z.2
        have : ¬ min x y * n + max x y < t := fun q => h ⟨z.1, q⟩
        omega
      have h2 : t / n = min x y := by
        rw [← h1, Nat.mul_comm, Nat.mul_add_div hn, Nat.div_eq_of_lt z.1, Nat.add_zero]
      have h3 : t % n = max x y := by
        rw [← h1, Nat.mul_comm, Nat.mul_add_mod, Nat.mod_eq_of_lt z.1]
      omega
theorem coA_k {n : Nat} {c : Nat → Nat} {A : Nat → Nat → Bool} {t : Nat} (hij : t % n ≤ t / n) (hn : 0 < n) : kc n c (coA n A t) = kc n c (coA n A (t + 1)) := by
  refine kc_cong (fun _ _ => rfl) (fun x y hxy hy => ?_)
  unfold coA
  by_cases h : max x y < n ∧ min x y * n + max x y < t
  · rw [if_pos h, if_pos ⟨h.1, by omega⟩]
  · rw [if_neg h, if_neg (fun z => ?_)]
    have h1 : min x y * n + max x y = t := by
      have := z.2
      have : ¬ min x y * n + max x y < t := fun q => h ⟨z.1, q⟩
      omega
    have h2 : t / n = min x y := by
      rw [← h1, Nat.mul_comm, Nat.mul_add_div hn, Nat.div_eq_of_lt z.1, Nat.add_zero]
    have h3 : t % n = max x y := by
      rw [← h1, Nat.mul_comm, Nat.mul_add_mod, Nat.mod_eq_of_lt z.1]
    omega
theorem coA_up {n : Nat} {c : Nat → Nat} (hc : C8 c) {A : Nat → Nat → Bool} {t i j : Nat} (hi : i < 8) (hj : j < 8) (hne : i ≠ j) (hA : Sym (coA n A t)) {b : Bool} (h : coA n A t i j = b) : lN (kc n c (coA n A t)) ^^^ jlshl 1 (nI (pbs i j)) = lN (kc n c (upA (coA n A t) i j (!b))) := by
  rw [kc_xor hc hA hi hj hne, h]
theorem coA_sym {n : Nat} {A : Nat → Nat → Bool} (hA : Sym A) (t : Nat) : Sym (coA n A t) := fun x y => by
  unfold coA
  rw [hA x y, Nat.max_comm, Nat.min_comm]
def coF (n : Nat) (M : Nat → Nat) (t : Nat) : Nat := if t / n < t % n then (!(M (t / n)).testBit (t % n)).toNat else 0
theorem coF_sum {n : Nat} {M C : Nat → Nat} (hG : Gr n M C) : sumTo (coF n M) (n * n) = edg (coM n M) := by
  have h1 := hG.1.1
  rw [edg_sum (co_Gr hG)]
  have e : sumTo (coF n M) (n * n) = sumTo (fun i => sumTo (fun j => if i < j then (!(M i).testBit j).toNat else 0) n) n := sumTo_sq (fun i j => if i < j then (!(M i).testBit j).toNat else 0) (by omega) n
  rw [e]
  refine sumTo_cong (fun i hi => sumTo_cong (fun j hj => ?_))
  by_cases h : i < j
  · rw [if_pos h, if_pos h, coM_bit M hi, decide_eq_true hj, decide_eq_false (show ¬ j = i by omega)]
    cases (M i).testBit j <;> rfl
  · rw [if_neg h, if_neg h]
theorem coF_le (n : Nat) (M : Nat → Nat) (t : Nat) : sumTo (coF n M) t ≤ t := by
  have := sumTo_le (coF n M) 1 t (fun i _ => by
    unfold coF
    split
    · cases (!(M (i / n)).testBit (i % n)) <;> decide
    · omega)
  omega
theorem act_compl (F : Nat) (hF : 26 < F) (w : Nat) {k n : Nat} (hk : k < 4) (hn : n < 6) {M C : Nat → Nat} {σ : zST} (h : GG σ) (hG : Gr n M C) (hA : At (2 + 3 * k) n M C σ) (hc : gL σ 46 k = lN (cde n M C (fun i => i))) : ActOk (m_L_acts_366 F w F 0 46 (nI k) (lN (cde n M C (fun i => i))) (nI n) 0 0 σ) σ := by
  have h8 : n ≤ 8 := by omega
  have h1 := hG.1.1
  have hid := id8 h8
  have hGA : Sym (gA n M (fun i => i)) := gA_sym hG hid
  have hC8 : C8 (gC n C (fun i => i)) := gC_8 hG hid
  have hnn : n * n ≤ 25 := by
    have : n * n ≤ 5 * 5 := Nat.mul_le_mul (by omega) (by omega)
    omega
  refine up_inv0 (fun m (t : Int32) (st : Int32 × zST) => m_L_acts_366 F w m 0 46 (nI k) (lN (cde n M C (fun i => i))) (nI n) st.1 t st.2) (n * n) (fun t st => st.1 = nI (sumTo (coF n M) t) ∧ gL st.2 46 k = lN (kc n (gC n C (fun i => i)) (coA n (gA n M (fun i => i)) t)) ∧ Fr (fun q j => q = 46 ∧ j = k) σ st.2) (fun o => ActOk o σ) (fun m t st ht hI => ?_) (fun m st hI => ?_) (show n * n < F by omega) (s := (0, σ)) ⟨rfl, ?_, Fr.rf⟩
  · obtain ⟨a, s⟩ := st
    obtain ⟨i0, i1, i2⟩ := hI
    dsimp only at i0 i1 i2
    subst i0
    have hm := Nat.mod_lt t (show 0 < n by omega)
    have hd : t / n < n := Nat.div_lt_of_lt_mul ht
    have hle := coF_le n M t
    show ∃ st', _ ∧ m_L_acts_366 F w (m + 1) 0 46 (nI k) (lN (cde n M C (fun i => i))) (nI n) (nI (sumTo (coF n M) t)) (nI t) s = _
    rw [m_L_acts_366]; dsimp only
    rw [pk_mul, if_neg (nI_ge ht (by omega)), gd_yes (nI_ne0 (by omega) (by omega)), gd_yes (nI_ne0 (by omega) (by omega)), pk_rem (by omega) (by omega) (by omega), pk_div (by omega) (by omega) (by omega)]
    unfold m_L_acts_394 m_L_acts_424 m_L_acts_455 m_L_acts_456
    by_cases q : t / n < t % n
    · have hne : t / n ≠ t % n := by omega
      have hcv : coA n (gA n M (fun i => i)) t (t / n) (t % n) = (M (t / n)).testBit (t % n) := by
        have hdm := Nat.div_add_mod t n
        have e : ¬ (max (t / n) (t % n) < n ∧ min (t / n) (t % n) * n + max (t / n) (t % n) < t) := fun z => by
          have := z.2
          rw [show min (t / n) (t % n) = t / n by omega, show max (t / n) (t % n) = t % n by omega, Nat.mul_comm] at this
          omega
        unfold coA
        rw [if_neg e]
        unfold gA
        rw [decide_eq_true ⟨hd, hm⟩, Bool.true_and]
      have hgv : gA n M (fun i => i) (t / n) (t % n) = (M (t / n)).testBit (t % n) := by
        unfold gA
        rw [decide_eq_true ⟨hd, hm⟩, Bool.true_and]
      have hst := coA_s (n := n) (c := gC n C (fun i => i)) hGA q (by omega)
      rw [hgv] at hst
      rw [if_neg (nI_ge q (by omega)), ldL_at (by omega) (by omega), if_neg n10, gd_yes (nI_ne0 (by omega) (by omega)), gd_yes (nI_ne0 (by omega) (by omega)), pk_rem (by omega) (by omega) (by omega), pk_div (by omega) (by omega) (by omega), bit_eq F (by omega) (by omega) (by omega) hne, bd_some, i1, coA_up hC8 (by omega) (by omega) hne (coA_sym hGA t) hcv, hst, stL_at (by omega) (by omega), if_neg n10, gd_yes (nI_ne0 (by omega) (by omega)), gd_yes (nI_ne0 (by omega) (by omega)), edgeg_eq F (by omega) hG hd hm, bd_some]
      have hsum : sumTo (coF n M) (t + 1) = sumTo (coF n M) t + (!(M (t / n)).testBit (t % n)).toNat := by
        rw [sumTo]
        congr 1
        unfold coF
        rw [if_pos q]
      refine ⟨(nI (sumTo (coF n M) (t + 1)), sL s 46 k (lN (kc n (gC n C (fun i => i)) (coA n (gA n M (fun i => i)) (t + 1))))), ⟨rfl, gL_same _ _ _ _, i2.tr (Fr.sL ⟨rfl, rfl⟩)⟩, ?_⟩
      cases e : (M (t / n)).testBit (t % n)
      · rw [e] at hsum
        rw [if_pos (by decide +kernel), nm_eq, nm_eq, nI_1, nI_1, hsum]
        rfl
      · rw [e] at hsum
        rw [if_neg (by decide +kernel), nm_eq, nm_eq, nI_1, l0, nI_add, hsum]
        rfl
    · rw [if_pos (nI_le (by omega) (by omega)), ldL_at (by omega) (by omega), if_pos rfl, stL_at (by omega) (by omega), if_pos rfl, nm_eq, nm_eq, nI_1]
      have hsum : sumTo (coF n M) (t + 1) = sumTo (coF n M) t + 0 := by
        rw [sumTo]
        congr 1
        unfold coF
        rw [if_neg q]
      refine ⟨(nI (sumTo (coF n M) (t + 1)), sL s 46 k (gL s 46 k ^^^ 0)), ⟨rfl, ?_, i2.tr (Fr.sL ⟨rfl, rfl⟩)⟩, ?_⟩
      · rw [gL_same, i1, show (0 : Int64) = lN 0 from rfl, L_xor, Nat.xor_zero, coA_k (by omega) (by omega)]
      · rw [hsum, l0, nI_add]
  · obtain ⟨a, s⟩ := st
    obtain ⟨i0, i1, i2⟩ := hI
    dsimp only at i0 i1 i2
    subst i0
    obtain ⟨τ, e1, e2, e3⟩ := x_complement F (by omega) hk hG (hA.mv i2 (fun q j _ _ => by omega))
    refine ⟨τ, ?_, ?_, (i2.mono (fun q j z => by unfold SA; omega)).tr (e3.mono (fun q j z => SPA hk q j (Or.inl z)))⟩
    · show m_L_acts_366 F w (m + 1) 0 46 (nI k) (lN (cde n M C (fun i => i))) (nI n) (nI (sumTo (coF n M) (n * n))) (nI (n * n)) s = _
      rw [m_L_acts_366]; dsimp only
      rw [pk_mul, if_pos (nI_le (Nat.le_refl _) (by omega)), e1, br_inr, coF_sum hG, if_pos rfl]
    · refine h.set hk (co_Gr hG) hn e2 ?_ ((i2.mono (fun q j z => Or.inr z)).tr (e3.mono (fun q j z => Or.inl z)))
      rw [(e3 46 k (by unfold SP; omega)).2, i1, cde_kc (co_Gr hG)]
      congr 1
      refine kc_cong (fun _ _ => rfl) (fun x y hxy hy => ?_)
      unfold coA
      rw [show min x y = x by omega, show max x y = y by omega]
      by_cases z : y < n
      · have hb : x * n + y < n * n := by
          have : (x + 1) * n ≤ n * n := Nat.mul_le_mul_right n (by omega)
          rw [Nat.succ_mul] at this
          omega
        rw [if_pos ⟨z, hb⟩]
        show (!(decide (x < n ∧ y < n) && (M x).testBit y)) = (decide (x < n ∧ y < n) && (coM n M x).testBit y)
        rw [decide_eq_true (show x < n ∧ y < n by omega), Bool.true_and, Bool.true_and, coM_bit M (by omega), decide_eq_true z, decide_eq_false (show ¬ y = x by omega)]
        cases (M x).testBit y <;> rfl
      · rw [if_neg (fun q => z q.1)]
        show (decide (x < n ∧ y < n) && (M x).testBit y) = (decide (x < n ∧ y < n) && (coM n M x).testBit y)
        rw [decide_eq_false (by omega), Bool.false_and, Bool.false_and]
  · rw [hc, cde_kc hG]
    congr 1
    refine kc_cong (fun _ _ => rfl) (fun x y hxy hy => ?_)
    unfold coA
    rw [if_neg (by omega)]
/-- every act keeps each graph beside its code, and is answered as it should be -/
theorem acts_eq (F : Nat) (hF : 26 < F) (w : Nat) {k z way : Nat} (hk : k < 4) (hz : z < 100000) (hw : way < 22) {σ : zST} (h : GG σ) : ActOk (m_L_acts F w 0 46 (nI way) (nI k) (nI z) σ) σ := by
  obtain ⟨n, M, C, hG, hn, hA, hc⟩ := h k hk
  have h8 : n ≤ 8 := by omega
  have h1 := hG.1.1
  have hone := Nat.mod_lt z (show 0 < n by omega)
  have hoth := Nat.mod_lt (z / 8) (show 0 < n by omega)
  have hz8 : z / 8 ≤ z := Nat.div_le_self _ _
  have hz64 : z / 64 ≤ z := Nat.div_le_self _ _
  have hm5 := Nat.mod_lt z (show 0 < 5 by omega)
  have hm3 := Nat.mod_lt (z / 64) (show 0 < 3 by omega)
  have hm4 := Nat.mod_lt (z / 64) (show 0 < 4 by omega)
  have wne : ∀ c, c < 5 → (nI way = nI c ↔ way = c) := fun c hc => nI_eq (by omega) (by omega)
  have q0 : nI way = 0 ↔ way = 0 := wne 0 (by omega)
  have q1 : nI way = 1 ↔ way = 1 := wne 1 (by omega)
  have q2 : nI way = 2 ↔ way = 2 := wne 2 (by omega)
  unfold m_L_acts
  rw [ldL_at hk (by omega), hc, sizeg_eq F hG, bd_some, gd_yes (nI_ne0 (by omega) (by omega)), nm_eq, gd_yes (nI_ne0 (by omega) (by omega)), nm_eq, l8, pk_rem (by omega) (by omega) (by omega), show (5 : Int32) = nI 5 from rfl, pk_rem (by omega) (by omega) (by omega), l64, l3, l4, pk_div (a := z) (d := 8) (by omega) (by omega) (by omega), pk_div (a := z) (d := 64) (by omega) (by omega) (by omega), pk_rem (a := z / 8) (by omega) (by omega) (by omega), pk_rem (a := z / 64) (d := 3) (by omega) (by omega) (by omega), pk_rem (a := z / 64) (d := 4) (by omega) (by omega) (by omega)]
  by_cases w0 : way = 0
  · obtain ⟨τ, e1, e2, e3⟩ := x_begin F (by omega) (k := k) (n := n) (m := 1 + z % 5) hk (by omega) (by omega) (M := M) (C := C) (σ := sL σ 46 k (lN ((1 + z % 5) * 2 ^ 52))) (hA.mv (Fr.sL (S := fun q _ => q = 46) rfl) (fun q j _ _ => by omega))
    rw [if_pos (q0.mpr w0), l1, nI_add, nI_l (by omega), show (52 : Int32) = nI 52 from rfl, L_shl _ (by omega), stL_at hk (by omega), e1, br_inr, if_pos rfl]
    have f0 : Fr (fun q j => SP k q j ∨ (q = 46 ∧ j = k)) σ τ := (Fr.sL (Or.inr ⟨rfl, rfl⟩)).tr (e3.mono (fun q j z => Or.inl z))
    refine ⟨τ, rfl, h.set hk (Gr0 (by omega) (by omega)) (by omega) e2 ?_ f0, f0.mono (SPA hk)⟩
    rw [(e3 46 k (by unfold SP; omega)).2, gL_same, cde_0]
  rw [if_neg (fun q => w0 (q0.mp q))]
  by_cases w1 : way = 1
  · obtain ⟨τ, e1, e4, e2, e3⟩ := x_setColour F (k := k) (n := n) (v := z % n) (c := z / 64 % 3) hk (by omega) (M := M) (C := C) (σ := sL σ 46 k (lN (cde n M (upN C (z % n) (z / 64 % 3)) (fun i => i)))) hG (hA.mv (Fr.sL (S := fun q _ => q = 46) rfl) (fun q j _ _ => by omega)) hone
    rw [if_pos (q1.mpr w1), cde_up hG hone F (by omega), bd_some, stL_at hk (by omega), e1, br_inr, colourg_eq F hG hone, bd_some, if_pos rfl]
    have f0 : Fr (fun q j => SP k q j ∨ (q = 46 ∧ j = k)) σ τ := (Fr.sL (Or.inr ⟨rfl, rfl⟩)).tr (e3.mono (fun q j z => Or.inl z))
    refine ⟨τ, rfl, h.set hk e4 hn e2 ?_ f0, f0.mono (SPA hk)⟩
    rw [(e3 46 k (by unfold SP; omega)).2, gL_same]
  rw [if_neg (fun q => w1 (q1.mp q))]
  by_cases w2 : way = 2
  · rw [if_pos (q2.mpr w2)]
    exact act_swap F (by omega) w hk hn h hG hA hc hone hoth
  rw [if_neg (fun q => w2 (q2.mp q))]
  by_cases w3 : way = 3
  · obtain ⟨τ, e1, e2, e3⟩ := x_copy F (by omega) (k := k) (l := z / 64 % 4) (n := n) hk hm4 (M := M) (C := C) (σ := sL σ 46 (z / 64 % 4) (lN (cde n M C (fun i => i)))) (hA.mv (Fr.sL (S := fun q _ => q = 46) rfl) (fun q j _ _ => by omega))
    rw [if_pos ((wne 3 (by omega)).mpr w3), stL_at hm4 (by omega), e1, br_inr]
    have f0 : Fr (fun q j => SP (z / 64 % 4) q j ∨ (q = 46 ∧ j = z / 64 % 4)) σ τ := (Fr.sL (Or.inr ⟨rfl, rfl⟩)).tr (e3.mono (fun q j z => Or.inl z))
    refine ⟨τ, rfl, h.set hm4 hG hn e2 ?_ f0, f0.mono (SPA hm4)⟩
    rw [(e3 46 (z / 64 % 4) (by unfold SP; omega)).2, gL_same]
  rw [if_neg (fun q => w3 ((wne 3 (by omega)).mp q))]
  by_cases w4 : way = 4
  · rw [if_pos ((wne 4 (by omega)).mpr w4)]
    exact act_compl F hF w hk hn h hG hA hc
  rw [if_neg (fun q => w4 ((wne 4 (by omega)).mp q))]
  have tog : ∀ b, b < n → ActOk (m_L_acts_500 F w 0 46 (nI k) (nI (z % n)) (nI b) σ) σ := fun b hb => by
    unfold m_L_acts_500
    by_cases e : z % n = b
    · rw [if_pos (by rw [e])]
      exact ⟨σ, rfl, h, Fr.rf⟩
    · rw [if_neg (fun q => e ((nI_eq (by omega) (by omega)).mp q)), ldL_at hk (by omega), bit_eq F (by omega) (by omega) (by omega) e, bd_some, hc, cde_flip hG hone hb e, stL_at hk (by omega)]
      obtain ⟨τ, e1, e2, e3⟩ := x_toggle F (k := k) (n := n) hk (M := M) (C := C) (σ := sL σ 46 k (lN (cde n (flipM M (z % n) b) C (fun i => i)))) hG (hA.mv (Fr.sL (S := fun q _ => q = 46) rfl) (fun q j _ _ => by omega)) hone hb e
      have e4 : gL τ 46 k = lN (cde n (flipM M (z % n) b) C (fun i => i)) := by rw [(e3 46 k (by unfold SP; omega)).2, gL_same]
      have hG' := flip_Gr hG hone hb e
      rw [e1, br_inr, ldL_at hk (by omega), e4, edgeg_eq F (by omega) hG' hone hb, bd_some, if_pos rfl]
      have f0 : Fr (fun q j => SP k q j ∨ (q = 46 ∧ j = k)) σ τ := (Fr.sL (Or.inr ⟨rfl, rfl⟩)).tr (e3.mono (fun q j z => Or.inl z))
      exact ⟨τ, rfl, h.set hk hG' hn e2 e4 f0, f0.mono (SPA hk)⟩
  by_cases e : nI (z % n) = nI (z / 8 % n)
  · rw [if_pos e, gd_yes (nI_ne0 (by omega) (by omega)), nI_1, pk_rem (by omega) (by omega) (by omega)]
    exact tog _ (Nat.mod_lt _ (by omega))
  · rw [if_neg e]
    exact tog _ hoth
end
