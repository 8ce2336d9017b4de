/-! MATHEMATICS, 58: areAlike -/
section
theorem cod_52 {n : Nat} (hn : n ≤ 8) {M C w : Nat → Nat} (hw : IsN n w) (hC : ∀ v, v < 8 → C v < 8) : cod n M C w < 2 ^ 52 := by
  have h1 : cw n C w < 2 ^ 24 := rv_lt24 (fun i hi => hC _ (by have := hw.lt hn hi; omega))
  have h2 : ec n M w < 2 ^ 28 := eb_lt _ _
  unfold cod
  omega
/-- best codes are the same for graphs that are alike alone -/
theorem opt_alike {n n2 : Nat} (hn : n ≤ 8) (hn2 : n2 ≤ 8) {M C M2 C2 b b2 : Nat → Nat} (hG : Gr n M C) (hG2 : Gr n2 M2 C2) (hb : Opt n M C b) (hb2 : Opt n2 M2 C2 b2) : 2 ^ 52 * n + cod n M C b = 2 ^ 52 * n2 + cod n2 M2 C2 b2 ↔ n = n2 ∧ ∃ q, Iso n M C M2 C2 q := by
  have l1 := cod_52 hn (M := M) hb.1 (fun v hv => (hG.2 v hv).1)
  have l2 := cod_52 hn2 (M := M2) hb2.1 (fun v hv => (hG2.2 v hv).1)
  constructor
  · intro h
    have e : n = n2 := by omega
    subst e
    exact ⟨rfl, _, cod_iso hn hG hG2 hb.1 hb2.1 (by omega)⟩
  · rintro ⟨rfl, q, hq⟩
    have h1 := iso_cod hn hq hb.1
    have h2 := iso_cod hn (hq.iv hn) hb2.1
    have h3 := hb2.2 _ (hb.1.comp hq.1)
    have h4 := hb.2 _ (hb2.1.comp hq.1.iv)
    omega
theorem same_eq (F : Nat) (hF : 9 < F) {p p2 n n2 : Nat} (hp : p + 2 < 21) (hp2 : p2 + 2 < 21) {M C M2 C2 : Nat → Nat} {σ : zST} (hG : Gr n M C) (hA : AN p n M C σ) (hG2 : Gr n2 M2 C2) (hA2 : AN p2 n2 M2 C2 σ) : ∃ τ, m_X7_haveOneForm F 0 p p2 σ = some (bI (dc (n = n2 ∧ ∃ q, Iso n M C M2 C2 q)), τ) ∧ Fr (fun q _ => 21 ≤ q ∧ q ≤ 25) σ τ := by
  obtain ⟨s1, b, e1, b1, f1⟩ := clcode_eq F hF hp hG hA
  obtain ⟨s2, b', e2, b2, f2⟩ := clcode_eq F hF hp2 hG2 (hA2.mv f1 (fun q j _ _ => by omega))
  refine ⟨s2, ?_, f1.tr f2⟩
  have h1 := code_lt hG.1.2 (M := M) b1.1.1 (fun v hv => (hG.2 v hv).1)
  have h2 := code_lt hG2.1.2 (M := M2) b2.1.1 (fun v hv => (hG2.2 v hv).1)
  have hc := cmp_0 h1 h2
  rw [opt_alike hG.1.2 hG2.1.2 hG hG2 b1.1 b2.1] at hc
  unfold m_X7_haveOneForm
  rw [e1, bd_some, e2, bd_some]
  by_cases e : n = n2 ∧ ∃ q, Iso n M C M2 C2 q
  · rw [if_pos (hc.mpr e), dc_yes e]; rfl
  · rw [if_neg (fun z => e (hc.mp z)), dc_no e]; rfl
/-- colours and counts of classes go along -/
theorem rk_map {n : Nat} (hn : n ≤ 8) {K K2 f : Nat → Nat} (hf : IsN n f) (h : ∀ v, v < n → K2 (f v) = K v) : ncl K2 n = ncl K n ∧ ∀ v, v < n → rk K2 n (f v) = rk K n v := by
  -- values below x, each once
  have vals : ∀ (K : Nat → Nat) (p : Nat → Bool), cnt (fun u => fstK K u && p (K u)) n = (((List.range n).filter (fun u => fstK K u && p (K u))).map K).length := fun K p => by
    rw [List.length_map, ← List.countP_eq_length_filter]; rfl
  have nod : ∀ (K : Nat → Nat) (p : Nat → Bool), (((List.range n).filter (fun u => fstK K u && p (K u))).map K).Nodup := fun K p => nodup_map_on (List.nodup_range.sublist List.filter_sublist) (fun x y hx hy e => by
    rw [List.mem_filter, Bool.and_eq_true] at hx hy
    exact fst_one hx.2.1 hy.2.1 e)
  have mem : ∀ (K : Nat → Nat) (p : Nat → Bool) (y : Nat), y ∈ ((List.range n).filter (fun u => fstK K u && p (K u))).map K ↔ p y = true ∧ ∃ u, u < n ∧ K u = y := fun K p y => by
    rw [List.mem_map]
    constructor
    · rintro ⟨u, hu, e⟩
      rw [List.mem_filter, List.mem_range, Bool.and_eq_true] at hu
      exact ⟨by rw [← e]; exact hu.2.2, u, hu.1, e⟩
    · rintro ⟨h1, u, hu, e⟩
      obtain ⟨u', a1, a2, a3⟩ := fst_ex K hu
      refine ⟨u', ?_, a2.trans e⟩
      rw [List.mem_filter, List.mem_range, Bool.and_eq_true]
      exact ⟨a1, a3, by rw [a2, e]; exact h1⟩
  have key : ∀ p : Nat → Bool, cnt (fun u => fstK K2 u && p (K2 u)) n = cnt (fun u => fstK K u && p (K u)) n := fun p => by
    rw [vals, vals]
    refine list_len (nod K2 p) (nod K p) (fun y => ?_)
    rw [mem, mem]
    constructor
    · rintro ⟨h1, u, hu, e⟩
      obtain ⟨v, hv, rfl⟩ := hf.onto hn hu
      exact ⟨h1, v, hv, by rw [← h v hv]; exact e⟩
    · rintro ⟨h1, u, hu, e⟩
      exact ⟨h1, f u, hf.lt hn hu, by rw [h u hu]; exact e⟩
  refine ⟨?_, fun v hv => ?_⟩
  · have := key (fun _ => true)
    unfold ncl
    rw [cnt_cong (Q := fun u => fstK K2 u && (fun _ => true) (K2 u)) (fun u _ => (Bool.and_true _).symm), this]
    exact cnt_cong (fun u _ => Bool.and_true _)
  · unfold rk
    rw [h v hv]
    exact key (fun y => decide (y < K v))
/-- refinement goes along with a map that keeps all -/
theorem rk_iso {n : Nat} (hn : n ≤ 8) {M C M2 C2 f : Nat → Nat} (hG : Gr n M C) (hG2 : Gr n M2 C2) (hf : Iso n M C M2 C2 f) : ∀ t, Cn n M2 C2 t = Cn n M C t ∧ ∀ v, v < n → Rk n M2 C2 t (f v) = Rk n M C t v
  | 0 => rk_map hn hf.1 hf.2.1
  | t + 1 => by
    have ih := (rk_iso hn hG hG2 hf t).2
    refine rk_map hn hf.1 (fun v hv => ?_)
    have hfv := hf.1.lt hn hv
    have nb : ∀ c, nbc M2 (fun w => Rk n M2 C2 t w) n (f v) c = nbc M (fun w => Rk n M C t w) n v c := fun c => by
      unfold nbc
      have e1 : M2 (f v) &&& memb (fun w => Rk n M2 C2 t w) n c = msk (fun u => (M2 (f v)).testBit u && (Rk n M2 C2 t u == c)) n := by
        apply Nat.eq_of_testBit_eq
        intro y
        unfold memb
        rw [Nat.testBit_and, msk_bit, msk_bit]
        cases decide (y < n) <;> cases (M2 (f v)).testBit y <;> rfl
      have e2 : M v &&& memb (fun w => Rk n M C t w) n c = msk (fun u => (M v).testBit u && (Rk n M C t u == c)) n := by
        apply Nat.eq_of_testBit_eq
        intro y
        unfold memb
        rw [Nat.testBit_and, msk_bit, msk_bit]
        cases decide (y < n) <;> cases (M v).testBit y <;> rfl
      rw [e1, e2, msk_pop hn, msk_pop hn, ← cntN hn hf.1 (fun u => (M2 (f v)).testBit u && (Rk n M2 C2 t u == c))]
      exact cnt_cong (fun u hu => by rw [hf.2.2 v u hv hu, ih u hu])
    have kt : ∀ i, keyT M2 (fun w => Rk n M2 C2 t w) n (f v) i = keyT M (fun w => Rk n M C t w) n v i := by
      intro i
      induction i with
      | zero => exact ih v hv
      | succ i ihi => rw [keyT, keyT, ihi, nb]
    exact kt 8
theorem endR_iso {n : Nat} (hn : n ≤ 8) {M C M2 C2 f : Nat → Nat} (hG : Gr n M C) (hG2 : Gr n M2 C2) (hf : Iso n M C M2 C2 f) {T : Nat} (h : EndR n M C T) : EndR n M2 C2 T := by
  have e : ∀ t, Cn n M2 C2 t = Cn n M C t := fun t => (rk_iso hn hG hG2 hf t).1
  have e2 : ∀ t, Cp n M2 C2 t = Cp n M C t := fun t => by
    cases t with
    | zero => rfl
    | succ t => exact e t
  refine ⟨by rw [e, e2]; exact h.1, fun t ht => by rw [e, e2]; exact h.2 t ht⟩
theorem rk_sep {K : Nat → Nat} {n u v : Nat} (hu : u < n) (hv : v < n) (h : rk K n u = rk K n v) : K u = K v := by
  have less : ∀ {u v}, u < n → K u < K v → rk K n u < rk K n v := by
    intro u v hu hl
    obtain ⟨w, w1, w2, w3⟩ := fst_ex K hu
    have h1 : rk K n v ≥ cnt (fun x => (fstK K x && decide (K x < K u)) || decide (x = w)) n := cnt_mono (fun x hx z => by
      rw [Bool.or_eq_true, Bool.and_eq_true, decide_eq_true_iff, decide_eq_true_iff] at z
      rw [Bool.and_eq_true, decide_eq_true_iff]
      rcases z with ⟨z1, z2⟩ | z
      · exact ⟨z1, by omega⟩
      · rw [z]; exact ⟨w3, by omega⟩)
    rw [cnt_or (fun x _ z => by
      rw [Bool.and_eq_true, decide_eq_true_iff, decide_eq_true_iff] at z
      have := z.1.2
      rw [z.2] at this
      omega), cnt_one (j := w) w1 (decide_eq_true rfl) (fun x _ hne => decide_eq_false hne)] at h1
    have e : rk K n u = cnt (fun x => fstK K x && decide (K x < K u)) n := rfl
    omega
  rcases Nat.lt_trichotomy (K u) (K v) with z | z | z
  · have := less hu z; omega
  · exact z
  · have := less hv z; omega
theorem rk_col {n : Nat} {M C : Nat → Nat} : ∀ t {u v : Nat}, u < n → v < n → Rk n M C t u = Rk n M C t v → C u = C v
  | 0, u, v, hu, hv, h => rk_sep hu hv h
  | t + 1, u, v, hu, hv, h => by
    have hk := rk_sep (K := fun u => key M (fun w => Rk n M C t w) n u) hu hv h
    have down : ∀ i, keyT M (fun w => Rk n M C t w) n u i = keyT M (fun w => Rk n M C t w) n v i → Rk n M C t u = Rk n M C t v := by
      intro i
      induction i with
      | zero => exact fun z => z
      | succ i ih =>
        intro z
        rw [keyT, keyT] at z
        have h1 := nbc_le M (fun w => Rk n M C t w) n u i
        have h2 := nbc_le M (fun w => Rk n M C t w) n v i
        exact ih (by omega)
    exact rk_col t hu hv (down 8 hk)
end

