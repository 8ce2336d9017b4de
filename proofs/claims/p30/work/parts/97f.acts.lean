/-! THE LAW'S ACTS: a call that changes a graph, the code beside it -/
section
/-- each graph beside its code -/
def GG (σ : zST) : Prop := ∀ k, k < 4 → ∃ n M C, Gr n M C ∧ n < 6 ∧ At (2 + 3 * k) n M C σ ∧ gL σ 46 k = lN (cde n M C (fun i => i))
def SA (q _j : Nat) : Prop := (2 ≤ q ∧ q ≤ 13) ∨ q = 46
theorem GG.mv {σ τ : zST} (h : GG σ) {S : Nat → Nat → Prop} (hf : Fr S σ τ) (h0 : ∀ q j, SA q j → ¬ S q j) : GG τ := fun k hk => by
  obtain ⟨n, M, C, h1, h2, h3, h4⟩ := h k hk
  exact ⟨n, M, C, h1, h2, h3.mv hf (fun q j _ _ => h0 q j (by unfold SA; omega)), by rw [(hf 46 k (h0 46 k (by unfold SA; omega))).2, h4]⟩
theorem GG.set {σ τ : zST} (h : GG σ) {l n : Nat} (hl : l < 4) {M C : Nat → Nat} (hG : Gr n M C) (hn : n < 6) (hA : At (2 + 3 * l) n M C τ) (hc : gL τ 46 l = lN (cde n M C (fun i => i))) (hf : Fr (fun q j => SP l q j ∨ (q = 46 ∧ j = l)) σ τ) : GG τ := fun k hk => by
  by_cases e : k = l
  · subst e
    exact ⟨n, M, C, hG, hn, hA, hc⟩
  · obtain ⟨n', M', C', h1, h2, h3, h4⟩ := h k hk
    exact ⟨n', M', C', h1, h2, h3.mv hf (fun q j _ _ => by unfold SP; omega), by rw [(hf 46 k (by unfold SP; omega)).2, h4]⟩
/-- what an act owes -/
def ActOk (o : Option (Int32 × zST)) (σ : zST) : Prop := ∃ τ, o = some (1, τ) ∧ GG τ ∧ Fr SA σ τ
theorem SPA {l : Nat} (hl : l < 4) : ∀ q j, (SP l q j ∨ (q = 46 ∧ j = l)) → SA q j := fun q j z => by
  unfold SP at z
  unfold SA
  omega
theorem br_inr {α β : Type} (x : α) (τ : zST) (k : α → zST → Option β) : br (some (.inr x, τ)) k = k x τ := rfl
-- 2: swap
def swA (a b : Nat) (A : Nat → Nat → Bool) (K J x y : Nat) : Bool := if max x y < K ∨ (max x y = K ∧ min x y < J) then A (swp a b x) (swp a b y) else A x y
theorem swA_s {n a b : Nat} {c : Nat → Nat} {A : Nat → Nat → Bool} (hA : Sym A) {K J : Nat} (hJ : J < K) : kc n c (upA (swA a b A K J) K J (A (swp a b K) (swp a b J))) = kc n c (swA a b A K (J + 1)) := by
  refine kc_cong (fun _ _ => rfl) (fun x y hxy hy => ?_)
  unfold upA swA
  by_cases e : (x = K ∧ y = J) ∨ (x = J ∧ y = K)
  · rw [if_pos e, if_pos (by omega)]
    rcases e with ⟨rfl, rfl⟩ | ⟨rfl, rfl⟩
    · rfl
    · exact hA _ _
  · rw [if_neg e]
    by_cases h : max x y < K ∨ (max x y = K ∧ min x y < J)
    · rw [if_pos h, if_pos (by omega)]
    · rw [if_neg h, if_neg (by omega)]
theorem swA_k {n a b : Nat} {c : Nat → Nat} {A : Nat → Nat → Bool} {K J : Nat} (hJ : K ≤ J) : kc n c (swA a b A K J) = kc n c (swA a b A K (J + 1)) := by
  refine kc_cong (fun _ _ => rfl) (fun x y hxy hy => ?_)
  unfold swA
  by_cases h : max x y < K ∨ (max x y = K ∧ min x y < J)
  · rw [if_pos h, if_pos (by omega)]
  · rw [if_neg h, if_neg (by omega)]
theorem swA_n {n a b : Nat} {c : Nat → Nat} {A : Nat → Nat → Bool} {K m : Nat} (hK : K ≤ m) : kc n c (swA a b A K m) = kc n c (swA a b A (K + 1) 0) := by
  refine kc_cong (fun _ _ => rfl) (fun x y hxy hy => ?_)
  unfold swA
  by_cases h : max x y < K ∨ (max x y = K ∧ min x y < m)
  · rw [if_pos h, if_pos (by omega)]
  · rw [if_neg h, if_neg (by omega)]
theorem swA_sym {a b : Nat} {A : Nat → Nat → Bool} (hA : Sym A) (K J : Nat) : Sym (swA a b A K J) := fun x y => by
  unfold swA
  rw [hA (swp a b x), hA x y]
  by_cases h : max x y < K ∨ (max x y = K ∧ min x y < J)
  · rw [if_pos h, if_pos (by omega)]
  · rw [if_neg h, if_neg (by omega)]
def swK (C : Nat → Nat) (a b K i : Nat) : Nat := if i < K then C (swp a b i) else C i
theorem sel3 {β : Type} (f : Int32 → β) {x a b : Nat} (hx : x < 8) (ha : a < 8) (hb : b < 8) : (if nI x = nI a then f (nI b) else if nI x = nI b then f (nI a) else f (nI x)) = f (nI (swp a b x)) := by
  unfold swp
  by_cases h1 : x = a
  · rw [if_pos (by rw [h1]), if_pos h1]
  · rw [if_neg (fun z => h1 ((nI_eq (by omega) (by omega)).mp z)), if_neg h1]
    by_cases h2 : x = b
    · rw [if_pos (by rw [h2]), if_pos h2]
    · rw [if_neg (fun z => h2 ((nI_eq (by omega) (by omega)).mp z)), if_neg h2]
theorem act_swap (F : Nat) (hF : 9 < F) (w : Nat) {k n a b : Nat} (hk : k < 4) (hn : n < 6) {M C : Nat → Nat} {σ : zST} (h : GG σ) (hG : Gr n M C) (hA : At (2 + 3 * k) n M C σ) (hc : gL σ 46 k = lN (cde n M C (fun i => i))) (ha : a < n) (hb : b < n) : ActOk (m_L_acts_128 F w F 0 46 (nI k) (lN (cde n M C (fun i => i))) (nI n) (nI a) (nI b) 0 σ) σ := by
  have h8 : n ≤ 8 := by omega
  have hid := id8 h8
  have hGA : Sym (gA n M (fun i => i)) := gA_sym hG hid
  have hsl : ∀ x, x < n → swp a b x < n := fun x hx => (swp_lt ha hb).mpr hx
  have hC8 : ∀ K, C8 (gC n (swK C a b K) (fun i => i)) := fun K i hi => by
    show (if i < n then (if i < K then C (swp a b i) else C i) else 0) < 8
    by_cases q : i < n
    · rw [if_pos q]
      have h1 := hsl i q
      split
      · exact (hG.2 _ (by omega)).1
      · exact (hG.2 _ hi).1
    · rw [if_neg q]; omega
  refine up_inv0 (fun m (K : Int32) (s : zST) => m_L_acts_128 F w m 0 46 (nI k) (lN (cde n M C (fun i => i))) (nI n) (nI a) (nI b) K s) n (fun K s => gL s 46 k = lN (kc n (gC n (swK C a b K) (fun i => i)) (swA a b (gA n M (fun i => i)) K 0)) ∧ Fr (fun q j => q = 46 ∧ j = k) σ s) (fun o => ActOk o σ) (fun m K s hK hI => ?_) (fun m s hI => ?_) (show n < F by omega) (s := σ) ⟨?_, Fr.rf⟩
  · obtain ⟨i1, i2⟩ := hI
    have hKs := hsl K hK
    -- the row of K
    have row : ∃ s', gL s' 46 k = lN (kc n (gC n (swK C a b (K + 1)) (fun i => i)) (swA a b (gA n M (fun i => i)) (K + 1) 0)) ∧ Fr (fun q j => q = 46 ∧ j = k) σ s' ∧ m_L_acts_138 F w (m_L_acts_128 F w m) F 0 46 (nI k) (lN (cde n M C (fun i => i))) (nI n) (nI a) (nI b) (nI K) 0 s = m_L_acts_128 F w m 0 46 (nI k) (lN (cde n M C (fun i => i))) (nI n) (nI a) (nI b) (nI (K + 1)) s' := by
      have := up_inv0 (fun g (J : Int32) (s : zST) => m_L_acts_138 F w (m_L_acts_128 F w m) g 0 46 (nI k) (lN (cde n M C (fun i => i))) (nI n) (nI a) (nI b) (nI K) J s) n (fun J s => gL s 46 k = lN (kc n (gC n (swK C a b K) (fun i => i)) (swA a b (gA n M (fun i => i)) K J)) ∧ Fr (fun q j => q = 46 ∧ j = k) σ s) (fun o => ∃ s', gL s' 46 k = lN (kc n (gC n (swK C a b (K + 1)) (fun i => i)) (swA a b (gA n M (fun i => i)) (K + 1) 0)) ∧ Fr (fun q j => q = 46 ∧ j = k) σ s' ∧ o = m_L_acts_128 F w m 0 46 (nI k) (lN (cde n M C (fun i => i))) (nI n) (nI a) (nI b) (nI (K + 1)) s') (fun g J s hJ hI => ?_) (fun g s hI => ?_) (show n < F by omega) (s := s) ⟨i1, i2⟩
      · exact this
      · obtain ⟨i1, i2⟩ := hI
        have hJs := hsl J hJ
        have e199 : ∀ t : zST, m_L_acts_138 F w (m_L_acts_128 F w m) (g + 1) 0 46 (nI k) (lN (cde n M C (fun i => i))) (nI n) (nI a) (nI b) (nI K) (nI J) t = m_L_acts_199 F w (m_L_acts_128 F w m) (m_L_acts_138 F w (m_L_acts_128 F w m) g) 0 46 (nI k) (lN (cde n M C (fun i => i))) (nI n) (nI a) (nI b) (nI K) (nI J) (nI (swp a b K)) (nI (swp a b J)) t := fun t => by
          rw [m_L_acts_138]; dsimp only
          unfold m_L_acts_171
          rw [if_neg (nI_ge hJ (by omega)), sel3 (fun z => if nI J = nI a then m_L_acts_199 F w (m_L_acts_128 F w m) (m_L_acts_138 F w (m_L_acts_128 F w m) g) 0 46 (nI k) (lN (cde n M C (fun i => i))) (nI n) (nI a) (nI b) (nI K) (nI J) z (nI b) t else if nI J = nI b then m_L_acts_199 F w (m_L_acts_128 F w m) (m_L_acts_138 F w (m_L_acts_128 F w m) g) 0 46 (nI k) (lN (cde n M C (fun i => i))) (nI n) (nI a) (nI b) (nI K) (nI J) z (nI a) t else m_L_acts_199 F w (m_L_acts_128 F w m) (m_L_acts_138 F w (m_L_acts_128 F w m) g) 0 46 (nI k) (lN (cde n M C (fun i => i))) (nI n) (nI a) (nI b) (nI K) (nI J) z (nI J) t) (by omega) (by omega) (by omega), sel3 (fun z => m_L_acts_199 F w (m_L_acts_128 F w m) (m_L_acts_138 F w (m_L_acts_128 F w m) g) 0 46 (nI k) (lN (cde n M C (fun i => i))) (nI n) (nI a) (nI b) (nI K) (nI J) (nI (swp a b K)) z t) (by omega) (by omega) (by omega)]
        show ∃ s', _ ∧ m_L_acts_138 F w (m_L_acts_128 F w m) (g + 1) 0 46 (nI k) (lN (cde n M C (fun i => i))) (nI n) (nI a) (nI b) (nI K) (nI J) s = _
        rw [e199]
        unfold m_L_acts_199 m_L_acts_252 m_L_acts_259
        by_cases q : K ≤ J
        · refine ⟨sL s 46 k (gL s 46 k), ⟨?_, i2.tr (Fr.sL ⟨rfl, rfl⟩)⟩, ?_⟩
          · rw [gL_same, i1, swA_k q]
          · rw [if_pos (nI_le q (by omega)), ldL_at (by omega) (by omega), stL_at (by omega) (by omega), nm_eq, nI_1]
        · have hne : K ≠ J := by omega
          rw [if_neg (nI_ge (show J < K by omega) (by omega)), ldL_at (by omega) (by omega), bit_eq F (by omega) (by omega) (by omega) hne, bd_some, edgeg_eq F (by omega) hG hKs hJs, bd_some, i1, kc_clr (hC8 K) _ (by omega) (by omega) hne]
          have hval : gA n M (fun i => i) (swp a b K) (swp a b J) = (M (swp a b K)).testBit (swp a b J) := by
            unfold gA
            rw [decide_eq_true ⟨hKs, hJs⟩, Bool.true_and]
          have hst := swA_s (n := n) (a := a) (b := b) (c := gC n (swK C a b K) (fun i => i)) hGA (show J < K by omega)
          cases e : (M (swp a b K)).testBit (swp a b J)
          · refine ⟨sL s 46 k (lN (kc n (gC n (swK C a b K) (fun i => i)) (swA a b (gA n M (fun i => i)) K (J + 1)))), ⟨gL_same _ _ _ _, i2.tr (Fr.sL ⟨rfl, rfl⟩)⟩, ?_⟩
            rw [hval, e] at hst
            rw [if_pos (by decide +kernel), kc_or0, hst, stL_at (by omega) (by omega), nm_eq, nI_1]
          · refine ⟨sL s 46 k (lN (kc n (gC n (swK C a b K) (fun i => i)) (swA a b (gA n M (fun i => i)) K (J + 1)))), ⟨gL_same _ _ _ _, i2.tr (Fr.sL ⟨rfl, rfl⟩)⟩, ?_⟩
            rw [hval, e] at hst
            rw [if_neg (by decide +kernel), bit_eq F (by omega) (by omega) (by omega) hne, bd_some, kc_set (hC8 K) _ (by omega) (by omega) hne, upA_upA, hst, stL_at (by omega) (by omega), nm_eq, nI_1]
      · obtain ⟨i1, i2⟩ := hI
        have hcs : (gC n C (fun i => i)) (swp a b K) = C (swp a b K) := if_pos hKs
        show ∃ s', _ ∧ _ ∧ m_L_acts_138 F w (m_L_acts_128 F w m) (g + 1) 0 46 (nI k) (lN (cde n M C (fun i => i))) (nI n) (nI a) (nI b) (nI K) (nI n) s = _
        rw [m_L_acts_138]; dsimp only
        rw [if_pos (nI_le (Nat.le_refl _) (by omega)), ldL_at (by omega) (by omega), sel3 (fun z => m_L_acts_301 F w (m_L_acts_128 F w m) 0 46 (nI k) (lN (cde n M C (fun i => i))) (nI n) (nI a) (nI b) (nI K) z (lN (cde n M C (fun i => i))) (nI K) (gL s 46 k) (nI k) 46 s) (by omega) (by omega) (by omega)]
        unfold m_L_acts_301
        have hCs : C (swp a b K) < 8 := (hG.2 _ (by omega)).1
        rw [colourg_eq F hG hKs, bd_some, i1, coloured_eq F (hC8 K) _ (by omega) hCs, bd_some, stL_at (by omega) (by omega), nm_eq, nI_1]
        refine ⟨_, ?_, i2.tr (Fr.sL ⟨rfl, rfl⟩), rfl⟩
        rw [gL_same, swA_n (by omega)]
        congr 1
        refine kc_cong (fun i hi => ?_) (fun _ _ _ _ => rfl)
        show (if i = K then C (swp a b K) else if i < n then (if i < K then C (swp a b i) else C i) else 0) = (if i < n then (if i < K + 1 then C (swp a b i) else C i) else 0)
        by_cases e : i = K
        · rw [if_pos e, if_pos (by omega), if_pos (by omega), e]
        · rw [if_neg e]
          by_cases z : i < n
          · rw [if_pos z, if_pos z]
            by_cases q : i < K
            · rw [if_pos q, if_pos (by omega)]
            · rw [if_neg q, if_neg (by omega)]
          · rw [if_neg z, if_neg z]
    obtain ⟨s', r1, r2, r3⟩ := row
    refine ⟨s', ⟨r1, r2⟩, ?_⟩
    show m_L_acts_128 F w (m + 1) 0 46 (nI k) (lN (cde n M C (fun i => i))) (nI n) (nI a) (nI b) (nI K) s = _
    rw [m_L_acts_128]; dsimp only
    rw [if_neg (nI_ge hK (by omega)), r3]
  · obtain ⟨i1, i2⟩ := hI
    obtain ⟨τ, e1, e2, e3⟩ := x_swap F (by omega) hk hG (hA.mv i2 (fun q j _ _ => by omega)) ha hb
    have hcd : lN (kc n (gC n (swK C a b n) (fun i => i)) (swA a b (gA n M (fun i => i)) n 0)) = lN (cde n (swM M a b) (swC C a b) (fun i => i)) := by
      rw [cde_kc (swap_Gr hG ha hb)]
      congr 1
      refine kc_cong (fun i hi => ?_) (fun x y hxy hy => ?_)
      · show (if i < n then (if i < n then C (swp a b i) else C i) else 0) = (if i < n then C (swp a b i) else 0)
        by_cases q : i < n
        · rw [if_pos q, if_pos q, if_pos q]
        · rw [if_neg q, if_neg q]
      · show (if max x y < n ∨ (max x y = n ∧ min x y < 0) then (decide (swp a b x < n ∧ swp a b y < n) && (M (swp a b x)).testBit (swp a b y)) else (decide (x < n ∧ y < n) && (M x).testBit y)) = (decide (x < n ∧ y < n) && (swM M a b x).testBit y)
        by_cases q : max x y < n
        · have hx := hsl x (by omega)
          have hy := hsl y (by omega)
          rw [if_pos (Or.inl q), decide_eq_true (show swp a b x < n ∧ swp a b y < n from ⟨hx, hy⟩), decide_eq_true (show x < n ∧ y < n by omega)]
          unfold swM
          rw [sbit_bit]
        · rw [if_neg (by omega), decide_eq_false (by omega), Bool.false_and, Bool.false_and]
    refine ⟨τ, ?_, ?_, (i2.mono (fun q j z => by unfold SA; omega)).tr (e3.mono (fun q j z => SPA hk q j (Or.inl z)))⟩
    · show m_L_acts_128 F w (m + 1) 0 46 (nI k) (lN (cde n M C (fun i => i))) (nI n) (nI a) (nI b) (nI n) s = _
      rw [m_L_acts_128]; dsimp only
      rw [if_pos (nI_le (Nat.le_refl _) (by omega)), e1, br_inr]
    · refine h.set hk (swap_Gr hG ha hb) hn e2 ?_ ((i2.mono (fun q j z => Or.inr z)).tr (e3.mono (fun q j z => Or.inl z)))
      rw [(e3 46 k (by unfold SP; omega)).2, i1, hcd]
  · rw [hc, cde_kc hG]
    congr 1
end
