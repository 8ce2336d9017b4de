/-! MATHEMATICS, 62: the start -/
section
theorem numbered_in0 (F : Nat) {p : Nat → Nat} (hp : ∀ i, i < 8 → p i < 8) {σ : zST} (hi : ∀ j, j < 8 → gI σ 13 j = nI (p j)) (k4 : Nat → Int32 → Int32 → zST → Option (Int32 × zST)) {k a1 : Nat} (hk : k < 8) : ∀ (d i n : Nat), i + d = 8 → d < n → k < i → m_X8_numbered_17 F k4 n 0 (nI a1) (nI k) (nI (cnt (fun j => decide (k < j) && decide (p j < p k)) i)) (nI i) σ = k4 0 (nI (a1 * (8 - k) + les p k)) (nI (k + 1)) σ := by
  intro d
  induction d with
  | zero =>
    intro i n h1 h2 h3
    obtain ⟨n, rfl⟩ : ∃ k, n = k + 1 := ⟨n - 1, by omega⟩
    have : i = 8 := by omega
    subst this
    rw [m_X8_numbered_17]; dsimp only
    rw [l8, if_pos (nI_le (by omega) (by omega)), b_sub (by omega), pk_mul, nI_add, nm_eq, nI_1, nm_eq]
    rfl
  | succ d ih =>
    intro i n h1 h2 h3
    obtain ⟨n, rfl⟩ : ∃ k, n = k + 1 := ⟨n - 1, by omega⟩
    have hi8 : i < 8 := by omega
    have e1 := hi i hi8
    have e2 := hi k hk
    have b1 := hp i hi8
    have b2 := hp k hk
    rw [m_X8_numbered_17]; dsimp only
    unfold m_X8_numbered_46
    rw [l8, if_neg (nI_ge hi8 (by omega)), ldI_at hi8 (by omega), ldI_at hk (by omega), e1, e2]
    have hs := cnt_s (fun j => decide (k < j) && decide (p j < p k)) i
    by_cases q : p i < p k
    · rw [if_neg (nI_ge q (by omega)), nm_eq, nm_eq, nI_1, nI_1]
      have : (decide (k < i) && decide (p i < p k)) = true := by
        rw [decide_eq_true h3, decide_eq_true q]; rfl
      rw [this] at hs
      have hs : cnt (fun j => decide (k < j) && decide (p j < p k)) (i + 1) = cnt (fun j => decide (k < j) && decide (p j < p k)) i + 1 := hs
      rw [← hs]
      exact ih (i + 1) n (by omega) (by omega) (by omega)
    · rw [if_pos (nI_le (by omega) (by omega)), nm_eq, nm_eq, nI_1]
      have : (decide (k < i) && decide (p i < p k)) = false := by
        rw [decide_eq_false q, Bool.and_false]
      rw [this] at hs
      have hs : cnt (fun j => decide (k < j) && decide (p j < p k)) (i + 1) = cnt (fun j => decide (k < j) && decide (p j < p k)) i := hs
      rw [l0, nI_add, Nat.add_zero, ← hs]
      exact ih (i + 1) n (by omega) (by omega) (by omega)
theorem numbered_eq0 (F : Nat) (hF : 8 < F) {p : Nat → Nat} (hp : ∀ i, i < 8 → p i < 8) {σ : zST} (hi : ∀ j, j < 8 → gI σ 13 j = nI (p j)) : m_X8_numbered F 0 σ = some (nI (num p 8), σ) := by
  unfold m_X8_numbered
  refine up_loop0 (fun n (i : Int32) (s : Int32) => m_X8_numbered_4 F n 0 s i σ) 8 (fun i => nI (num p i)) (some (nI (num p 8), σ)) (fun n k hk => ?_) (fun n => ?_) hF
  · show m_X8_numbered_4 F (n + 1) 0 (nI (num p k)) (nI k) σ = m_X8_numbered_4 F n 0 (nI (num p (k + 1))) (nI (k + 1)) σ
    rw [m_X8_numbered_4]; dsimp only
    have h0 : cnt (fun j => decide (k < j) && decide (p j < p k)) (k + 1) = 0 := cnt_none (fun j hj => by
      rw [decide_eq_false (by omega), Bool.false_and])
    have h := numbered_in0 F hp hi (m_X8_numbered_4 F n) (a1 := num p k) hk (8 - (k + 1)) (k + 1) F (by omega) (by omega) (by omega)
    rw [h0] at h
    rw [l8, if_neg (nI_ge hk (by omega)), nm_eq, nI_1, l0, h]
    rfl
  · show m_X8_numbered_4 F (n + 1) 0 (nI (num p 8)) (nI 8) σ = _
    rw [m_X8_numbered_4]; dsimp only
    rw [l8, if_pos (nI_le (by omega) (by omega))]
def FRL0 (N : Nat) (L : Nat → Nat → Nat) (σ : zST) : Prop := gI σ 0 14 = nI N ∧ (∀ k, k < N → IsP (L k) ∧ gI σ 11 k = nI (qk (L k) 8)) ∧ (∀ i j, i < N → j < N → L i = L j → i = j) ∧ ∀ f, IsP f → (gI σ 12 (num f 8) = 1 ∧ ∃ k, k < N ∧ L k = f) ∨ (gI σ 12 (num f 8) = 0 ∧ ∀ k, k < N → L k ≠ f)
def KL0 (p j : Nat) : Prop := p = 11 ∨ p = 12 ∨ (p = 0 ∧ j = 14)
theorem finds_eq0 (F : Nat) (hF : 8 < F) {N : Nat} {L : Nat → Nat → Nat} {σ : zST} (h : FRL0 N L σ) {p : Nat → Nat} (hp : IsP p) (hi : ∀ j, j < 8 → gI σ 13 j = nI (p j)) : ∃ τ N' L', m_X8_finds F 0 σ = some τ ∧ FRL0 N' L' τ ∧ N ≤ N' ∧ (∀ k, k < N → L' k = L k) ∧ (∃ k, k < N' ∧ L' k = p) ∧ (∀ k, k < N' → N ≤ k → L' k = p) ∧ Fr KL0 σ τ := by
  obtain ⟨h1, h2, h3, h4⟩ := h
  have hn8 := num8 p
  have hN := inj_40320 (fun k hk => (h2 k hk).1) h3
  unfold m_X8_finds
  rw [numbered_eq0 F hF hp.2.1 hi, bd_some, ldI_at hn8 (by omega)]
  rcases h4 p hp with ⟨e, k, hk, ek⟩ | ⟨e, hno⟩
  · refine ⟨σ, N, L, ?_, ⟨h1, h2, h3, h4⟩, Nat.le_refl _, fun _ _ => rfl, ⟨k, hk, ek⟩, fun k h5 h6 => absurd h5 (by omega), Fr.rf⟩
    rw [e, if_neg (by decide +kernel)]
  · have hi' : ∀ i j, i < N + 1 → j < N + 1 → (fun k => if k = N then p else L k) i = (fun k => if k = N then p else L k) j → i = j := by
      intro i j hin hjn e
      have e : (if i = N then p else L i) = (if j = N then p else L j) := e
      by_cases a : i = N
      · by_cases b : j = N
        · omega
        · rw [if_pos a, if_neg b] at e
          exact absurd e.symm (hno j (by omega))
      · by_cases b : j = N
        · rw [if_neg a, if_pos b] at e
          exact absurd e (hno i (by omega))
        · rw [if_neg a, if_neg b] at e
          exact h3 i j (by omega) (by omega) e
    have hN' := inj_40320 (N := N + 1) (L := fun k => if k = N then p else L k) (fun k hk => by
      show IsP (if k = N then p else L k)
      split
      · exact hp
      · exact (h2 k (by omega)).1) hi'
    generalize hs1 : sI σ 12 (num p 8) 1 = s1
    have hi1 : ∀ j, j < 8 → gI s1 13 j = nI (p j) := by
      intro j hj
      subst hs1
      rw [gI_sI, if_neg (by omega), hi j hj]
    have h14 : gI s1 0 14 = nI N := by
      subst hs1
      rw [gI_sI, if_neg (by omega), h1]
    have hl := up_loop0 (fun n (i : Int32) (s : Int32) => m_X8_finds_25 F n 0 s i s1) 8 (fun i => nI (qk p i)) (some (sI (sI s1 11 N (nI (qk p 8))) 0 14 (nI (N + 1))))
      (fun n i hin => by
        show m_X8_finds_25 F (n + 1) 0 (nI (qk p i)) (nI i) s1 = m_X8_finds_25 F n 0 (nI (qk p (i + 1))) (nI (i + 1)) s1
        rw [m_X8_finds_25]; dsimp only
        rw [l8, if_neg (nI_ge hin (by omega)), ldI_at hin (by omega), hi1 i hin, l3, pk_mul, b_shl _ (by omega), b_or, nm_eq, nI_1, nm_eq, qk_or (fun j hj => hp.2.1 j (by omega))])
      (fun n => by
        show m_X8_finds_25 F (n + 1) 0 (nI (qk p 8)) (nI 8) s1 = _
        rw [m_X8_finds_25]; dsimp only
        rw [l8, if_pos (nI_le (by omega) (by omega)), h14, stI_at (by omega) (by omega), gI_sI, if_neg (by omega), h14, nI_1]; try rfl) hF
    refine ⟨sI (sI s1 11 N (nI (qk p 8))) 0 14 (nI (N + 1)), N + 1, fun k => if k = N then p else L k, ?_, ⟨gI_same _ _ _ _, ?_, hi', ?_⟩, by omega, fun k hk => if_neg (by omega), ⟨N, by omega, if_pos rfl⟩, fun k h5 h6 => if_pos (by omega), ?_⟩
    · rw [e, if_pos rfl, stI_at hn8 (by omega), hs1, l0]
      exact hl
    · intro k hk
      show IsP (if k = N then p else L k) ∧ gI _ 11 k = nI (qk (if k = N then p else L k) 8)
      have e0 : gI (sI (sI s1 11 N (nI (qk p 8))) 0 14 (nI (N + 1))) 11 k = if k = N then nI (qk p 8) else gI σ 11 k := by
        rw [gI_sI, if_neg (by omega), gI_sI]
        by_cases z : k = N
        · rw [if_pos z, if_pos ⟨rfl, z⟩]
        · rw [if_neg z, if_neg (fun w => z w.2)]
          subst hs1
          rw [gI_sI, if_neg (by omega)]
      rw [e0]
      by_cases z : k = N
      · rw [if_pos z, if_pos z]; exact ⟨hp, rfl⟩
      · rw [if_neg z, if_neg z]
        exact h2 k (by omega)
    · intro f hf
      rw [gI_sI, if_neg (by omega), gI_sI, if_neg (by omega)]
      subst hs1
      rw [gI_sI]
      by_cases z : f = p
      · left
        subst z
        exact ⟨if_pos ⟨rfl, rfl⟩, N, by omega, if_pos rfl⟩
      · rw [if_neg (fun w => z (num_inj hf hp w.2))]
        rcases h4 f hf with ⟨e1, k, hk, ek⟩ | ⟨e1, hk⟩
        · left
          refine ⟨e1, k, by omega, ?_⟩
          show (if k = N then p else L k) = f
          rw [if_neg (by omega)]; exact ek
        · right
          refine ⟨e1, fun k hkn => ?_⟩
          show (if k = N then p else L k) ≠ f
          by_cases y : k = N
          · rw [if_pos y]; exact fun w => z w.symm
          · rw [if_neg y]; exact hk k (by omega)
    · subst hs1
      exact ((Fr.sI (by unfold KL0; omega)).tr (Fr.sI (by unfold KL0; omega))).tr (Fr.sI (by unfold KL0; omega))
def RGe0 (c : Nat) (g : Nat → Nat → Nat) (σ : zST) : Prop := gI σ 0 11 = nI c ∧ ∀ i j, i < c → j < 8 → gI σ 10 (8 * i + j) = nI (g i j)
def KM0 (p j : Nat) : Prop := KL0 p j ∨ p = 13
theorem RGe0.mv {c : Nat} {g : Nat → Nat → Nat} {σ τ : zST} (h : RGe0 c g σ) (hf : Fr KM0 σ τ) : RGe0 c g τ := ⟨by
  rw [(hf 0 11 (by unfold KM0 KL0; omega)).1, h.1], fun i j hi hj => by
  rw [(hf 10 _ (by unfold KM0 KL0; omega)).1, h.2 i j hi hj]⟩
theorem KL0.km {p j : Nat} (h : KL0 p j) : KM0 p j := Or.inl h
theorem FRL0.mv {N : Nat} {L : Nat → Nat → Nat} {σ τ : zST} (h : FRL0 N L σ) (hf : Fr (fun p _ => p = 13) σ τ) : FRL0 N L τ := by
  obtain ⟨h1, h2, h3, h4⟩ := h
  refine ⟨by rw [(hf 0 14 (by omega)).1, h1], fun k hk => ⟨(h2 k hk).1, by rw [(hf 11 k (by omega)).1, (h2 k hk).2]⟩, h3, fun f hf' => ?_⟩
  rw [(hf 12 _ (by omega)).1]
  exact h4 f hf'
theorem closes_in0 (F : Nat) (hF : 8 < F) {c : Nat} (hc : c ≤ 6) {g : Nat → Nat → Nat} (hg : ∀ i, i < c → IsP (g i)) (k53 : Nat → Int32 → zST → Option zST) (k63 : Nat → Int32 → Int32 → zST → Option zST) {N at' it : Nat} {L : Nat → Nat → Nat} {σ : zST} (hL : FRL0 N L σ) (hR : RGe0 c g σ) (hat : at' < N) (hit : it < c) : ∃ τ N' L', m_X8_closes_73 F k53 k63 F 0 (nI at') (nI it) 0 σ = k63 0 (nI at') (nI (it + 1)) τ ∧ FRL0 N' L' τ ∧ N ≤ N' ∧ (∀ k, k < N → L' k = L k) ∧ Hd N' L' (fun j => g it (L at' j)) ∧ (∀ k, k < N' → N ≤ k → L' k = fun j => g it (L at' j)) ∧ Fr KM0 σ τ := by
  have hN := inj_40320 (fun k hk => (hL.2.1 k hk).1) hL.2.2.1
  have hP := (hL.2.1 at' hat).1
  have h := up_inv0 (fun n (i : Int32) (s : zST) => m_X8_closes_73 F k53 k63 n 0 (nI at') (nI it) i s) 8
    (fun i s => (∀ j, j < i → gI s 13 j = nI (g it (L at' j))) ∧ Fr (fun p _ => p = 13) σ s)
    (fun o => ∃ τ N' L', o = k63 0 (nI at') (nI (it + 1)) τ ∧ FRL0 N' L' τ ∧ N ≤ N' ∧ (∀ k, k < N → L' k = L k) ∧ Hd N' L' (fun j => g it (L at' j)) ∧ (∀ k, k < N' → N ≤ k → L' k = fun j => g it (L at' j)) ∧ Fr KM0 σ τ)
    ?_ ?_ hF (s := σ) ⟨fun j hj => absurd hj (by omega), Fr.rf⟩
  · rw [l0, nI_0] at *
    exact h
  · rintro n i s hi ⟨h1, h2⟩
    have hx := hP.2.1 i hi
    refine ⟨sI s 13 i (nI (g it (L at' i))), ⟨fun j hj => ?_, h2.tr (Fr.sI rfl)⟩, ?_⟩
    · rw [gI_sI]
      by_cases e : j = i
      · subst e; rw [if_pos ⟨rfl, rfl⟩]
      · rw [if_neg (fun z => e z.2), h1 j (by omega)]
    · show m_X8_closes_73 F k53 k63 (n + 1) 0 (nI at') (nI it) (nI i) s = _
      rw [m_X8_closes_73]; dsimp only
      rw [l8, if_neg (nI_ge hi (by omega)), ldI_at (show at' < 40320 by omega) (by omega), (h2 11 at' (by omega)).1, (hL.2.1 at' hat).2, qk_b hP.2.1 hi, pk_mul, nI_add, ldI_at (by omega) (by omega), (h2 10 _ (by omega)).1, hR.2 it _ hit hx, stI_at hi (by omega), nm_eq, nI_1]
  · rintro n s ⟨h1, h2⟩
    obtain ⟨τ, N', L', e1, a1, a2, a3, a4, a5, a6⟩ := finds_eq0 F hF (hL.mv h2) (hP.comp (hg it hit)) h1
    refine ⟨τ, N', L', ?_, a1, a2, a3, a4, a5, (h2.mono (fun _ _ z => Or.inr z)).tr (a6.mono (fun _ _ z => z.km))⟩
    show m_X8_closes_73 F k53 k63 (n + 1) 0 (nI at') (nI it) (nI 8) s = _
    rw [m_X8_closes_73]; dsimp only
    rw [l8, if_pos (nI_le (by omega) (by omega)), e1, bv_some, nm_eq, nI_1]
theorem closes_its0 (F : Nat) (hF : 8 < F) {c : Nat} (hc : c ≤ 6) {g : Nat → Nat → Nat} (hg : ∀ i, i < c → IsP (g i)) (k53 : Nat → Int32 → zST → Option zST) {at' : Nat} : ∀ (d it n : Nat) (N : Nat) (L : Nat → Nat → Nat) (σ : zST), it + d = c → d < n → FRL0 N L σ → RGe0 c g σ → GL c g N L → at' < N → (∀ i, i < it → Hd N L (fun j => g i (L at' j))) → ∃ τ N' L', m_X8_closes_63 F k53 n 0 (nI at') (nI it) σ = k53 0 (nI (at' + 1)) τ ∧ FRL0 N' L' τ ∧ GL c g N' L' ∧ N ≤ N' ∧ (∀ k, k < N → L' k = L k) ∧ (∀ i, i < c → Hd N' L' (fun j => g i (L' at' j))) ∧ Fr KM0 σ τ := by
  intro d
  induction d with
  | zero =>
    intro it n N L σ h1 h2 hL hR hG hat hi
    obtain ⟨n, rfl⟩ : ∃ k, n = k + 1 := ⟨n - 1, by omega⟩
    have : it = c := by omega
    subst this
    refine ⟨σ, N, L, ?_, hL, hG, Nat.le_refl _, fun _ _ => rfl, hi, Fr.rf⟩
    rw [m_X8_closes_63]; dsimp only
    rw [hR.1, if_pos (nI_le (by omega) (by omega)), nm_eq, nI_1]
  | succ d ih =>
    intro it n N L σ h1 h2 hL hR hG hat hi
    obtain ⟨n, rfl⟩ : ∃ k, n = k + 1 := ⟨n - 1, by omega⟩
    have hit : it < c := by omega
    obtain ⟨s, N1, L1, e1, a1, a2, a3, a4, a5, a6⟩ := closes_in0 F hF hc hg k53 (m_X8_closes_63 F k53 n) hL hR hat hit
    have hat1 : L1 at' = L at' := a3 at' hat
    have hG1 : GL c g N1 L1 := by
      refine ⟨⟨by omega, by rw [a3 0 hG.1.1]; exact hG.1.2⟩, fun k hk => ?_⟩
      by_cases z : k < N
      · rw [a3 k z]; exact hG.2 k z
      · rw [a5 k hk (by omega)]; exact (hG.2 at' hat).step hit
    obtain ⟨τ, N', L', e2, b1, b2, b3, b4, b5, b6⟩ := ih (it + 1) n N1 L1 s (by omega) (by omega) a1 (hR.mv a6) hG1 (by omega) (fun i hil => by
      rw [hat1]
      by_cases z : i = it
      · subst z; exact a4
      · exact (hi i (by omega)).mono a2 a3)
    refine ⟨τ, N', L', ?_, b1, b2, by omega, fun k hk => by rw [b4 k (by omega), a3 k hk], b5, a6.tr b6⟩
    rw [m_X8_closes_63]; dsimp only
    rw [hR.1, if_neg (nI_ge hit (by omega)), e1]
    exact e2
theorem closes_at0 (F : Nat) (hF : 40321 < F) {c : Nat} (hc : c ≤ 6) {g : Nat → Nat → Nat} (hg : ∀ i, i < c → IsP (g i)) : ∀ (d at' n : Nat) (N : Nat) (L : Nat → Nat → Nat) (σ : zST), at' + d = 40320 → d < n → FRL0 N L σ → RGe0 c g σ → GL c g N L → at' ≤ N → (∀ a i, a < at' → i < c → Hd N L (fun j => g i (L a j))) → ∃ τ N' L', m_X8_closes_53 F n 0 (nI at') σ = some τ ∧ FRL0 N' L' τ ∧ GL c g N' L' ∧ (∀ a i, a < N' → i < c → Hd N' L' (fun j => g i (L' a j))) ∧ Fr KM0 σ τ := by
  intro d
  induction d with
  | zero =>
    intro at' n N L σ h1 h2 hL hR hG hat hi
    obtain ⟨n, rfl⟩ : ∃ k, n = k + 1 := ⟨n - 1, by omega⟩
    have hN := inj_40320 (fun k hk => (hL.2.1 k hk).1) hL.2.2.1
    have : at' = N := by omega
    subst this
    refine ⟨σ, at', L, ?_, hL, hG, hi, Fr.rf⟩
    rw [m_X8_closes_53]; dsimp only
    rw [hL.1, if_pos (nI_le (by omega) (by omega))]
  | succ d ih =>
    intro at' n N L σ h1 h2 hL hR hG hat hi
    obtain ⟨n, rfl⟩ : ∃ k, n = k + 1 := ⟨n - 1, by omega⟩
    have hN := inj_40320 (fun k hk => (hL.2.1 k hk).1) hL.2.2.1
    by_cases z : at' = N
    · subst z
      refine ⟨σ, at', L, ?_, hL, hG, hi, Fr.rf⟩
      rw [m_X8_closes_53]; dsimp only
      rw [hL.1, if_pos (nI_le (by omega) (by omega))]
    · obtain ⟨s, N1, L1, e1, a1, a2, a3, a4, a5, a6⟩ := closes_its0 F (by omega) hc hg (m_X8_closes_53 F n) (at' := at') c 0 F N L σ (by omega) (by omega) hL hR hG (by omega) (fun i hi => absurd hi (by omega))
      obtain ⟨τ, N', L', e2, b1, b2, b3, b4⟩ := ih (at' + 1) n N1 L1 s (by omega) (by omega) a1 (hR.mv a6) a2 (by omega) (fun a i ha hic => by
        by_cases y : a = at'
        · subst y; exact a5 i hic
        · rw [a4 a (by omega)]
          exact (hi a i (by omega) hic).mono a3 a4)
      refine ⟨τ, N', L', ?_, b1, b2, b3, a6.tr b4⟩
      rw [m_X8_closes_53]; dsimp only
      rw [hL.1, if_neg (nI_ge (show at' < N by omega) (by omega)), l0, e1]
      exact e2
def RGL0 (c : Nat) (g : Nat → Nat → Nat) (σ : zST) : Prop := ∃ N L, FRL0 N L σ ∧ ∀ f, Gp c g f ↔ Hd N L f
theorem closes_eq0 (F : Nat) (hF : 40321 < F) {c : Nat} (hc : c ≤ 6) {g : Nat → Nat → Nat} (hg : ∀ i, i < c → IsP (g i)) {σ : zST} (hR : RGe0 c g σ) : ∃ τ, m_X8_closes F 0 σ = some τ ∧ RGL0 c g τ ∧ RGe0 c g τ ∧ Fr KM0 σ τ := by
  unfold m_X8_closes
  have h := up_loop0 (fun n (i : Int32) (s : zST) => m_X8_closes_2 F n 0 i s) 40320 (fun i => wI σ 12 i (fun _ => 0)) (m_X8_closes_28 F F 0 0 (sI (wI σ 12 40320 (fun _ => 0)) 0 14 0))
    (fun n i hi => by
      show m_X8_closes_2 F (n + 1) 0 (nI i) _ = m_X8_closes_2 F n 0 (nI (i + 1)) _
      rw [m_X8_closes_2]; dsimp only
      rw [show (40320 : Int32) = nI 40320 from rfl, if_neg (nI_ge hi (by omega)), stI_at hi (by omega), nm_eq, nI_1, ← wI_s])
    (fun n => by
      show m_X8_closes_2 F (n + 1) 0 (nI 40320) _ = _
      rw [m_X8_closes_2]; dsimp only
      rw [show (40320 : Int32) = nI 40320 from rfl, if_pos (nI_le (by omega) (by omega)), nm_eq]) (show 40320 < F by omega)
  rw [wI_0] at h
  rw [h]
  generalize hs1 : sI (wI σ 12 40320 (fun _ => 0)) 0 14 0 = s1
  have f1 : Fr KM0 σ s1 := by
    subst hs1
    exact (Fr.wI (fun j _ => by unfold KM0 KL0; omega)).tr (Fr.sI (by unfold KM0 KL0; omega))
  have h58 : ∀ j, j < 40320 → gI s1 12 j = 0 := by
    intro j hj
    subst hs1
    rw [gI_sI, if_neg (by omega), gI_wI, if_pos ⟨rfl, hj⟩]
  have h14 : gI s1 0 14 = nI 0 := by
    subst hs1
    rw [gI_same, nI_0]
  refine up_inv0 (fun n (i : Int32) (s : zST) => m_X8_closes_28 F n 0 i s) 8
    (fun i s => (∀ j, j < i → gI s 13 j = nI j) ∧ Fr (fun p _ => p = 13) s1 s)
    (fun o => ∃ τ, o = some τ ∧ RGL0 c g τ ∧ RGe0 c g τ ∧ Fr KM0 σ τ) ?_ ?_ (show 8 < F by omega) (s := s1) ⟨fun j hj => absurd hj (by omega), Fr.rf⟩
  · rintro n i s hi ⟨a1, a2⟩
    refine ⟨sI s 13 i (nI i), ⟨fun j hj => ?_, a2.tr (Fr.sI rfl)⟩, ?_⟩
    · rw [gI_sI]
      by_cases e : j = i
      · subst e; rw [if_pos ⟨rfl, rfl⟩]
      · rw [if_neg (fun z => e z.2), a1 j (by omega)]
    · show m_X8_closes_28 F (n + 1) 0 (nI i) s = _
      rw [m_X8_closes_28]; dsimp only
      rw [l8, if_neg (nI_ge hi (by omega)), stI_at hi (by omega), nm_eq, nI_1]
  · rintro n s ⟨a1, a2⟩
    have hL0 : FRL0 0 (fun _ j => j) s := ⟨by rw [(a2 0 14 (by omega)).1, h14], fun k hk => absurd hk (by omega), fun i j hi => absurd hi (by omega), fun f _ => Or.inr ⟨by rw [(a2 12 _ (by omega)).1, h58 _ (num8 f)], fun k hk => absurd hk (by omega)⟩⟩
    obtain ⟨s2, N, L, e1, b1, b2, b3, ⟨k0, hk0, ek0⟩, b5, b6⟩ := finds_eq0 F (by omega) hL0 IsP.id a1
    have f2 : Fr KM0 σ s2 := (f1.tr (a2.mono (fun _ _ z => Or.inr z))).tr (b6.mono (fun _ _ z => z.km))
    have hG : GL c g N L := ⟨⟨by omega, b5 0 (by omega) (by omega)⟩, fun k hk => by
      rw [b5 k hk (by omega)]; exact Gp.id c g⟩
    obtain ⟨τ, N', L', e2, d1, d2, d3, d4⟩ := closes_at0 F hF hc hg 40320 0 F N L s2 (by omega) (by omega) b1 (hR.mv f2) hG (by omega) (fun a i ha => absurd ha (by omega))
    refine ⟨τ, ?_, ⟨N', L', d1, fun f => ⟨fun hf => ?_, fun ⟨k, hk, e⟩ => by rw [← e]; exact d2.2 k hk⟩⟩, hR.mv (f2.tr d4), f2.tr d4⟩
    · show m_X8_closes_28 F (n + 1) 0 (nI 8) s = _
      rw [m_X8_closes_28]; dsimp only
      rw [l8, if_pos (nI_le (by omega) (by omega)), e1, bv_some]
      rw [nI_0] at e2
      exact e2
    · refine Gp.least (S := Hd N' L') ⟨0, d2.1.1, d2.1.2⟩ (fun i hi f hf => ?_) hf
      obtain ⟨k, hk, rfl⟩ := hf
      exact d3 k i hk hi
/-- the law's store at the start -/
theorem s1_I (g m : zST) (p j : Nat) : gI (s1 g m) p j = if p = 2 ∨ p = 5 ∨ p = 8 ∨ p = 11 ∨ p = 14 then (if j = 0 then 4 else 0) else if 36 ≤ p ∧ p < 46 then gI g (p - 36) j else if 46 ≤ p ∧ p < 60 then gI m (p - 46) j else 0 := by
  unfold gI s1
  dsimp only
  split
  · rfl
  · split
    · rfl
    · split <;> rfl
theorem s1_L (g m : zST) (p j : Nat) : gL (s1 g m) p j = if 36 ≤ p ∧ p < 46 then gL g (p - 36) j else if 46 ≤ p ∧ p < 60 then gL m (p - 46) j else 0 := by
  unfold gL s1
  dsimp only
  split
  · rfl
  · split <;> rfl
theorem s1_g (g m : zST) {p : Nat} (hp : p < 10) (j : Nat) : gI (s1 g m) (36 + p) j = gI g p j ∧ gL (s1 g m) (36 + p) j = gL g p j := by
  rw [s1_I, s1_L, if_neg (by omega), if_pos (by omega), if_pos (by omega), Nat.add_sub_cancel_left]
  exact ⟨rfl, rfl⟩
theorem s1_m (g m : zST) {p : Nat} (hp : p < 14) (j : Nat) : gI (s1 g m) (46 + p) j = gI m p j := by
  rw [s1_I, if_neg (by omega), if_neg (by omega), if_pos (by omega), Nat.add_sub_cancel_left]
theorem ck_s1 {g m : zST} {b : Nat → Nat} {E : Nat → Nat → Option (Nat → Nat)} {c : Nat} {kt : Nat → Nat → Nat} (h : CK 2 b E c kt g) : CK 38 b E c kt (s1 g m) := by
  obtain ⟨⟨a, a'⟩, c1, d, e, f, g1, i, j⟩ := h
  refine ⟨⟨fun k hk => ?_, fun k y hk hy => ?_⟩, c1, ?_, ?_, f, fun k hk => ⟨?_, (g1 k hk).2⟩, i, j⟩
  · exact ((s1_g g m (p := 3) (by omega) k).1).trans (a k hk)
  · exact ((s1_g g m (p := 5) (by omega) _).2).trans (a' k y hk hy)
  · exact ((s1_g g m (p := 2) (by omega) 0).1).trans d
  · exact ((s1_g g m (p := 2) (by omega) 1).1).trans e
  · exact ((s1_g g m (p := 4) (by omega) k).2).trans (g1 k hk).1
theorem Gr_zero : Gr 4 (fun _ => 0) (fun _ => 0) := ⟨⟨by omega, by omega⟩, fun v hv => ⟨by show 0 < 8; omega, by show 0 < 2 ^ 4; omega, fun _ => rfl, Nat.zero_testBit v, fun u _ => by
  show (0 : Nat).testBit v = (0 : Nat).testBit u
  rw [Nat.zero_testBit, Nat.zero_testBit]⟩⟩
theorem law_ok : ∀ (L : Nat) (xs : Nat → Int32), L ≤ 2048 → ∃ (F : Nat) (τg τm τ : zST), m_X3_clear F 0 s0_Group = some τg ∧ m_X8_closes F 0 s0_CanonCoteModel = some τm ∧ m_L_law_23 F L xs 600 0 46 60 0 (s1 τg τm) = some (1, τ) := by
  intro L xs hL
  obtain ⟨F, hF⟩ : ∃ F, F = 33554432 := ⟨_, rfl⟩
  obtain ⟨τg, e1, a1, a2, a3, _⟩ := gclear_eq F (by omega) 0 s0_Group
  have hR0 : RGe0 0 (fun _ j => j) s0_CanonCoteModel := ⟨rfl, fun i j hi => absurd hi (by omega)⟩
  obtain ⟨τm, e2, ⟨N, L0, b1, b2⟩, b3, b4⟩ := closes_eq0 F (by omega) (c := 0) (g := fun _ j => j) (by omega) (fun i hi => absurd hi (by omega)) hR0
  have hm : ∀ p j, p < 14 → ¬ KM0 p j → gI (s1 τg τm) (46 + p) j = gI s0_CanonCoteModel p j := fun p j hp hn => by
    rw [s1_m τg τm hp j, (b4 p j hn).1]
  have hG : GI (s1 τg τm) := by
    intro k hk
    have h0 : ∀ x, x = 2 + 3 * k → gI (s1 τg τm) x 0 = nI 4 := fun x hx => by
      rw [s1_I, if_pos (by omega), if_pos rfl]; rfl
    have h1 : ∀ x v, x = 2 + 3 * k + 1 ∨ x = 2 + 3 * k + 2 → gI (s1 τg τm) x v = nI 0 := fun x v hx => by
      rw [s1_I, if_neg (by omega), if_neg (by omega), if_neg (by omega), nI_0]
    have hz : ∀ p v, p < 14 → p ≠ 1 → ¬ KM0 p v → gI (s1 τg τm) (46 + p) v = nI 0 := fun p v hp hne hn => by
      rw [hm p v hp hn]
      unfold gI s0_CanonCoteModel
      dsimp only
      rw [if_neg hne, nI_0]
    refine ⟨4, fun _ => 0, fun _ => 0, Gr_zero, ⟨h0 _ rfl, fun v hv => ⟨h1 _ v (Or.inl rfl), h1 _ v (Or.inr rfl)⟩⟩, ⟨?_, fun v hv => ⟨hz 2 _ (by omega) (by omega) (by unfold KM0 KL0; omega), hz 3 _ (by omega) (by omega) (by unfold KM0 KL0; omega)⟩⟩⟩
    have := hm 1 k (by omega) (by unfold KM0 KL0; omega)
    rw [show 47 = 46 + 1 from rfl, this]
    rcases (show k = 0 ∨ k = 1 ∨ k = 2 ∨ k = 3 by omega) with rfl | rfl | rfl | rfl <;> rfl
  have hQ : GQ (s1 τg τm) := by
    refine ⟨0, fun _ j => j, by omega, fun i hi => absurd hi (by omega), ⟨((s1_g τg τm (p := 0) (by omega) 0).1).trans a1, fun i hi => absurd hi (by omega)⟩, ⟨iv (pos 0), E0 (iv (pos 0)), 0, fun _ j => j, CR0 (ck_s1 a2) (((s1_g τg τm (p := 2) (by omega) 2).1).trans a3), fun i hi => absurd hi (by omega), E0_Gp⟩, ⟨(s1_m τg τm (p := 0) (by omega) 11).trans b3.1, fun i j hi => absurd hi (by omega)⟩, N, L0, ⟨(s1_m τg τm (p := 0) (by omega) 14).trans b1.1, fun k hk => ⟨(b1.2.1 k hk).1, (s1_m τg τm (p := 11) (by omega) k).trans (b1.2.1 k hk).2⟩, b1.2.2.1, fun f hf => ?_⟩, b2⟩
    have e := s1_m τg τm (p := 12) (by omega) (num f 8)
    have e : gI (s1 τg τm) 58 (num f 8) = gI τm 12 (num f 8) := e
    rw [e]
    exact b1.2.2.2 f hf
  obtain ⟨τ, e3⟩ := law_loop (F := F) (L := L) (by omega) hL xs 513 0 600 (s1 τg τm) (by omega) (by omega) ⟨hG, hQ⟩
  refine ⟨F, τg, τm, τ, e1, e2, ?_⟩
  rw [Nat.mul_zero, nI_0] at e3
  exact e3
end
