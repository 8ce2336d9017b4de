/-! MATHEMATICS, 36: the list of a group (reference): closes -/
section
/-- c generators g in the reference -/
def RGe (c : Nat) (g : Nat → Nat → Nat) (σ : zST) : Prop := gI σ 46 11 = nI c ∧ ∀ i j, i < c → j < 8 → gI σ 56 (8 * i + j) = nI (g i j)
def KM (p j : Nat) : Prop := KL p j ∨ p = 59
theorem RGe.mv {c : Nat} {g : Nat → Nat → Nat} {σ τ : zST} (h : RGe c g σ) (hf : Fr KM σ τ) : RGe c g τ := ⟨by
  rw [(hf 46 11 (by unfold KM KL; omega)).1, h.1], fun i j hi hj => by
  rw [(hf 56 _ (by unfold KM KL; omega)).1, h.2 i j hi hj]⟩
theorem KL.km {p j : Nat} (h : KL p j) : KM p j := Or.inl h
theorem FRL.mv {N : Nat} {L : Nat → Nat → Nat} {σ τ : zST} (h : FRL N L σ) (hf : Fr (fun p _ => p = 59) σ τ) : FRL N L τ := by
  obtain ⟨h1, h2, h3, h4⟩ := h
  refine ⟨by rw [(hf 46 14 (by omega)).1, h1], fun k hk => ⟨(h2 k hk).1, by rw [(hf 57 k (by omega)).1, (h2 k hk).2]⟩, h3, fun f hf' => ?_⟩
  rw [(hf 58 _ (by omega)).1]
  exact h4 f hf'
/-- the list grows; what it holds is of the group -/
def GL (c : Nat) (g : Nat → Nat → Nat) (N : Nat) (L : Nat → Nat → Nat) : Prop := (0 < N ∧ L 0 = fun j => j) ∧ ∀ k, k < N → Gp c g (L k)
def Hd (N : Nat) (L : Nat → Nat → Nat) (f : Nat → Nat) : Prop := ∃ k, k < N ∧ L k = f
theorem Hd.mono {N N' : Nat} {L L' : Nat → Nat → Nat} {f : Nat → Nat} (hN : N ≤ N') (hL : ∀ k, k < N → L' k = L k) (h : Hd N L f) : Hd N' L' f := by
  obtain ⟨k, hk, e⟩ := h
  exact ⟨k, by omega, by rw [hL k hk, e]⟩
theorem closes_in (F : Nat) (hF : 8 < F) {c : Nat} (hc : c ≤ 6) {g : Nat → Nat → Nat} (hg : ∀ i, i < c → IsP (g i)) (k53 : Nat → Int32 → zST → Option zST) (k63 : Nat → Int32 → Int32 → zST → Option zST) {N at' it : Nat} {L : Nat → Nat → Nat} {σ : zST} (hL : FRL N L σ) (hR : RGe c g σ) (hat : at' < N) (hit : it < c) : ∃ τ N' L', m_X8_closes_73 F k53 k63 F 46 (nI at') (nI it) 0 σ = k63 46 (nI at') (nI (it + 1)) τ ∧ FRL N' L' τ ∧ N ≤ N' ∧ (∀ k, k < N → L' k = L k) ∧ Hd N' L' (fun j => g it (L at' j)) ∧ (∀ k, k < N' → N ≤ k → L' k = fun j => g it (L at' j)) ∧ Fr KM σ τ := by
  have hN := inj_40320 (fun k hk => (hL.2.1 k hk).1) hL.2.2.1
  have hP := (hL.2.1 at' hat).1
  have h := up_inv0 (fun n (i : Int32) (s : zST) => m_X8_closes_73 F k53 k63 n 46 (nI at') (nI it) i s) 8
    (fun i s => (∀ j, j < i → gI s 59 j = nI (g it (L at' j))) ∧ Fr (fun p _ => p = 59) σ s)
    (fun o => ∃ τ N' L', o = k63 46 (nI at') (nI (it + 1)) τ ∧ FRL N' L' τ ∧ N ≤ N' ∧ (∀ k, k < N → L' k = L k) ∧ Hd N' L' (fun j => g it (L at' j)) ∧ (∀ k, k < N' → N ≤ k → L' k = fun j => g it (L at' j)) ∧ Fr KM σ τ)
    ?_ ?_ hF (s := σ) ⟨fun j hj => absurd hj (by omega), Fr.rf⟩
  · rw [l0, nI_0] at *
    exact h
  · rintro n i s hi ⟨h1, h2⟩
    have hx := hP.2.1 i hi
    refine ⟨sI s 59 i (nI (g it (L at' i))), ⟨fun j hj => ?_, h2.tr (Fr.sI rfl)⟩, ?_⟩
    · rw [gI_sI]
      by_cases e : j = i
      · subst e; rw [if_pos ⟨rfl, rfl⟩]
      · rw [if_neg (fun z => e z.2), h1 j (by omega)]
    · show m_X8_closes_73 F k53 k63 (n + 1) 46 (nI at') (nI it) (nI i) s = _
      rw [m_X8_closes_73]; dsimp only
      rw [l8, if_neg (nI_ge hi (by omega)), ldI_at (show at' < 40320 by omega) (by omega), (h2 57 at' (by omega)).1, (hL.2.1 at' hat).2, qk_b hP.2.1 hi, pk_mul, nI_add, ldI_at (by omega) (by omega), (h2 56 _ (by omega)).1, hR.2 it _ hit hx, stI_at hi (by omega), nm_eq, nI_1]
  · rintro n s ⟨h1, h2⟩
    obtain ⟨τ, N', L', e1, a1, a2, a3, a4, a5, a6⟩ := finds_eq F hF (hL.mv h2) (hP.comp (hg it hit)) h1
    refine ⟨τ, N', L', ?_, a1, a2, a3, a4, a5, (h2.mono (fun _ _ z => Or.inr z)).tr (a6.mono (fun _ _ z => z.km))⟩
    show m_X8_closes_73 F k53 k63 (n + 1) 46 (nI at') (nI it) (nI 8) s = _
    rw [m_X8_closes_73]; dsimp only
    rw [l8, if_pos (nI_le (by omega) (by omega)), e1, bv_some, nm_eq, nI_1]
theorem closes_its (F : Nat) (hF : 8 < F) {c : Nat} (hc : c ≤ 6) {g : Nat → Nat → Nat} (hg : ∀ i, i < c → IsP (g i)) (k53 : Nat → Int32 → zST → Option zST) {at' : Nat} : ∀ (d it n : Nat) (N : Nat) (L : Nat → Nat → Nat) (σ : zST), it + d = c → d < n → FRL N L σ → RGe c g σ → GL c g N L → at' < N → (∀ i, i < it → Hd N L (fun j => g i (L at' j))) → ∃ τ N' L', m_X8_closes_63 F k53 n 46 (nI at') (nI it) σ = k53 46 (nI (at' + 1)) τ ∧ FRL N' L' τ ∧ GL c g N' L' ∧ N ≤ N' ∧ (∀ k, k < N → L' k = L k) ∧ (∀ i, i < c → Hd N' L' (fun j => g i (L' at' j))) ∧ Fr KM σ τ := by
  intro d
  induction d with
  | zero =>
    intro it n N L σ h1 h2 hL hR hG hat hi
    obtain ⟨n, rfl⟩ : ∃ k, n = k + 1 := ⟨n - 1, by omega⟩
    have : it = c := by omega
    subst this
    refine ⟨σ, N, L, ?_, hL, hG, Nat.le_refl _, fun _ _ => rfl, hi, Fr.rf⟩
    rw [m_X8_closes_63]; dsimp only
    rw [hR.1, if_pos (nI_le (by omega) (by omega)), nm_eq, nI_1]
  | succ d ih =>
    intro it n N L σ h1 h2 hL hR hG hat hi
    obtain ⟨n, rfl⟩ : ∃ k, n = k + 1 := ⟨n - 1, by omega⟩
    have hit : it < c := by omega
    obtain ⟨s, N1, L1, e1, a1, a2, a3, a4, a5, a6⟩ := closes_in F hF hc hg k53 (m_X8_closes_63 F k53 n) hL hR hat hit
    have hat1 : L1 at' = L at' := a3 at' hat
    have hG1 : GL c g N1 L1 := by
      refine ⟨⟨by omega, by rw [a3 0 hG.1.1]; exact hG.1.2⟩, fun k hk => ?_⟩
      by_cases z : k < N
      · rw [a3 k z]; exact hG.2 k z
      · rw [a5 k hk (by omega)]; exact (hG.2 at' hat).step hit
    obtain ⟨τ, N', L', e2, b1, b2, b3, b4, b5, b6⟩ := ih (it + 1) n N1 L1 s (by omega) (by omega) a1 (hR.mv a6) hG1 (by omega) (fun i hil => by
      rw [hat1]
      by_cases z : i = it
      · subst z; exact a4
      · exact (hi i (by omega)).mono a2 a3)
    refine ⟨τ, N', L', ?_, b1, b2, by omega, fun k hk => by rw [b4 k (by omega), a3 k hk], b5, a6.tr b6⟩
    rw [m_X8_closes_63]; dsimp only
    rw [hR.1, if_neg (nI_ge hit (by omega)), e1]
    exact e2
theorem closes_at (F : Nat) (hF : 40321 < F) {c : Nat} (hc : c ≤ 6) {g : Nat → Nat → Nat} (hg : ∀ i, i < c → IsP (g i)) : ∀ (d at' n : Nat) (N : Nat) (L : Nat → Nat → Nat) (σ : zST), at' + d = 40320 → d < n → FRL N L σ → RGe c g σ → GL c g N L → at' ≤ N → (∀ a i, a < at' → i < c → Hd N L (fun j => g i (L a j))) → ∃ τ N' L', m_X8_closes_53 F n 46 (nI at') σ = some τ ∧ FRL N' L' τ ∧ GL c g N' L' ∧ (∀ a i, a < N' → i < c → Hd N' L' (fun j => g i (L' a j))) ∧ Fr KM σ τ := by
  intro d
  induction d with
  | zero =>
    intro at' n N L σ h1 h2 hL hR hG hat hi
    obtain ⟨n, rfl⟩ : ∃ k, n = k + 1 := ⟨n - 1, by omega⟩
    have hN := inj_40320 (fun k hk => (hL.2.1 k hk).1) hL.2.2.1
    have : at' = N := by omega
    subst this
    refine ⟨σ, at', L, ?_, hL, hG, hi, Fr.rf⟩
    rw [m_X8_closes_53]; dsimp only
    rw [hL.1, if_pos (nI_le (by omega) (by omega))]
  | succ d ih =>
    intro at' n N L σ h1 h2 hL hR hG hat hi
    obtain ⟨n, rfl⟩ : ∃ k, n = k + 1 := ⟨n - 1, by omega⟩
    have hN := inj_40320 (fun k hk => (hL.2.1 k hk).1) hL.2.2.1
    by_cases z : at' = N
    · subst z
      refine ⟨σ, at', L, ?_, hL, hG, hi, Fr.rf⟩
      rw [m_X8_closes_53]; dsimp only
      rw [hL.1, if_pos (nI_le (by omega) (by omega))]
    · obtain ⟨s, N1, L1, e1, a1, a2, a3, a4, a5, a6⟩ := closes_its F (by omega) hc hg (m_X8_closes_53 F n) (at' := at') c 0 F N L σ (by omega) (by omega) hL hR hG (by omega) (fun i hi => absurd hi (by omega))
      obtain ⟨τ, N', L', e2, b1, b2, b3, b4⟩ := ih (at' + 1) n N1 L1 s (by omega) (by omega) a1 (hR.mv a6) a2 (by omega) (fun a i ha hic => by
        by_cases y : a = at'
        · subst y; exact a5 i hic
        · rw [a4 a (by omega)]
          exact (hi a i (by omega) hic).mono a3 a4)
      refine ⟨τ, N', L', ?_, b1, b2, b3, a6.tr b4⟩
      rw [m_X8_closes_53]; dsimp only
      rw [hL.1, if_neg (nI_ge (show at' < N by omega) (by omega)), l0, e1]
      exact e2
/-- the list is the group -/
def RGL (c : Nat) (g : Nat → Nat → Nat) (σ : zST) : Prop := ∃ N L, FRL N L σ ∧ ∀ f, Gp c g f ↔ Hd N L f
theorem closes_eq (F : Nat) (hF : 40321 < F) {c : Nat} (hc : c ≤ 6) {g : Nat → Nat → Nat} (hg : ∀ i, i < c → IsP (g i)) {σ : zST} (hR : RGe c g σ) : ∃ τ, m_X8_closes F 46 σ = some τ ∧ RGL c g τ ∧ RGe c g τ ∧ Fr KM σ τ := by
  unfold m_X8_closes
  have h := up_loop0 (fun n (i : Int32) (s : zST) => m_X8_closes_2 F n 46 i s) 40320 (fun i => wI σ 58 i (fun _ => 0)) (m_X8_closes_28 F F 46 0 (sI (wI σ 58 40320 (fun _ => 0)) 46 14 0))
    (fun n i hi => by
      show m_X8_closes_2 F (n + 1) 46 (nI i) _ = m_X8_closes_2 F n 46 (nI (i + 1)) _
      rw [m_X8_closes_2]; dsimp only
      rw [show (40320 : Int32) = nI 40320 from rfl, if_neg (nI_ge hi (by omega)), stI_at hi (by omega), nm_eq, nI_1, ← wI_s])
    (fun n => by
      show m_X8_closes_2 F (n + 1) 46 (nI 40320) _ = _
      rw [m_X8_closes_2]; dsimp only
      rw [show (40320 : Int32) = nI 40320 from rfl, if_pos (nI_le (by omega) (by omega)), nm_eq]) (show 40320 < F by omega)
  rw [wI_0] at h
  rw [h]
  generalize hs1 : sI (wI σ 58 40320 (fun _ => 0)) 46 14 0 = s1
  have f1 : Fr KM σ s1 := by
    subst hs1
    exact (Fr.wI (fun j _ => by unfold KM KL; omega)).tr (Fr.sI (by unfold KM KL; omega))
  have h58 : ∀ j, j < 40320 → gI s1 58 j = 0 := by
    intro j hj
    subst hs1
    rw [gI_sI, if_neg (by omega), gI_wI, if_pos ⟨rfl, hj⟩]
  have h14 : gI s1 46 14 = nI 0 := by
    subst hs1
    rw [gI_same, nI_0]
  refine up_inv0 (fun n (i : Int32) (s : zST) => m_X8_closes_28 F n 46 i s) 8
    (fun i s => (∀ j, j < i → gI s 59 j = nI j) ∧ Fr (fun p _ => p = 59) s1 s)
    (fun o => ∃ τ, o = some τ ∧ RGL c g τ ∧ RGe c g τ ∧ Fr KM σ τ) ?_ ?_ (show 8 < F by omega) (s := s1) ⟨fun j hj => absurd hj (by omega), Fr.rf⟩
  · rintro n i s hi ⟨a1, a2⟩
    refine ⟨sI s 59 i (nI i), ⟨fun j hj => ?_, a2.tr (Fr.sI rfl)⟩, ?_⟩
    · rw [gI_sI]
      by_cases e : j = i
      · subst e; rw [if_pos ⟨rfl, rfl⟩]
      · rw [if_neg (fun z => e z.2), a1 j (by omega)]
    · show m_X8_closes_28 F (n + 1) 46 (nI i) s = _
      rw [m_X8_closes_28]; dsimp only
      rw [l8, if_neg (nI_ge hi (by omega)), stI_at hi (by omega), nm_eq, nI_1]
  · rintro n s ⟨a1, a2⟩
    have hL0 : FRL 0 (fun _ j => j) s := ⟨by rw [(a2 46 14 (by omega)).1, h14], fun k hk => absurd hk (by omega), fun i j hi => absurd hi (by omega), fun f _ => Or.inr ⟨by rw [(a2 58 _ (by omega)).1, h58 _ (num8 f)], fun k hk => absurd hk (by omega)⟩⟩
    obtain ⟨s2, N, L, e1, b1, b2, b3, ⟨k0, hk0, ek0⟩, b5, b6⟩ := finds_eq F (by omega) hL0 IsP.id a1
    have f2 : Fr KM σ s2 := (f1.tr (a2.mono (fun _ _ z => Or.inr z))).tr (b6.mono (fun _ _ z => z.km))
    have hG : GL c g N L := ⟨⟨by omega, b5 0 (by omega) (by omega)⟩, fun k hk => by
      rw [b5 k hk (by omega)]; exact Gp.id c g⟩
    obtain ⟨τ, N', L', e2, d1, d2, d3, d4⟩ := closes_at F hF hc hg 40320 0 F N L s2 (by omega) (by omega) b1 (hR.mv f2) hG (by omega) (fun a i ha => absurd ha (by omega))
    refine ⟨τ, ?_, ⟨N', L', d1, fun f => ⟨fun hf => ?_, fun ⟨k, hk, e⟩ => by rw [← e]; exact d2.2 k hk⟩⟩, hR.mv (f2.tr d4), f2.tr d4⟩
    · show m_X8_closes_28 F (n + 1) 46 (nI 8) s = _
      rw [m_X8_closes_28]; dsimp only
      rw [l8, if_pos (nI_le (by omega) (by omega)), e1, bv_some]
      rw [nI_0] at e2
      exact e2
    · refine Gp.least (S := Hd N' L') ⟨0, d2.1.1, d2.1.2⟩ (fun i hi f hf => ?_) hf
      obtain ⟨k, hk, rfl⟩ := hf
      exact d3 k i hk hi
end
