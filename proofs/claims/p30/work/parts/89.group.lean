/-! MATHEMATICS, 37: the chain holds the group; how many there are -/
section
theorem list_back {α : Type} {l1 l2 : List α} (h1 : l1.Nodup) (hs : ∀ f, f ∈ l1 → f ∈ l2) (hl : l2.length ≤ l1.length) : ∀ f, f ∈ l2 → f ∈ l1 := by
  intro f hf
  apply Classical.byContradiction
  intro z
  have h : (f :: l1).Nodup := List.nodup_cons.mpr ⟨z, h1⟩
  have := h.length_le_of_subset (l₂ := l2) (fun x hx => by
    rcases List.mem_cons.mp hx with rfl | h
    · exact hf
    · exact hs x h)
  rw [List.length_cons] at this
  omega
theorem list_len {α : Type} {l1 l2 : List α} (h1 : l1.Nodup) (h2 : l2.Nodup) (h : ∀ f, f ∈ l1 ↔ f ∈ l2) : l1.length = l2.length := ((List.perm_ext_iff_of_nodup h1 h2).mpr h).length_eq
def LL (N : Nat) (L : Nat → Nat → Nat) : List (Nat → Nat) := (List.range N).map L
theorem LL_mem {N : Nat} {L : Nat → Nat → Nat} {f : Nat → Nat} : f ∈ LL N L ↔ Hd N L f := by
  unfold LL Hd
  rw [List.mem_map]
  constructor
  · rintro ⟨k, hk, e⟩; exact ⟨k, List.mem_range.mp hk, e⟩
  · rintro ⟨k, hk, e⟩; exact ⟨k, List.mem_range.mpr hk, e⟩
theorem LL_nodup {N : Nat} {L : Nat → Nat → Nat} (hi : ∀ i j, i < N → j < N → L i = L j → i = j) : (LL N L).Nodup :=
  nodup_map_on List.nodup_range (fun x y hx hy e => hi x y (List.mem_range.mp hx) (List.mem_range.mp hy) e)
theorem LL_len (N : Nat) (L : Nat → Nat → Nat) : (LL N L).length = N := by
  unfold LL; rw [List.length_map, List.length_range]
theorem LSt_Gp {b : Nat → Nat} {E : Nat → Nat → Option (Nat → Nat)} (hV : VE b E) {c : Nat} {g : Nat → Nat → Nat} (hE : ∀ i x u, E i x = some u → Gp c g u) : ∀ d, d ≤ 8 → ∀ f, f ∈ LSt E d → Gp c g f
  | 0, _, f, h => by
    rw [LSt, List.mem_singleton] at h
    rw [h]; exact Gp.id c g
  | d + 1, hd, f, h => by
    rw [LSt, LSr_mem] at h
    obtain ⟨x, u, k, hx, e, hk, rfl⟩ := h
    exact (Gp.iv (hV.2.2 _ x u (by omega) hx e).1 (hE _ x u e)).mul (LSt_Gp hV hE d (by omega) k hk)
theorem chain_group {q most : Nat} {b : Nat → Nat} {E : Nat → Nat → Option (Nat → Nat)} {m : Nat} {kt : Nat → Nat → Nat} {σ : zST} (h : CR q most b E m kt σ) {c : Nat} {g : Nat → Nat → Nat} (hgen : ∀ i, i < c → SS8 b E 8 (g i)) (hE : ∀ i x u, E i x = some u → Gp c g u) {N : Nat} {L : Nat → Nat → Nat} (hL : ∀ f, Gp c g f ↔ Hd N L f) (hmost : N ≤ most) : ∀ f, SS8 b E 8 f ↔ Gp c g f := by
  have hV := h.1.2.1
  intro f
  constructor
  · intro hf
    exact LSt_Gp hV hE 8 (Nat.le_refl _) f ((LSt_mem hV 8 (Nat.le_refl _) f).mpr hf)
  · intro hf
    rcases h.2.2 with hp | hp
    · have hP := h.pairs hp
      exact Gp.least (S := SS8 b E 8) (SS8_id hV 8 (Nat.le_refl _)) (fun i hi f hf => SS8_mul hV hP (hgen i hi) hf) hf
    · have hn := LSt_nodup hV 8 (Nat.le_refl _)
      have := list_back hn (l2 := LL N L) (fun f hf => LL_mem.mpr ((hL f).mp (LSt_Gp hV hE 8 (Nat.le_refl _) f hf))) (by rw [LL_len, LSt_len]; omega) f (LL_mem.mpr ((hL f).mp hf))
      exact (LSt_mem hV 8 (Nat.le_refl _) f).mp this
theorem chain_fix {b : Nat → Nat} {E : Nat → Nat → Option (Nat → Nat)} (hV : VE b E) {c : Nat} {g : Nat → Nat → Nat} (hS : ∀ f, SS8 b E 8 f ↔ Gp c g f) {N : Nat} {L : Nat → Nat → Nat} (hi : ∀ i j, i < N → j < N → L i = L j → i = j) (hL : ∀ f, Gp c g f ↔ Hd N L f) {k : Nat} (hk : k ≤ 8) (Q : (Nat → Nat) → Bool) (hQ : ∀ f, Gp c g f → (Q f = true ↔ ∀ j, j < k → f (b j) = b j)) : prodFrom E (8 - k) = cnt (fun n => Q (L n)) N := by
  have h1 : (LSt E (8 - k)).length = ((LL N L).filter Q).length := list_len (LSt_nodup hV _ (by omega)) ((LL_nodup hi).sublist List.filter_sublist) (fun f => by
    rw [LSt_mem hV _ (by omega), List.mem_filter, LL_mem, ← hL]
    constructor
    · intro h
      have hg := (hS f).mp (SS8_top hV k (8 - k) (by omega) h)
      exact ⟨hg, (hQ f hg).mpr (fun j hj => h.2.1 j (by omega))⟩
    · rintro ⟨hg, hq⟩
      have := (hQ f hg).mp hq
      exact SS8_from hV ((hS f).mpr hg) (8 - k) (by omega) (fun j hj => this j (by omega)))
  rw [LSt_len, ← List.countP_eq_length_filter] at h1
  rw [h1]
  unfold LL cnt
  rw [List.countP_map]
  rfl
theorem cnt_all {P : Nat → Bool} : ∀ {n : Nat}, (∀ i, i < n → P i = true) → cnt P n = n
  | 0, _ => rfl
  | n + 1, h => by rw [cnt_s, cnt_all (fun i hi => h i (by omega)), h n (by omega)]; rfl
theorem chain_count {b : Nat → Nat} {E : Nat → Nat → Option (Nat → Nat)} (hV : VE b E) {c : Nat} {g : Nat → Nat → Nat} (hS : ∀ f, SS8 b E 8 f ↔ Gp c g f) {N : Nat} {L : Nat → Nat → Nat} (hi : ∀ i j, i < N → j < N → L i = L j → i = j) (hL : ∀ f, Gp c g f ↔ Hd N L f) : prodFrom E 8 = N := by
  have h := chain_fix hV hS hi hL (k := 0) (by omega) (fun _ => true) (fun f _ => ⟨fun _ j hj => absurd hj (by omega), fun _ => rfl⟩)
  rw [cnt_all (fun _ _ => rfl)] at h
  exact h
/-- the generators of the class; its chain -/
def CGe (c : Nat) (g : Nat → Nat → Nat) (σ : zST) : Prop := gI σ 36 0 = nI c ∧ ∀ i, i < c → gL σ 37 i = lN (en (g i))
def CGr (c : Nat) (g : Nat → Nat → Nat) (σ : zST) : Prop := ∃ b E m kt, CR 38 40320 b E m kt σ ∧ (∀ i, i < c → SS8 b E 8 (g i)) ∧ ∀ i x u, E i x = some u → Gp c g u
/-- the groups of both sides -/
def GQ (σ : zST) : Prop := ∃ c g, c ≤ 6 ∧ (∀ i, i < c → IsP (g i)) ∧ CGe c g σ ∧ CGr c g σ ∧ RGe c g σ ∧ RGL c g σ
theorem CR.mv {q most : Nat} {b : Nat → Nat} {E : Nat → Nat → Option (Nat → Nat)} {m : Nat} {kt : Nat → Nat → Nat} {σ τ : zST} (h : CR q most b E m kt σ) {S : Nat → Nat → Prop} (hf : Fr S σ τ) (h0 : ∀ p j, q ≤ p → p ≤ q + 3 → ¬ S p j) : CR q most b E m kt τ := by
  obtain ⟨⟨⟨a, a'⟩, c, d, e, f, g, i, j⟩, h2, h3⟩ := h
  refine ⟨⟨⟨fun k hk => ?_, fun k y hk hy => ?_⟩, c, ?_, ?_, f, fun k hk => ⟨?_, (g k hk).2⟩, i, j⟩, ?_, h3⟩
  · rw [(hf (q + 1) k (h0 _ _ (by omega) (by omega))).1, a k hk]
  · rw [(hf (q + 3) _ (h0 _ _ (by omega) (by omega))).2, a' k y hk hy]
  · rw [(hf q 0 (h0 _ _ (by omega) (by omega))).1, d]
  · rw [(hf q 1 (h0 _ _ (by omega) (by omega))).1, e]
  · rw [(hf (q + 2) k (h0 _ _ (by omega) (by omega))).2, (g k hk).1]
  · rw [(hf q 2 (h0 _ _ (by omega) (by omega))).1, h2]
theorem CGe.mv {c : Nat} {g : Nat → Nat → Nat} {σ τ : zST} (h : CGe c g σ) {S : Nat → Nat → Prop} (hf : Fr S σ τ) (h0 : ∀ p j, 36 ≤ p → p ≤ 37 → ¬ S p j) : CGe c g τ := ⟨by
  rw [(hf 36 0 (h0 _ _ (by omega) (by omega))).1, h.1], fun i hi => by
  rw [(hf 37 i (h0 _ _ (by omega) (by omega))).2, h.2 i hi]⟩
theorem CGr.mv {c : Nat} {g : Nat → Nat → Nat} {σ τ : zST} (h : CGr c g σ) {S : Nat → Nat → Prop} (hf : Fr S σ τ) (h0 : ∀ p j, 38 ≤ p → p ≤ 41 → ¬ S p j) : CGr c g τ := by
  obtain ⟨b, E, m, kt, h1, h2⟩ := h
  exact ⟨b, E, m, kt, h1.mv hf h0, h2⟩
theorem RGe.mv2 {c : Nat} {g : Nat → Nat → Nat} {σ τ : zST} (h : RGe c g σ) {S : Nat → Nat → Prop} (hf : Fr S σ τ) (h0 : ∀ p j, p = 56 ∨ (p = 46 ∧ j = 11) → ¬ S p j) : RGe c g τ := ⟨by
  rw [(hf 46 11 (h0 _ _ (by omega))).1, h.1], fun i j hi hj => by
  rw [(hf 56 _ (h0 _ _ (by omega))).1, h.2 i j hi hj]⟩
theorem FRL.mv2 {N : Nat} {L : Nat → Nat → Nat} {σ τ : zST} (h : FRL N L σ) {S : Nat → Nat → Prop} (hf : Fr S σ τ) (h0 : ∀ p j, p = 57 ∨ p = 58 ∨ (p = 46 ∧ j = 14) → ¬ S p j) : FRL N L τ := by
  obtain ⟨h1, h2, h3, h4⟩ := h
  refine ⟨by rw [(hf 46 14 (h0 _ _ (by omega))).1, h1], fun k hk => ⟨(h2 k hk).1, by rw [(hf 57 k (h0 _ _ (by omega))).1, (h2 k hk).2]⟩, h3, fun f hf' => ?_⟩
  rw [(hf 58 _ (h0 _ _ (by omega))).1]
  exact h4 f hf'
theorem RGL.mv2 {c : Nat} {g : Nat → Nat → Nat} {σ τ : zST} (h : RGL c g σ) {S : Nat → Nat → Prop} (hf : Fr S σ τ) (h0 : ∀ p j, p = 57 ∨ p = 58 ∨ (p = 46 ∧ j = 14) → ¬ S p j) : RGL c g τ := by
  obtain ⟨N, L, h1, h2⟩ := h
  exact ⟨N, L, h1.mv2 hf h0, h2⟩
theorem GQ.mv {σ τ : zST} (h : GQ σ) {S : Nat → Nat → Prop} (hf : Fr S σ τ) (h0 : ∀ p j, (36 ≤ p ∧ p ≤ 41) ∨ (p = 46 ∧ (j = 11 ∨ j = 14)) ∨ (56 ≤ p ∧ p ≤ 58) → ¬ S p j) : GQ τ := by
  obtain ⟨c, g, a1, a2, a3, a4, a5, a6⟩ := h
  exact ⟨c, g, a1, a2, a3.mv hf (fun p j _ _ => h0 p j (by omega)), a4.mv hf (fun p j _ _ => h0 p j (by omega)), a5.mv2 hf (fun p j _ => h0 p j (by omega)), a6.mv2 hf (fun p j _ => h0 p j (by omega))⟩
theorem GQ.nb : Nb GQ := fun σ τ h hf => h.mv hf (fun p j hp => by unfold SC SR; omega)
/-- both sides count alike -/
theorem GQ.order {σ : zST} (h : GQ σ) : ∃ N, N ≤ 40320 ∧ gI σ 38 0 = nI N ∧ gI σ 46 14 = nI N := by
  obtain ⟨c, g, a1, a2, a3, ⟨b, E, m, kt, h1, h2, h3⟩, a5, ⟨N, L, h4, h5⟩⟩ := h
  have hN := inj_40320 (fun k hk => (h4.2.1 k hk).1) h4.2.2.1
  have hS := chain_group h1 h2 h3 h5 hN
  have hc := chain_count h1.1.2.1 hS h4.2.2.1 h5
  exact ⟨N, hN, by rw [h1.1.2.2.1, hc], h4.1⟩
end

