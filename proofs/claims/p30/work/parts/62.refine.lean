/-! MATHEMATICS, 13: the class's refinement -/
section
theorem number_eq (F : Nat) (hF : 8 < F) {r n : Nat} (h8 : n ≤ 8) {K : Nat → Nat} {σ : zST} (hK : Keys r n K σ) : ∃ τ, m_X6_numberByKeys F r (nI n) σ = some τ ∧ gI τ r 0 = nI (ncl K n) ∧ (∀ v, v < n → gI τ (r + 1) v = nI (rk K n v)) ∧ (∀ c, c < 8 → gI τ (r + 2) c = nI (memb (rk K n) n c)) ∧ Fr (fun p j => (p = r ∧ j = 0) ∨ p = r + 1 ∨ p = r + 2) σ τ := by
  have hm : msk (fstK K) n < 256 := Nat.lt_of_lt_of_le (msk_lt _ _) (pow8 h8)
  unfold m_X6_numberByKeys
  have h1 := up_loop0 (fun m (i : Int32) (s : Int32) => m_X6_numberByKeys_4 F m r (nI n) s i σ) n (fun i => nI (msk (fstK K) i)) (m_X6_numberByKeys_47 F F r (nI n) (nI (msk (fstK K) n)) 0 (wI (sI σ r 0 (nI (ncl K n))) (r + 2) 8 (fun _ => 0)))
    (fun m i hi => by
      show m_X6_numberByKeys_4 F (m + 1) r (nI n) _ (nI i) σ = _
      rw [m_X6_numberByKeys_4]; dsimp only
      unfold m_X6_numberByKeys_23
      rw [if_neg (nI_ge hi (by omega)), isFirst_eq F hF h8 hi hK, bd_some, msk]
      cases fstK K i
      · rw [if_pos (by decide +kernel), nm_eq, nI_1]; rfl
      · rw [if_neg (by decide +kernel), nm_eq, nm_eq, nI_1, shl1 (by omega), b_or]; rfl)
    (fun m => by
      show m_X6_numberByKeys_4 F (m + 1) r (nI n) _ (nI n) σ = _
      rw [m_X6_numberByKeys_4]; dsimp only
      rw [if_pos (nI_le (by omega) (by omega)), bitCount_eq F hm, bd_some, nm_eq, fillI F _ hF, bv_some, msk_pop h8]; rfl) (show n < F by omega)
  have e : (0 : Int32) = nI (msk (fstK K) 0) := rfl
  rw [show m_X6_numberByKeys_4 F F r (nI n) 0 0 σ = _ from h1]
  refine up_inv0 (fun m (i : Int32) (s : zST) => m_X6_numberByKeys_47 F m r (nI n) (nI (msk (fstK K) n)) i s) n
    (fun i s => gI s r 0 = nI (ncl K n) ∧ (∀ v, v < i → gI s (r + 1) v = nI (rk K n v)) ∧ (∀ c, c < 8 → gI s (r + 2) c = nI (memb (rk K n) i c)) ∧ Fr (fun p j => (p = r ∧ j = 0) ∨ p = r + 1 ∨ p = r + 2) σ s)
    (fun o => ∃ τ, o = some τ ∧ gI τ r 0 = nI (ncl K n) ∧ (∀ v, v < n → gI τ (r + 1) v = nI (rk K n v)) ∧ (∀ c, c < 8 → gI τ (r + 2) c = nI (memb (rk K n) n c)) ∧ Fr (fun p j => (p = r ∧ j = 0) ∨ p = r + 1 ∨ p = r + 2) σ τ)
    ?_ ?_ (show n < F by omega) ?_
  · rintro m i s hi ⟨a, b, c, d⟩
    have hKs : Keys r n K s := hK.mv d (fun j => by omega)
    have hr : rk K n i < 8 := Nat.lt_of_lt_of_le (rk_lt_ncl K hi) (Nat.le_trans (cnt_le _ _) h8)
    refine ⟨_, ?_, by
      show m_X6_numberByKeys_47 F (m + 1) r (nI n) _ (nI i) s = _
      rw [m_X6_numberByKeys_47]; dsimp only
      rw [if_neg (nI_ge hi (by omega)), inner_rank F hF h8 hi hKs _ (c _ hr)]⟩
    refine ⟨by rw [gI_sI, if_neg (by omega), gI_sI, if_neg (by omega), a], fun v hv => ?_, fun c' hc => ?_, d.tr ((Fr.sI (by omega)).tr (Fr.sI (by omega)))⟩
    · rw [gI_sI, if_neg (by omega), gI_sI]
      by_cases e : v = i
      · subst e; rw [if_pos ⟨rfl, rfl⟩]
      · rw [if_neg (by omega), b v (by omega)]
    · rw [gI_sI]
      unfold memb
      rw [msk]
      by_cases e : c' = rk K n i
      · subst e
        rw [if_pos ⟨rfl, rfl⟩, if_pos (by simp)]
      · rw [if_neg (by omega), gI_sI, if_neg (by omega), c c' hc, if_neg (by simp; omega)]
        rfl
  · rintro m s ⟨a, b, c, d⟩
    refine ⟨s, ?_, a, b, c, d⟩
    show m_X6_numberByKeys_47 F (m + 1) r (nI n) _ (nI n) s = _
    rw [m_X6_numberByKeys_47]; dsimp only
    rw [if_pos (nI_le (by omega) (by omega))]
  · refine ⟨by rw [gI_wI, if_neg (by omega), gI_same], fun v hv => absurd hv (by omega), fun c hc => by rw [gI_wI, if_pos ⟨rfl, hc⟩]; rfl, (Fr.sI (by omega)).tr (Fr.wI (by intros; omega))⟩
/-- the neighbours of v in class c -/
def nbc (M R : Nat → Nat) (n v c : Nat) : Nat := pop (M v &&& memb R n c)
/-- a key: the class, then the counts, four bits each -/
def keyT (M R : Nat → Nat) (n v : Nat) : Nat → Nat
  | 0 => R v
  | i + 1 => keyT M R n v i * 16 + nbc M R n v i
def key (M R : Nat → Nat) (n v : Nat) : Nat := keyT M R n v 8
theorem keyT_lt (M R : Nat → Nat) (n v : Nat) (h : R v < 8) : ∀ i, keyT M R n v i < 8 * 16 ^ i
  | 0 => by rw [keyT]; omega
  | i + 1 => by
    have := keyT_lt M R n v h i
    have h2 : nbc M R n v i ≤ 8 := pop_le _
    rw [keyT, Nat.pow_succ]
    omega
theorem key_lt (M R : Nat → Nat) (n v : Nat) (h : R v < 8) : key M R n v < 2 ^ 63 := Nat.lt_of_lt_of_le (keyT_lt M R n v h 8) (by decide)
theorem keyOf_eq (F : Nat) (hF : 8 < F) {r p n v : Nat} (h8 : n ≤ 8) (hv : v < n) {M C R : Nat → Nat} {σ : zST} (hG : Gr n M C) (hA : At p n M C σ) (h1 : gI σ (r + 1) v = nI (R v)) (hR : R v < 8) (h2 : ∀ c, c < 8 → gI σ (r + 2) c = nI (memb R n c)) : m_X6_keyOf F r p (nI v) σ = some (lN (key M R n v), σ) := by
  unfold m_X6_keyOf
  rw [ldI_at (by omega) (by omega), h1, nI_l (by omega), nm_eq]
  exact up_loop0 (fun m (i : Int32) (s : Int64) => m_X6_keyOf_11 F m r p (nI v) s i σ) 8 (fun i => lN (keyT M R n v i)) (some (lN (key M R n v), σ))
    (fun m i hi => by
      have hx : M v &&& memb R n i < 256 := Nat.lt_of_le_of_lt Nat.and_le_left (hG.lt (by omega))
      have hp : nbc M R n v i ≤ 8 := pop_le _
      show m_X6_keyOf_11 F (m + 1) r p (nI v) _ (nI i) σ = _
      rw [m_X6_keyOf_11]; dsimp only
      rw [l8, if_neg (nI_ge hi (by omega)), ldI_at (by omega) (by omega), ldI_at hi (by omega), (hA.2 v (by omega)).1, h2 i hi, b_and, bitCount_eq F hx, bd_some]
      rw [show pop (M v &&& memb R n i) = nbc M R n v i from rfl, nI_l (by omega), L_pack (by omega), nm_eq, nm_eq, nI_1]
      rfl)
    (fun m => by
      show m_X6_keyOf_11 F (m + 1) r p (nI v) _ (nI 8) σ = _
      rw [m_X6_keyOf_11]; dsimp only
      rw [l8, if_pos (nI_le (by omega) (by omega))]; rfl) hF
/-- the classes after t rounds -/
def Rk (n : Nat) (M C : Nat → Nat) : Nat → Nat → Nat
  | 0, v => rk C n v
  | t + 1, v => rk (fun u => key M (fun w => Rk n M C t w) n u) n v
/-- how many there are -/
def Cn (n : Nat) (M C : Nat → Nat) : Nat → Nat
  | 0 => ncl C n
  | t + 1 => ncl (fun u => key M (fun w => Rk n M C t w) n u) n
/-- how many there were a round before -/
def Cp (n : Nat) (M C : Nat → Nat) : Nat → Nat
  | 0 => 0
  | t + 1 => Cn n M C t
/-- the round that ends the refinement -/
def EndR (n : Nat) (M C : Nat → Nat) (T : Nat) : Prop := Cn n M C T ≤ Cp n M C T ∧ ∀ t, t < T → Cp n M C t < Cn n M C t
theorem Cn_le (n : Nat) (M C : Nat → Nat) (t : Nat) : Cn n M C t ≤ n := by
  cases t <;> exact cnt_le _ _
theorem Cn0 {n : Nat} (h : 1 ≤ n) (M C : Nat → Nat) : 1 ≤ Cn n M C 0 := by
  have := rk_lt_ncl C (n := n) (v := 0) (by omega)
  show 1 ≤ ncl C n
  omega
theorem endR_ex {n : Nat} (h1 : 1 ≤ n) (h8 : n ≤ 8) (M C : Nat → Nat) : ∃ T, 1 ≤ T ∧ T ≤ 8 ∧ EndR n M C T := by
  have h : ∃ t, t ≤ n ∧ Cn n M C t ≤ Cp n M C t := by
    apply Classical.byContradiction
    intro z
    have hg : ∀ t, t ≤ n → t + 1 ≤ Cn n M C t := by
      intro t
      induction t with
      | zero => intro _; exact Cn0 h1 M C
      | succ t ih =>
        intro ht
        have a := ih (by omega)
        have b : ¬ Cn n M C (t + 1) ≤ Cp n M C (t + 1) := fun q => z ⟨t + 1, ht, q⟩
        have c : Cp n M C (t + 1) = Cn n M C t := rfl
        omega
    have := hg n (Nat.le_refl n)
    have := Cn_le n M C n
    omega
  obtain ⟨t, ht, hq⟩ := h
  obtain ⟨T, hT, a, b⟩ := least_of (P := fun t => Cn n M C t ≤ Cp n M C t) hq
  refine ⟨T, ?_, by omega, a, fun t ht => Nat.lt_of_not_le (b t ht)⟩
  cases T with
  | zero =>
    have := Cn0 h1 M C
    have c : Cp n M C 0 = 0 := rfl
    omega
  | succ T => omega
theorem Rk_lt {n : Nat} (h8 : n ≤ 8) (M C : Nat → Nat) (t : Nat) {v : Nat} (hv : v < n) : Rk n M C t v < 8 := by
  have a : Rk n M C t v < Cn n M C t := by
    cases t <;> exact rk_lt_ncl _ hv
  have := Cn_le n M C t
  omega
end

