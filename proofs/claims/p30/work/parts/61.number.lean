/-! MATHEMATICS, 12: longs; the class's numbering -/
section
theorem L_or (a b : Nat) : lN a ||| lN b = lN (a ||| b) := by
  apply Int64.toBitVec.inj
  show (BitVec.ofNat 64 a) ||| (BitVec.ofNat 64 b) = BitVec.ofNat 64 (a ||| b)
  simp [← BitVec.ofNat_or]
theorem L_and (a b : Nat) : lN a &&& lN b = lN (a &&& b) := by
  apply Int64.toBitVec.inj
  show (BitVec.ofNat 64 a) &&& (BitVec.ofNat 64 b) = BitVec.ofNat 64 (a &&& b)
  simp [← BitVec.ofNat_and]
theorem L_shl (a : Nat) {k : Nat} (hk : k < 64) : jlshl (lN a) (nI k) = lN (a * 2 ^ k) := by
  apply Int64.toBitVec.inj
  apply BitVec.eq_of_toNat_eq
  have hs : (((nI k).toInt64 &&& 63).toBitVec.smod 64).toNat = k := by
    revert k; decide +kernel
  show ((BitVec.ofNat 64 a) <<< ((((nI k).toInt64 &&& 63).toBitVec.smod 64))).toNat = (BitVec.ofNat 64 (a * 2 ^ k)).toNat
  rw [BitVec.shiftLeft_eq', hs, BitVec.toNat_shiftLeft, BitVec.toNat_ofNat, BitVec.toNat_ofNat, Nat.shiftLeft_eq, Nat.mod_mul_mod]
theorem L_pack {a b : Nat} (hb : b < 16) : jlshl (lN a) 4 ||| lN b = lN (a * 16 + b) := by
  rw [l4, L_shl a (by omega), L_or]
  congr 1
  have := Nat.two_pow_add_eq_or_of_lt (i := 4) (b := b) (by omega) a
  rw [show a * 2 ^ 4 = 2 ^ 4 * a from Nat.mul_comm _ _, ← this]
theorem cmp_0 {a b : Nat} (ha : a < 2 ^ 63) (hb : b < 2 ^ 63) : lg_cmp (lN a) (lN b) = 0 ↔ a = b := by
  unfold lg_cmp
  show (if lN b < lN a then (1 : Int32) else if lN a = lN b then 0 else -1) = 0 ↔ _
  have hL := pk_lLT hb ha
  have hE := pk_lEQ ha hb
  by_cases h : b < a
  · rw [if_pos (hL.mpr h)]; constructor
    · intro z; exact absurd z (by decide +kernel)
    · omega
  · rw [if_neg (fun z => h (hL.mp z))]
    by_cases e : a = b
    · rw [if_pos (hE.mpr e)]; simp [e]
    · rw [if_neg (fun z => e (hE.mp z))]; constructor
      · intro z; exact absurd z (by decide +kernel)
      · intro z; exact absurd z e
theorem cmp_ge {a b : Nat} (ha : a < 2 ^ 63) (hb : b < 2 ^ 63) : 0 ≤ lg_cmp (lN a) (lN b) ↔ b ≤ a := by
  unfold lg_cmp
  show 0 ≤ (if lN b < lN a then (1 : Int32) else if lN a = lN b then 0 else -1) ↔ _
  have hL := pk_lLT hb ha
  have hE := pk_lEQ ha hb
  by_cases h : b < a
  · rw [if_pos (hL.mpr h)]; constructor
    · intro _; omega
    · intro _; decide +kernel
  · rw [if_neg (fun z => h (hL.mp z))]
    by_cases e : a = b
    · rw [if_pos (hE.mpr e)]; constructor
      · intro _; omega
      · intro _; decide +kernel
    · rw [if_neg (fun z => e (hE.mp z))]; constructor
      · intro z; exact absurd z (by decide +kernel)
      · intro z; omega
/-- a search that ends without a find, with a find -/
theorem find_no {β : Type} (f : Nat → Int32 → Option β) (N : Nat) (P : Nat → Prop) (no : Option β) (hs : ∀ n i, i < N → ¬ P i → f (n + 1) (nI i) = f n (nI (i + 1))) (he : ∀ n, f (n + 1) (nI N) = no) (hp : ∀ i, i < N → ¬ P i) {F : Nat} (hF : N < F) : f F 0 = no :=
  up_loop0 (S := Unit) (fun n i _ => f n i) N (fun _ => ()) no (fun n i hi => hs n i hi (hp i hi)) he hF
theorem find_yes {β : Type} (f : Nat → Int32 → Option β) (N : Nat) (P : Nat → Prop) (yes : Nat → Option β) (hs : ∀ n i, i < N → ¬ P i → f (n + 1) (nI i) = f n (nI (i + 1))) (hy : ∀ n i, i < N → P i → f (n + 1) (nI i) = yes i) {j : Nat} (hj : j < N) (hp : P j) (hl : ∀ i, i < j → ¬ P i) {F : Nat} (hF : N < F) : f F 0 = yes j :=
  up_loop0 (S := Unit) (fun n i _ => f n i) j (fun _ => ()) (yes j) (fun n i hi => hs n i (by omega) (hl i hi)) (fun n => hy n j hj hp) (by omega)
/-- the keys of n vertices lie at place r -/
def Keys (r n : Nat) (K : Nat → Nat) (σ : zST) : Prop := ∀ v, v < n → gL σ (r + 3) v = lN (K v) ∧ K v < 2 ^ 63
theorem isFirst_eq (F : Nat) (hF : 8 < F) {r n v : Nat} (h8 : n ≤ 8) (hv : v < n) {K : Nat → Nat} {σ : zST} (hK : Keys r n K σ) : m_X6_isFirstOfKey F r (nI v) σ = some (bI (fstK K v), σ) := by
  unfold m_X6_isFirstOfKey
  have hs : ∀ m i, i < v → ¬ K i = K v → m_X6_isFirstOfKey_2 F (m + 1) r (nI v) (nI i) σ = m_X6_isFirstOfKey_2 F m r (nI v) (nI (i + 1)) σ := by
    intro m i hi hne
    rw [m_X6_isFirstOfKey_2]; dsimp only
    rw [if_neg (nI_ge hi (by omega)), ldL_at (by omega) (by omega), ldL_at (by omega) (by omega), (hK i (by omega)).1, (hK v hv).1, if_neg (fun z => hne ((cmp_0 (hK i (by omega)).2 (hK v hv).2).mp z)), nm_eq, nI_1]
  have hy : ∀ m i, i < v → K i = K v → m_X6_isFirstOfKey_2 F (m + 1) r (nI v) (nI i) σ = some (0, σ) := by
    intro m i hi e
    rw [m_X6_isFirstOfKey_2]; dsimp only
    rw [if_neg (nI_ge hi (by omega)), ldL_at (by omega) (by omega), ldL_at (by omega) (by omega), (hK i (by omega)).1, (hK v hv).1, if_pos ((cmp_0 (hK i (by omega)).2 (hK v hv).2).mpr e)]
  cases e : fstK K v
  · have : ∃ w, w < v ∧ K w = K v := by
      apply Classical.byContradiction
      intro z
      have : fstK K v = true := (fstK_iff K v).mpr (fun w hw e => z ⟨w, hw, e⟩)
      rw [e] at this; exact absurd this (by decide)
    obtain ⟨w, hw, hk⟩ := this
    obtain ⟨j, hj, h1, h2⟩ := least_of (P := fun w => w < v ∧ K w = K v) (n := w) ⟨hw, hk⟩
    exact find_yes (fun m i => m_X6_isFirstOfKey_2 F m r (nI v) i σ) v (fun i => K i = K v) (fun _ => some (0, σ)) hs hy h1.1 h1.2 (fun i hi z => h2 i hi ⟨by omega, z⟩) (by omega)
  · exact find_no (fun m i => m_X6_isFirstOfKey_2 F m r (nI v) i σ) v (fun i => K i = K v) (some (1, σ)) hs (fun m => by
      show m_X6_isFirstOfKey_2 F (m + 1) r (nI v) (nI v) σ = _
      rw [m_X6_isFirstOfKey_2]; dsimp only
      rw [if_pos (nI_le (by omega) (by omega))]) (fun i hi => (fstK_iff K v).mp e i hi) (by omega)
theorem Keys.mv {r n : Nat} {K : Nat → Nat} {σ τ : zST} (h : Keys r n K σ) {S : Nat → Nat → Prop} (hf : Fr S σ τ) (h0 : ∀ j, ¬ S (r + 3) j) : Keys r n K τ := fun v hv => ⟨by rw [(hf (r + 3) v (h0 v)).2, (h v hv).1], (h v hv).2⟩
/-- the members of the classes, the first i vertices seen -/
def memb (R : Nat → Nat) (i c : Nat) : Nat := msk (fun u => R u == c) i
theorem inner_rank (F : Nat) (hF : 8 < F) {r n v : Nat} (h8 : n ≤ 8) (hv : v < n) {K : Nat → Nat} {σ : zST} (hK : Keys r n K σ) (k47 : Nat → Int32 → Int32 → Int32 → zST → Option zST) {G : Nat} (hmem : gI σ (r + 2) (rk K n v) = nI G) : m_X6_numberByKeys_58 F k47 F r (nI n) (nI (msk (fstK K) n)) (nI v) 0 0 σ = k47 r (nI n) (nI (msk (fstK K) n)) (nI (v + 1)) (sI (sI σ (r + 1) v (nI (rk K n v))) (r + 2) (rk K n v) (nI (G ||| 2 ^ v))) := by
  have hl : ∀ i, i ≤ n → cnt (fun u => fstK K u && decide (K u < K v)) i ≤ 8 := fun i hi => Nat.le_trans (cnt_le _ _) (by omega)
  have hr : rk K n v < 8 := Nat.lt_of_lt_of_le (rk_lt_ncl K hv) (Nat.le_trans (cnt_le _ _) h8)
  have hm : msk (fstK K) n < 2 ^ 31 := Nat.lt_of_lt_of_le (msk_lt _ _) (Nat.pow_le_pow_right (by omega) (by omega))
  exact up_loop0 (fun m (i : Int32) (s : Int32) => m_X6_numberByKeys_58 F k47 m r (nI n) (nI (msk (fstK K) n)) (nI v) s i σ) n (fun i => nI (cnt (fun u => fstK K u && decide (K u < K v)) i)) _
    (fun m i hi => by
      show m_X6_numberByKeys_58 F k47 (m + 1) r (nI n) (nI (msk (fstK K) n)) (nI v) _ (nI i) σ = _
      rw [m_X6_numberByKeys_58]; dsimp only
      unfold m_X6_numberByKeys_93
      rw [if_neg (nI_ge hi (by omega)), isIn_b F hm (by omega), bd_some, msk_bit, decide_eq_true hi, Bool.true_and, cnt_s]
      cases e : fstK K i
      · rw [if_pos (by decide +kernel), nm_eq, nI_1]; rfl
      · rw [if_neg (by decide +kernel), ldL_at (by omega) (by omega), ldL_at (by omega) (by omega), (hK i (by omega)).1, (hK v hv).1]
        by_cases e2 : K i < K v
        · rw [if_neg (fun z => by have := (cmp_ge (hK i (by omega)).2 (hK v hv).2).mp z; omega), nm_eq, nm_eq, nI_1, nI_1, decide_eq_true e2]; rfl
        · rw [if_pos ((cmp_ge (hK i (by omega)).2 (hK v hv).2).mpr (by omega)), nm_eq, nI_1, decide_eq_false e2]; rfl)
    (fun m => by
      show m_X6_numberByKeys_58 F k47 (m + 1) r (nI n) (nI (msk (fstK K) n)) (nI v) (nI (rk K n v)) (nI n) σ = _
      rw [m_X6_numberByKeys_58]; dsimp only
      rw [if_pos (nI_le (by omega) (by omega)), stI_at (by omega) (by omega), ldI_at (by omega) (by omega), stI_at (by omega) (by omega), nm_eq, nI_1, gI_sI, if_neg (by omega), hmem, shl1 (by omega), b_or]) (by omega)
end

