/-! MATHEMATICS, 16: the reference's comparisons and rounds -/
section
theorem sub_sg {a b : Nat} (ha : a < 2 ^ 30) (hb : b < 2 ^ 30) : (0 ≤ nI a - nI b ↔ b ≤ a) ∧ (nI a - nI b = 0 ↔ a = b) := by
  have h := pk_sub_toInt ha hb
  constructor
  · rw [Int32.le_iff_toInt_le, h, show (0 : Int32).toInt = 0 from by decide +kernel]; omega
  · rw [← Int32.toInt_inj, h, show (0 : Int32).toInt = 0 from by decide +kernel]; omega
theorem bits_eq (F : Nat) (hF : 8 < F) {a : Nat} (ha : a < 256) (σ : zST) : m_X8_bits F (nI a) σ = some (nI (pop a), σ) := by
  unfold m_X8_bits
  exact up_loop0 (fun m (i : Int32) (s : Int32) => m_X8_bits_4 F m (nI a) s i σ) 8 (fun i => nI (cnt (fun j => a.testBit j) i)) (some (nI (pop a), σ))
    (fun m i hi => by
      show m_X8_bits_4 F (m + 1) (nI a) _ (nI i) σ = _
      rw [m_X8_bits_4]; dsimp only
      rw [l8, if_neg (nI_ge hi (by omega)), shr_and1 (by omega) (by omega), nm_eq, nm_eq, nI_1, cnt_s]
      cases a.testBit i
      · show m_X8_bits_4 F m (nI a) (_ + 0) _ σ = _
        rw [l0, nI_add]; rfl
      · show m_X8_bits_4 F m (nI a) (_ + 1) _ σ = _
        rw [nI_1]; rfl)
    (fun m => by
      show m_X8_bits_4 F (m + 1) (nI a) _ (nI 8) σ = _
      rw [m_X8_bits_4]; dsimp only
      rw [l8, if_pos (nI_le (by omega) (by omega))]; rfl) hF
theorem nbIn_eq (F : Nat) (hF : 8 < F) {k n : Nat} (hk : k < 4) {M C R : Nat → Nat} {s : zST} (hG : Gr n M C) (hR : RAt k n M C s) (hold : ∀ v, v < n → gI s 53 v = nI (R v)) (hRl : ∀ v, v < n → R v < 8) {v c : Nat} (hv : v < n) (hc : c < 8) : m_X8_neighboursIn F 46 (nI k) (nI v) (nI c) s = some (nI (nbc M R n v c), s) := by
  have h8 := hG.1.2
  unfold m_X8_neighboursIn
  have hx : M v &&& memb R n c < 256 := Nat.lt_of_le_of_lt Nat.and_le_left (hG.lt (by omega))
  exact up_loop0 (fun m (i : Int32) (a : Int32) => m_X8_neighboursIn_6 F m 46 (nI k) (nI v) (nI c) a i s) n (fun i => nI (memb R i c)) (some (nI (nbc M R n v c), s))
    (fun m i hi => by
      have h1 : gI s (46 + 1) k = nI n := hR.1
      have h2 : gI s (46 + 7) i = nI (R i) := hold i hi
      show m_X8_neighboursIn_6 F (m + 1) 46 (nI k) (nI v) (nI c) _ (nI i) s = _
      rw [m_X8_neighboursIn_6]; dsimp only
      unfold m_X8_neighboursIn_38 memb
      rw [ldI_at hk (by omega), h1, if_neg (nI_ge hi (by omega)), ldI_at (by omega) (by omega), h2, msk]
      have hRi := hRl i hi
      by_cases e : R i = c
      · rw [if_pos ((nI_eq (by omega) (by omega)).mpr e), if_pos (by simp [e]), nm_eq, nm_eq, nI_1, shl1 (by omega), b_or]
      · rw [if_neg (fun z => e ((nI_eq (by omega) (by omega)).mp z)), if_neg (by simp [e]), nm_eq, nm_eq, nI_1, l0, b_or, Nat.or_zero])
    (fun m => by
      have h1 : gI s (46 + 1) k = nI n := hR.1
      have h2 : gI s (46 + 2) (8 * k + v) = nI (M v) := (hR.2 v (by omega)).1
      show m_X8_neighboursIn_6 F (m + 1) 46 (nI k) (nI v) (nI c) (nI (memb R n c)) (nI n) s = _
      rw [m_X8_neighboursIn_6]; dsimp only
      rw [ldI_at hk (by omega), h1, if_pos (nI_le (by omega) (by omega)), l8, pk_mul, nI_add, ldI_at (by omega) (by omega), h2, b_and, Nat.and_comm, bits_eq F hF hx, bd_some]; rfl) (show n < F by omega)
/-- the difference that the reference goes by, after i classes -/
def dI (M R : Nat → Nat) (n u v : Nat) : Nat → Int32
  | 0 => nI (R u) - nI (R v)
  | i + 1 => if dI M R n u v i = 0 then nI (nbc M R n u i) - nI (nbc M R n v i) else dI M R n u v i
theorem nbc_le (M R : Nat → Nat) (n v c : Nat) : nbc M R n v c ≤ 8 := pop_le _
theorem dI_sg (M R : Nat → Nat) (n u v : Nat) (hu : R u < 8) (hv : R v < 8) : ∀ i, (0 ≤ dI M R n u v i ↔ keyT M R n v i ≤ keyT M R n u i) ∧ (dI M R n u v i = 0 ↔ keyT M R n u i = keyT M R n v i)
  | 0 => sub_sg (by omega) (by omega)
  | i + 1 => by
    obtain ⟨h1, h2⟩ := dI_sg M R n u v hu hv i
    have x := nbc_le M R n u i
    have y := nbc_le M R n v i
    rw [dI, keyT, keyT]
    by_cases e : dI M R n u v i = 0
    · rw [if_pos e]
      have := h2.mp e
      have s := sub_sg (a := nbc M R n u i) (b := nbc M R n v i) (by omega) (by omega)
      constructor
      · rw [s.1]; omega
      · rw [s.2]; omega
    · rw [if_neg e]
      have : ¬ keyT M R n u i = keyT M R n v i := fun z => e (h2.mpr z)
      constructor
      · rw [h1]; omega
      · constructor
        · intro z; exact absurd z e
        · intro z; omega
theorem memb_0 {R : Nat → Nat} {n c : Nat} (h : ∀ v, v < n → R v < n) (hc : n ≤ c) : memb R n c = 0 := by
  apply Nat.eq_of_testBit_eq
  intro i
  unfold memb
  rw [msk_bit, Nat.zero_testBit]
  by_cases hi : i < n
  · have := h i hi
    have : ¬ R i = c := by omega
    simp [this]
  · simp [hi]
theorem nbc_0 {M R : Nat → Nat} {n v c : Nat} (h : ∀ v, v < n → R v < n) (hc : n ≤ c) : nbc M R n v c = 0 := by
  unfold nbc
  rw [memb_0 h hc, Nat.and_zero]; rfl
theorem dI_n {M R : Nat → Nat} {n u v : Nat} (hl : ∀ v, v < n → R v < n) : ∀ d, n + d ≤ 8 → ∀ i, i = n + d → ((keyT M R n v i ≤ keyT M R n u i) ↔ (keyT M R n v n ≤ keyT M R n u n)) ∧ ((keyT M R n u i = keyT M R n v i) ↔ (keyT M R n u n = keyT M R n v n)) := by
  intro d
  induction d with
  | zero => intro _ i hi; subst hi; exact ⟨Iff.rfl, Iff.rfl⟩
  | succ d ih =>
    intro hd i hi
    subst hi
    obtain ⟨a, b⟩ := ih (by omega) (n + d) rfl
    rw [← a, ← b, show n + (d + 1) = (n + d) + 1 from rfl, keyT, keyT, nbc_0 hl (by omega), nbc_0 hl (by omega)]
    constructor <;> omega
theorem cmps_old (F : Nat) (hF : 8 < F) {k n : Nat} (hk : k < 4) {M C R : Nat → Nat} {σ : zST} (hG : Gr n M C) (hR : RAt k n M C σ) (hold : ∀ v, v < n → gI σ 53 v = nI (R v)) (hRl : ∀ v, v < n → R v < n) : Cmps F k 0 n (key M R n) σ := by
  have h8 := hG.1.2
  intro s hs u v hu hv
  have hRs : RAt k n M C s := hR.mv hs (fun q j a b => by omega)
  have holds : ∀ v, v < n → gI s 53 v = nI (R v) := fun v hv => by rw [(hs 53 v (by omega)).1, hold v hv]
  have hR8 : ∀ v, v < n → R v < 8 := fun v hv => Nat.lt_of_lt_of_le (hRl v hv) h8
  have sg := dI_sg M R n u v (hR8 u hu) (hR8 v hv) n
  have sn := dI_n (M := M) (u := u) (v := v) hRl (8 - n) (by omega) 8 (by omega)
  refine ⟨dI M R n u v n, ?_, sg.1.trans sn.1.symm, sg.2.trans sn.2.symm⟩
  unfold m_X8_compares
  rw [if_pos rfl, ldI_at (by omega) (by omega), ldI_at (by omega) (by omega)]
  simp only [Nat.reduceAdd]
  rw [holds u hu, holds v hv, nm_eq]
  have h1 : gI s (46 + 1) k = nI n := hRs.1
  have hl : ∀ d i m, i + d = n → d < m → m_X8_compares_47 F m 46 (nI k) (nI u) (nI v) (dI M R n u v i) (nI i) s = some (dI M R n u v n, s) := by
    intro d
    induction d with
    | zero =>
      intro i m hi hm
      obtain ⟨m, rfl⟩ : ∃ k, m = k + 1 := ⟨m - 1, by omega⟩
      have : i = n := by omega
      subst this
      rw [m_X8_compares_47]; dsimp only
      rw [ldI_at hk (by omega), h1, if_pos (nI_le (by omega) (by omega))]; rfl
    | succ d ih =>
      intro i m hi hm
      obtain ⟨m, rfl⟩ : ∃ k, m = k + 1 := ⟨m - 1, by omega⟩
      by_cases e : dI M R n u v i = 0
      · have ih := ih (i + 1) m (by omega) (by omega)
        rw [m_X8_compares_47]; dsimp only
        rw [ldI_at hk (by omega), h1, if_neg (nI_ge (by omega) (by omega)), if_pos e, nbIn_eq F hF hk hG hRs holds hR8 hu (by omega), bd_some, nbIn_eq F hF hk hG hRs holds hR8 hv (by omega), bd_some, nm_eq, nm_eq, nI_1]
        rw [dI, if_pos e] at ih
        exact ih
      · have hc : ∀ j, dI M R n u v (i + j) = dI M R n u v i := by
          intro j
          induction j with
          | zero => rfl
          | succ j ihj => rw [← Nat.add_assoc, dI, ihj, if_neg e]
        rw [m_X8_compares_47]; dsimp only
        unfold m_X8_compares_88
        rw [ldI_at hk (by omega), h1, if_neg (nI_ge (by omega) (by omega)), if_neg e]
        have hq := hc (d + 1)
        rw [hi] at hq
        rw [hq]
  have := hl n 0 F (by omega) (by omega)
  rwa [nI_0] at this
theorem cmps_col (F : Nat) {k n : Nat} (hk : k < 4) {M C : Nat → Nat} {σ : zST} (hG : Gr n M C) (hR : RAt k n M C σ) : Cmps F k 1 n C σ := by
  have h8 := hG.1.2
  intro s hs u v hu hv
  have hRs : RAt k n M C s := hR.mv hs (fun q j a b => by omega)
  have c1 := (hG.2 u (by omega)).1
  have c2 := (hG.2 v (by omega)).1
  have sg := sub_sg (a := C u) (b := C v) (by omega) (by omega)
  refine ⟨nI (C u) - nI (C v), ?_, sg.1, sg.2⟩
  unfold m_X8_compares
  rw [if_neg n10, l8, pk_mul, nI_add, nI_add, ldI_at (by omega) (by omega), ldI_at (by omega) (by omega)]
  simp only [Nat.reduceAdd]
  rw [(hRs.2 u (by omega)).2, (hRs.2 v (by omega)).2]
/-- the reference after t rounds -/
def RR (n : Nat) (M C : Nat → Nat) (σ : zST) (t : Nat) (s : zST) : Prop := gI s 46 9 = nI t ∧ (∀ v, v < n → gI s 53 v = nI (Rk n M C t v)) ∧ Fr (fun p j => p = 53 ∨ p = 54 ∨ (p = 46 ∧ j = 9)) σ s
theorem Rk_ltn {n : Nat} (M C : Nat → Nat) (t : Nat) {v : Nat} (hv : v < n) : Rk n M C t v < n := by
  have a : Rk n M C t v < Cn n M C t := by
    cases t <;> exact rk_lt_ncl _ hv
  have := Cn_le n M C t
  omega
theorem refines_rf (F : Nat) (hF : 9 < F) {k n : Nat} (hk : k < 4) {M C : Nat → Nat} {σ : zST} (hG : Gr n M C) (hR : RAt k n M C σ) {T : Nat} (hT : 1 ≤ T ∧ T ≤ 8 ∧ EndR n M C T) : ∃ τ, m_X8_refines F 46 (nI k) σ = some (nI (Cn n M C T), τ) ∧ RR n M C σ T τ := by
  have h8 := hG.1.2
  have h1 := hG.1.1
  have hloop : ∀ d t m s, t + d = T → d < m → RR n M C σ t s → ∃ τ, m_X8_refines_14 F m 46 (nI k) (nI (Cp n M C t)) (nI (Cn n M C t)) s = some (nI (Cn n M C T), τ) ∧ RR n M C σ T τ := by
    intro d
    induction d with
    | zero =>
      intro t m s ht hm hs
      obtain ⟨m, rfl⟩ : ∃ k, m = k + 1 := ⟨m - 1, by omega⟩
      have : t = T := by omega
      subst this
      refine ⟨s, ?_, hs⟩
      have hc := hT.2.2.1
      have : Cp n M C t ≤ 8 := by
        cases t with
        | zero => exact Nat.zero_le _
        | succ t => have := Cn_le n M C t; show Cn n M C t ≤ 8; omega
      rw [m_X8_refines_14]; dsimp only
      rw [if_pos (nI_le hc (by omega))]
    | succ d ih =>
      intro t m s ht hm hs
      obtain ⟨m, rfl⟩ : ∃ k, m = k + 1 := ⟨m - 1, by omega⟩
      have hlt := hT.2.2.2 t (by omega)
      have := Cn_le n M C t
      have hRs : RAt k n M C s := hR.mv hs.2.2 (fun q j a b => by omega)
      have hc := cmps_old F (by omega) hk hG hRs (R := fun w => Rk n M C t w) hs.2.1 (fun v hv => Rk_ltn M C t hv)
      have e := sorts_eq F hF hk h1 h8 hc hRs.1
      have hnew : RR n M C σ (t + 1) (sI (wI (wI s 54 n (fun v => nI (rk (key M (fun w => Rk n M C t w) n) n v))) 53 n (fun v => nI (rk (key M (fun w => Rk n M C t w) n) n v))) 46 9 (nI (t + 1))) := by
        refine ⟨gI_same _ _ _ _, fun v hv => ?_, hs.2.2.tr (((Fr.wI (by intros; omega)).tr (Fr.wI (by intros; omega))).tr (Fr.sI (by omega)))⟩
        rw [gI_sI, if_neg (by omega), gI_wI, if_pos ⟨rfl, hv⟩]; rfl
      obtain ⟨τ, e', h'⟩ := ih (t + 1) m _ (by omega) (by omega) hnew
      refine ⟨τ, ?_, h'⟩
      rw [m_X8_refines_14]; dsimp only
      rw [if_neg (nI_ge hlt (by omega)), e, bd_some, nm_eq, gI_wI, if_neg (by omega), gI_wI, if_neg (by omega), hs.1, nI_1]
      exact e'
  have e := sorts_eq F hF hk h1 h8 (cmps_col F hk hG hR) hR.1
  have h0 : RR n M C σ 0 (sI (wI (wI σ 54 n (fun v => nI (rk C n v))) 53 n (fun v => nI (rk C n v))) 46 9 0) := by
    refine ⟨gI_same _ _ _ _, fun v hv => ?_, ((Fr.wI (by intros; omega)).tr (Fr.wI (by intros; omega))).tr (Fr.sI (by omega))⟩
    rw [gI_sI, if_neg (by omega), gI_wI, if_pos ⟨rfl, hv⟩]; rfl
  obtain ⟨τ, e', h'⟩ := hloop T 0 F _ (by omega) (by omega) h0
  refine ⟨τ, ?_, h'⟩
  unfold m_X8_refines
  rw [e, bd_some, nm_eq]
  exact e'
end
