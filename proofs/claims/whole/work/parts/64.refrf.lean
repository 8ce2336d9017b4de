/-! MATHEMATICS, 15: the reference's refinement -/
section
theorem find_yes2 {β : Type} (f : Nat → Int32 → Option β) (N : Nat) (P : Nat → Prop) (yes : Nat → Option β) (hs : ∀ n i, i < N → ¬ P i → f (n + 1) (nI i) = f n (nI (i + 1))) (hy : ∀ n i, i < N → P i → f (n + 2) (nI i) = yes i) {j : Nat} (hj : j < N) (hp : P j) (hl : ∀ i, i < j → ¬ P i) {F : Nat} (hF : N + 1 < F) : f F 0 = yes j := by
  have h : ∀ d i n, i + d = j → d + 1 < n → f n (nI i) = yes j := by
    intro d
    induction d with
    | zero =>
      intro i n hi hn
      obtain ⟨n, rfl⟩ : ∃ k, n = k + 2 := ⟨n - 2, by omega⟩
      have : i = j := by omega
      subst this
      exact hy n i hj hp
    | succ d ih =>
      intro i n hi hn
      obtain ⟨n, rfl⟩ : ∃ k, n = k + 1 := ⟨n - 1, by omega⟩
      rw [hs n i (by omega) (hl i (by omega))]
      exact ih (i + 1) n (by omega) (by omega)
  have := h j 0 F (by omega) (by omega)
  rwa [nI_0] at this
/-- comparisons of the vertices of graph k are those of the keys K -/
def Cmps (F k : Nat) (kind : Int32) (n : Nat) (K : Nat → Nat) (σ : zST) : Prop := ∀ s, Fr (fun p _ => p = 54) σ s → ∀ u v, u < n → v < n → ∃ d, m_X8_compares F 46 (nI k) (nI u) (nI v) kind s = some (d, s) ∧ (0 ≤ d ↔ K v ≤ K u) ∧ (d = 0 ↔ K u = K v)
theorem sorts_in (F : Nat) (hF : 9 < F) {k n : Nat} {kind : Int32} (h8 : n ≤ 8) {K : Nat → Nat} {σ s : zST} (hK : Cmps F k kind n K σ) (hs : Fr (fun p _ => p = 54) σ s) (k5 : Nat → Int32 → Int32 → Int32 → Int32 → zST → Option (Int32 × zST)) (k22 : Nat → Int32 → Int32 → Int32 → Int32 → Int32 → Int32 → zST → Option (Int32 × zST)) (a3 a4 a5 : Int32) {u : Nat} (hu : u < n) (b : Bool) : m_X8_sorts_56 F k5 k22 F 46 (nI k) kind a3 a4 a5 (nI u) (bI b) 0 s = m_X8_sorts_94 F k5 k22 46 (nI k) kind a3 a4 a5 (nI u) (bI (b && fstK K u)) s := by
  have h1 : ∀ m i, i < u → ¬ K i = K u → m_X8_sorts_56 F k5 k22 (m + 1) 46 (nI k) kind a3 a4 a5 (nI u) 1 (nI i) s = m_X8_sorts_56 F k5 k22 m 46 (nI k) kind a3 a4 a5 (nI u) 1 (nI (i + 1)) s := by
    intro m i hi hne
    obtain ⟨d, e1, e2, e3⟩ := hK s hs i u (by omega) hu
    rw [m_X8_sorts_56]; dsimp only
    unfold m_X8_sorts_86
    rw [if_neg (nI_ge hi (by omega)), if_neg n10, e1, bd_some, if_neg (fun z => hne (e3.mp z)), nm_eq, nI_1]
  have h0 : ∀ m i, i ≤ u → m_X8_sorts_56 F k5 k22 (m + 1) 46 (nI k) kind a3 a4 a5 (nI u) 0 (nI i) s = m_X8_sorts_94 F k5 k22 46 (nI k) kind a3 a4 a5 (nI u) 0 s := by
    intro m i hi
    rw [m_X8_sorts_56]; dsimp only
    by_cases e : u ≤ i
    · rw [if_pos (nI_le e (by omega))]
    · rw [if_neg (nI_ge (by omega) (by omega)), if_pos rfl]
  cases b
  · obtain ⟨F', rfl⟩ : ∃ m, F = m + 1 := ⟨F - 1, by omega⟩
    rw [Bool.false_and]
    exact h0 F' 0 (by omega)
  · rw [Bool.true_and]
    show m_X8_sorts_56 F k5 k22 F 46 (nI k) kind a3 a4 a5 (nI u) 1 0 s = _
    cases e : fstK K u
    · have : ∃ w, w < u ∧ K w = K u := by
        apply Classical.byContradiction
        intro z
        have : fstK K u = true := (fstK_iff K u).mpr (fun w hw e => z ⟨w, hw, e⟩)
        rw [e] at this; exact absurd this (by decide)
      obtain ⟨w, hw, hk⟩ := this
      obtain ⟨j, hj, g1, g2⟩ := least_of (P := fun w => w < u ∧ K w = K u) (n := w) ⟨hw, hk⟩
      exact find_yes2 (fun m i => m_X8_sorts_56 F k5 k22 m 46 (nI k) kind a3 a4 a5 (nI u) 1 i s) u (fun i => K i = K u) (fun _ => m_X8_sorts_94 F k5 k22 46 (nI k) kind a3 a4 a5 (nI u) 0 s) h1 (fun m i hi hk => by
        obtain ⟨d, e1, e2, e3⟩ := hK s hs i u (by omega) hu
        show m_X8_sorts_56 F k5 k22 (m + 1 + 1) 46 (nI k) kind a3 a4 a5 (nI u) 1 (nI i) s = _
        rw [m_X8_sorts_56]; dsimp only
        unfold m_X8_sorts_86
        rw [if_neg (nI_ge hi (by omega)), if_neg n10, e1, bd_some, if_pos (e3.mpr hk), nm_eq, nI_1]
        exact h0 m (i + 1) (by omega)) g1.1 g1.2 (fun i hi z => g2 i hi ⟨by omega, z⟩) (by omega)
    · exact find_no (fun m i => m_X8_sorts_56 F k5 k22 m 46 (nI k) kind a3 a4 a5 (nI u) 1 i s) u (fun i => K i = K u) _ h1 (fun m => by
        show m_X8_sorts_56 F k5 k22 (m + 1) 46 (nI k) kind a3 a4 a5 (nI u) 1 (nI u) s = _
        rw [m_X8_sorts_56]; dsimp only
        rw [if_pos (nI_le (by omega) (by omega))]; rfl) (fun i hi => (fstK_iff K u).mp e i hi) (by omega)
theorem sorts_mid (F : Nat) (hF : 9 < F) {k n : Nat} (hk : k < 4) {kind : Int32} (h8 : n ≤ 8) {K : Nat → Nat} {σ s : zST} (hK : Cmps F k kind n K σ) (hs : Fr (fun p _ => p = 54) σ s) (hn : gI σ 47 k = nI n) (k5 : Nat → Int32 → Int32 → Int32 → Int32 → zST → Option (Int32 × zST)) {v : Nat} (hv : v < n) (a3 : Nat) (ha : a3 < 8) : m_X8_sorts_22 F k5 F 46 (nI k) kind (nI a3) (nI v) 0 0 s = k5 46 (nI k) kind (nI (if rk K n v ≤ a3 then a3 else rk K n v)) (nI (v + 1)) (sI s 54 v (nI (rk K n v))) := by
  have hn' : gI s (46 + 1) k = nI n := by rw [(hs 47 k (by omega)).1, hn]
  have hr : rk K n v < 8 := Nat.lt_of_lt_of_le (rk_lt_ncl K hv) (Nat.le_trans (cnt_le _ _) h8)
  exact up_loop0 (fun m (i : Int32) (c : Int32) => m_X8_sorts_22 F k5 m 46 (nI k) kind (nI a3) (nI v) c i s) n (fun i => nI (cnt (fun u => fstK K u && decide (K u < K v)) i)) _
    (fun m i hi => by
      obtain ⟨d, e1, e2, e3⟩ := hK s hs i v hi hv
      have hd : (if 0 ≤ d then m_X8_sorts_51 F k5 (m_X8_sorts_22 F k5 m) 46 (nI k) kind (nI a3) (nI v) (nI (cnt (fun u => fstK K u && decide (K u < K v)) i)) (nI i) 0 s else m_X8_sorts_51 F k5 (m_X8_sorts_22 F k5 m) 46 (nI k) kind (nI a3) (nI v) (nI (cnt (fun u => fstK K u && decide (K u < K v)) i)) (nI i) 1 s) = m_X8_sorts_51 F k5 (m_X8_sorts_22 F k5 m) 46 (nI k) kind (nI a3) (nI v) (nI (cnt (fun u => fstK K u && decide (K u < K v)) i)) (nI i) (bI (decide (K i < K v))) s := by
        by_cases e : K i < K v
        · rw [if_neg (fun z => by have := e2.mp z; omega), decide_eq_true e]; rfl
        · rw [if_pos (e2.mpr (by omega)), decide_eq_false e]; rfl
      show m_X8_sorts_22 F k5 (m + 1) 46 (nI k) kind (nI a3) (nI v) _ (nI i) s = _
      rw [m_X8_sorts_22]; dsimp only
      rw [ldI_at hk (by omega), hn', if_neg (nI_ge hi (by omega)), e1, bd_some, hd]
      unfold m_X8_sorts_51
      rw [sorts_in F hF h8 hK hs _ _ _ _ _ hi, cnt_s]
      unfold m_X8_sorts_94 m_X8_sorts_106
      rw [Bool.and_comm]
      cases (fstK K i && decide (K i < K v))
      · rw [if_pos (by decide +kernel), nm_eq, nm_eq, l0, nI_add, nI_1]; rfl
      · rw [if_neg (by decide +kernel), nm_eq, nm_eq, nI_1, nI_1]; rfl)
    (fun m => by
      show m_X8_sorts_22 F k5 (m + 1) 46 (nI k) kind (nI a3) (nI v) (nI (rk K n v)) (nI n) s = _
      rw [m_X8_sorts_22]; dsimp only
      unfold m_X8_sorts_136
      rw [ldI_at hk (by omega), hn', if_pos (nI_le (by omega) (by omega)), stI_at (by omega) (by omega), nm_eq, nm_eq, nI_1]
      by_cases e : rk K n v ≤ a3
      · rw [if_pos (nI_le e (by omega)), if_pos e]
      · rw [if_neg (nI_ge (by omega) (by omega)), if_neg e]) (show n < F by omega)
theorem maxTo_lt {f : Nat → Nat} {b : Nat} : ∀ {n : Nat}, (∀ i, i < n → f i < b) → 0 < b → maxTo f n < b
  | 0, _, h => h
  | n + 1, h, hb => by
    rw [maxTo]
    split
    · exact maxTo_lt (fun i hi => h i (by omega)) hb
    · exact h n (by omega)
theorem sorts_eq (F : Nat) (hF : 9 < F) {k n : Nat} (hk : k < 4) {kind : Int32} (h1 : 1 ≤ n) (h8 : n ≤ 8) {K : Nat → Nat} {σ : zST} (hK : Cmps F k kind n K σ) (hn : gI σ 47 k = nI n) : m_X8_sorts F 46 (nI k) kind σ = some (nI (ncl K n), wI (wI σ 54 n (fun v => nI (rk K n v))) 53 n (fun v => nI (rk K n v))) := by
  have hrk : ∀ v, v < n → rk K n v < 8 := fun v hv => Nat.lt_of_lt_of_le (rk_lt_ncl K hv) (Nat.le_trans (cnt_le _ _) h8)
  unfold m_X8_sorts
  have hlast : m_X8_sorts_146 F F 46 (nI k) (nI (maxTo (rk K n) n)) 0 (wI σ 54 n (fun v => nI (rk K n v))) = some (nI (ncl K n), wI (wI σ 54 n (fun v => nI (rk K n v))) 53 n (fun v => nI (rk K n v))) := by
    have h := up_loop0 (fun m (i : Int32) (s : zST) => m_X8_sorts_146 F m 46 (nI k) (nI (maxTo (rk K n) n)) i s) n (fun i => wI (wI σ 54 n (fun v => nI (rk K n v))) 53 i (fun v => nI (rk K n v))) (some (nI (ncl K n), wI (wI σ 54 n (fun v => nI (rk K n v))) 53 n (fun v => nI (rk K n v))))
      (fun m i hi => by
        have e0 : gI (wI (wI σ 54 n (fun v => nI (rk K n v))) 53 i (fun v => nI (rk K n v))) (46 + 1) k = nI n := by rw [gI_wI, if_neg (by omega), gI_wI, if_neg (by omega), hn]
        have e1 : gI (wI (wI σ 54 n (fun v => nI (rk K n v))) 53 i (fun v => nI (rk K n v))) (46 + 8) i = nI (rk K n i) := by rw [gI_wI, if_neg (by omega), gI_wI, if_pos ⟨rfl, hi⟩]
        show m_X8_sorts_146 F (m + 1) 46 (nI k) _ (nI i) _ = _
        rw [m_X8_sorts_146]; dsimp only
        rw [ldI_at hk (by omega), e0, if_neg (nI_ge hi (by omega)), ldI_at (by omega) (by omega), e1, stI_at (by omega) (by omega), nm_eq, nI_1]
        simp only [Nat.reduceAdd]
        rw [← wI_s])
      (fun m => by
        have e0 : gI (wI (wI σ 54 n (fun v => nI (rk K n v))) 53 n (fun v => nI (rk K n v))) (46 + 1) k = nI n := by rw [gI_wI, if_neg (by omega), gI_wI, if_neg (by omega), hn]
        show m_X8_sorts_146 F (m + 1) 46 (nI k) _ (nI n) _ = _
        rw [m_X8_sorts_146]; dsimp only
        rw [ldI_at hk (by omega), e0, if_pos (nI_le (by omega) (by omega)), nI_1, ncl_maxTo K (by omega)]) (show n < F by omega)
    rw [wI_0] at h
    exact h
  have h := up_loop0 (fun m (i : Int32) (s : Int32 × zST) => m_X8_sorts_5 F m 46 (nI k) kind s.1 i s.2) n (fun i => (nI (maxTo (rk K n) i), wI σ 54 i (fun v => nI (rk K n v)))) (some (nI (ncl K n), wI (wI σ 54 n (fun v => nI (rk K n v))) 53 n (fun v => nI (rk K n v))))
    (fun m i hi => by
      have f : Fr (fun p _ => p = 54) σ (wI σ 54 i (fun v => nI (rk K n v))) := Fr.wI (by intros; rfl)
      have e0 : gI (wI σ 54 i (fun v => nI (rk K n v))) (46 + 1) k = nI n := by rw [gI_wI, if_neg (by omega), hn]
      show m_X8_sorts_5 F (m + 1) 46 (nI k) kind _ (nI i) _ = m_X8_sorts_5 F m 46 (nI k) kind (nI (maxTo (rk K n) (i + 1))) (nI (i + 1)) (wI σ 54 (i + 1) (fun v => nI (rk K n v)))
      rw [m_X8_sorts_5]; dsimp only
      rw [ldI_at hk (by omega), e0, if_neg (nI_ge hi (by omega)), sorts_mid F hF hk h8 hK f hn _ hi _ (maxTo_lt (fun j hj => hrk j (by omega)) (by omega)), ← wI_s, maxTo])
    (fun m => by
      have e0 : gI (wI σ 54 n (fun v => nI (rk K n v))) (46 + 1) k = nI n := by rw [gI_wI, if_neg (by omega), hn]
      show m_X8_sorts_5 F (m + 1) 46 (nI k) kind (nI (maxTo (rk K n) n)) (nI n) (wI σ 54 n (fun v => nI (rk K n v))) = _
      rw [m_X8_sorts_5]; dsimp only
      rw [ldI_at hk (by omega), e0, if_pos (nI_le (by omega) (by omega)), hlast]) (show n < F by omega)
  rw [wI_0] at h
  exact h
end
