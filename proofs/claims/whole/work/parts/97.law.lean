/-! MATHEMATICS, 61: the law, call by call -/
section
theorem ldL0 {β : Type} (σ : zST) (k : Int64 → Option β) : ldL σ 60 1 0 k = k (gL σ 60 0) := by
  rw [l0, ldL_at (by omega) (by omega)]
theorem cmp_same (x : Int64) : lg_cmp x x = 0 := (lg_cmp_eq x x).mpr rfl
theorem ix1 (a : Nat) : nI a + 1 = nI (a + 1) := nI_1 a
theorem ix2 (a : Nat) : nI a + 2 = nI (a + 2) := by rw [l2, nI_add]
theorem ix3 (a : Nat) : nI a + 3 = nI (a + 3) := by rw [l3, nI_add]
theorem ix4 (a : Nat) : nI a + 4 = nI (a + 4) := by rw [l4, nI_add]
theorem thrown_eq (F : Nat) (σ : zST) : m_X8_thrown F 46 σ = some (gI σ 46 16, σ) := rfl
theorem toggle_01 (F : Nat) (x y z : Int32) (σ : zST) {r : Int32} {τ : zST} (h : m_X8_toggle F 46 x y z σ = some (r, τ)) : r = 0 ∨ r = 1 := by
  have h18 : ∀ t u s, m_X8_toggle_18 F 46 x y z t u 46 s = some (r, τ) → r = 0 ∨ r = 1 := by
    intro t u s h
    unfold m_X8_toggle_18 at h
    obtain ⟨a, s1, _, h1⟩ := bd_ok h
    by_cases e : a = 0
    · rw [if_pos e] at h1
      left; exact (Prod.mk.inj (Option.some.inj h1)).1.symm
    · rw [if_neg e] at h1
      obtain ⟨_, x1, _, h2⟩ := ldI_get h1
      obtain ⟨_, s2, _, h3⟩ := stI_get h2
      obtain ⟨_, x2, _, h4⟩ := ldI_get h3
      obtain ⟨_, s3, _, h5⟩ := stI_get h4
      obtain ⟨a2, s4, _, h6⟩ := bd_ok h5
      obtain ⟨h7, h8⟩ := gd_some h6
      rw [← (Prod.mk.inj (Option.some.inj h8)).1]
      exact h7
  unfold m_X8_toggle at h
  obtain ⟨a, s1, _, h1⟩ := bd_ok h
  by_cases e : y = z
  · rw [if_pos e] at h1; exact h18 _ _ _ h1
  · rw [if_neg e] at h1; exact h18 _ _ _ h1
theorem isIn_01 (F : Nat) (x : Int64) (σ : zST) {r : Int32} {τ : zST} (h : m_X8_isInGroup F 46 x σ = some (r, τ)) : r = 0 ∨ r = 1 := by
  have h13 : ∀ t s, m_X8_isInGroup_13 F 46 x t 46 s = some (r, τ) → r = 0 ∨ r = 1 := by
    intro t s h
    unfold m_X8_isInGroup_13 at h
    rw [nm_eq] at h
    by_cases e : gI (sI s 46 16 t) 46 16 ≤ 0
    · rw [if_pos e] at h
      obtain ⟨s1, _, h1⟩ := bv_ok h
      obtain ⟨a, s2, _, h2⟩ := bd_ok h1
      obtain ⟨_, x2, _, h3⟩ := ldI_get h2
      obtain ⟨h7, h8⟩ := gd_some h3
      rw [← (Prod.mk.inj (Option.some.inj h8)).1]
      exact h7
    · rw [if_neg e] at h
      left; exact (Prod.mk.inj (Option.some.inj h)).1.symm
  unfold m_X8_isInGroup at h
  obtain ⟨a, s1, _, h1⟩ := bd_ok h
  by_cases e : a = 0
  · rw [if_pos e] at h1; exact h13 _ _ h1
  · rw [if_neg e] at h1; exact h13 _ _ h1
/-- one call: both sides agree, the law goes on -/
def LStp (k : Nat → Nat → Nat → Int32 → zST → Option (Int32 × zST)) (i : Nat) (o : Option (Int32 × zST)) : Prop := ∃ τ, GJ GQ τ ∧ o = k 0 46 60 (nI (4 * i + 4)) τ
theorem st_160 {F L : Nat} (hF : 16777300 < F) (hL : L ≤ 2048) (xs : Nat → Int32) (k : Nat → Nat → Nat → Int32 → zST → Option (Int32 × zST)) {i : Nat} (hi : 4 * i + 4 ≤ L) {σ : zST} (h : GJ GQ σ) : LStp k i (m_L_law_160 F L xs k 0 46 60 (nI (4 * i)) σ) := by
  obtain ⟨c, s1, r, s2, e1, e2, e3, e4, e5⟩ := op_begin GQ.nb F (by omega) (xs (4 * i + 1)) (xs (4 * i + 2)) σ h
  refine ⟨s2, e5, ?_⟩
  unfold m_L_law_160 m_L_law_225 m_L_law_1834
  rw [ix1, ix2, ldT_at (show 4 * i + 1 < L by omega) (by omega), ldT_at (show 4 * i + 2 < L by omega) (by omega), e1, bd_some, ldT_at (show 4 * i + 1 < L by omega) (by omega), ldT_at (show 4 * i + 2 < L by omega) (by omega), e2, bd_some, thrown_eq, bd_some, e3, if_pos rfl]
  by_cases hc : c = 0
  · rw [if_pos hc, ldL0, e4 hc, cmp_same, if_pos rfl, nm_eq, ix4]
  · rw [if_neg hc, nm_eq, ix4]
theorem st_228 {F L : Nat} (hF : 16777300 < F) (hL : L ≤ 2048) (xs : Nat → Int32) (k : Nat → Nat → Nat → Int32 → zST → Option (Int32 × zST)) {i : Nat} (hi : 4 * i + 4 ≤ L) {σ : zST} (h : GJ GQ σ) : LStp k i (m_L_law_228 F L xs k 0 46 60 (nI (4 * i)) σ) := by
  obtain ⟨c, s1, r, s2, e1, e2, e3, e4, e5⟩ := op_toggle GQ.nb F (xs (4 * i + 1)) (xs (4 * i + 2)) (xs (4 * i + 3)) σ h
  refine ⟨s2, e5, ?_⟩
  have h01 := toggle_01 _ _ _ _ _ e2
  unfold m_L_law_228 m_L_law_306 m_L_law_312 m_L_law_1834
  rw [ix1, ix2, ix3, ldT_at (show 4 * i + 1 < L by omega) (by omega), ldT_at (show 4 * i + 2 < L by omega) (by omega), ldT_at (show 4 * i + 3 < L by omega) (by omega), e1, bd_some, ldT_at (show 4 * i + 1 < L by omega) (by omega), ldT_at (show 4 * i + 2 < L by omega) (by omega), ldT_at (show 4 * i + 3 < L by omega) (by omega), e2, bd_some, thrown_eq, bd_some, e3, if_pos rfl]
  by_cases hc : c = 0
  · rw [if_pos hc, ldL0, e4 hc]
    rcases h01 with rfl | rfl
    · rw [if_pos rfl, show (0 : Int32).toInt64 = 0 from rfl, cmp_same, if_pos rfl, nm_eq, ix4]
    · rw [if_neg n10, show (1 : Int32).toInt64 = 1 from rfl, cmp_same, if_pos rfl, nm_eq, ix4]
  · rw [if_neg hc, nm_eq, ix4]
theorem st_315 {F L : Nat} (hF : 16777300 < F) (hL : L ≤ 2048) (xs : Nat → Int32) (k : Nat → Nat → Nat → Int32 → zST → Option (Int32 × zST)) {i : Nat} (hi : 4 * i + 4 ≤ L) {σ : zST} (h : GJ GQ σ) : LStp k i (m_L_law_315 F L xs k 0 46 60 (nI (4 * i)) σ) := by
  obtain ⟨c, s1, r, s2, e1, e2, e3, e4, e5⟩ := op_setColour GQ.nb F (xs (4 * i + 1)) (xs (4 * i + 2)) (xs (4 * i + 3)) σ h
  refine ⟨s2, e5, ?_⟩
  unfold m_L_law_315 m_L_law_392 m_L_law_1834
  rw [ix1, ix2, ix3, ldT_at (show 4 * i + 1 < L by omega) (by omega), ldT_at (show 4 * i + 2 < L by omega) (by omega), ldT_at (show 4 * i + 3 < L by omega) (by omega), e1, bd_some, ldT_at (show 4 * i + 1 < L by omega) (by omega), ldT_at (show 4 * i + 2 < L by omega) (by omega), ldT_at (show 4 * i + 3 < L by omega) (by omega), e2, bd_some, thrown_eq, bd_some, e3, if_pos rfl]
  by_cases hc : c = 0
  · rw [if_pos hc, ldL0, e4 hc, cmp_same, if_pos rfl, nm_eq, ix4]
  · rw [if_neg hc, nm_eq, ix4]
theorem st_395 {F L : Nat} (hF : 16777300 < F) (hL : L ≤ 2048) (xs : Nat → Int32) (k : Nat → Nat → Nat → Int32 → zST → Option (Int32 × zST)) {i : Nat} (hi : 4 * i + 4 ≤ L) {σ : zST} (h : GJ GQ σ) : LStp k i (m_L_law_395 F L xs k 0 46 60 (nI (4 * i)) σ) := by
  obtain ⟨c, s1, s2, e1, e2, e3, e5⟩ := op_swap GQ.nb F (by omega) (xs (4 * i + 1)) (xs (4 * i + 2)) (xs (4 * i + 3)) σ h
  refine ⟨s2, e5, ?_⟩
  unfold m_L_law_395 m_L_law_1834
  rw [ix1, ix2, ix3, ldT_at (show 4 * i + 1 < L by omega) (by omega), ldT_at (show 4 * i + 2 < L by omega) (by omega), ldT_at (show 4 * i + 3 < L by omega) (by omega), e1, bd_some, ldT_at (show 4 * i + 1 < L by omega) (by omega), ldT_at (show 4 * i + 2 < L by omega) (by omega), ldT_at (show 4 * i + 3 < L by omega) (by omega), e2, bv_some, thrown_eq, bd_some, e3, if_pos rfl, nm_eq, ix4]
theorem st_455 {F L : Nat} (hF : 16777300 < F) (hL : L ≤ 2048) (xs : Nat → Int32) (k : Nat → Nat → Nat → Int32 → zST → Option (Int32 × zST)) {i : Nat} (hi : 4 * i + 4 ≤ L) {σ : zST} (h : GJ GQ σ) : LStp k i (m_L_law_455 F L xs k 0 46 60 (nI (4 * i)) σ) := by
  obtain ⟨c, s1, s2, e1, e2, e3, e5⟩ := op_copy GQ.nb F (by omega) (xs (4 * i + 1)) (xs (4 * i + 2)) σ h
  refine ⟨s2, e5, ?_⟩
  unfold m_L_law_455 m_L_law_1834
  rw [ix1, ix2, ldT_at (show 4 * i + 1 < L by omega) (by omega), ldT_at (show 4 * i + 2 < L by omega) (by omega), e1, bd_some, ldT_at (show 4 * i + 1 < L by omega) (by omega), ldT_at (show 4 * i + 2 < L by omega) (by omega), e2, bv_some, thrown_eq, bd_some, e3, if_pos rfl, nm_eq, ix4]
theorem st_503 {F L : Nat} (hF : 16777300 < F) (hL : L ≤ 2048) (xs : Nat → Int32) (k : Nat → Nat → Nat → Int32 → zST → Option (Int32 × zST)) {i : Nat} (hi : 4 * i + 4 ≤ L) {σ : zST} (h : GJ GQ σ) : LStp k i (m_L_law_503 F L xs k 0 46 60 (nI (4 * i)) σ) := by
  obtain ⟨c, s1, r, s2, e1, e2, e3, e4, e5⟩ := op_complement GQ.nb F (by omega) (xs (4 * i + 1)) σ h
  refine ⟨s2, e5, ?_⟩
  unfold m_L_law_503 m_L_law_556 m_L_law_1834
  rw [ix1, ldT_at (show 4 * i + 1 < L by omega) (by omega), e1, bd_some, ldT_at (show 4 * i + 1 < L by omega) (by omega), e2, bd_some, thrown_eq, bd_some, e3, if_pos rfl]
  by_cases hc : c = 0
  · rw [if_pos hc, ldL0, e4 hc, cmp_same, if_pos rfl, nm_eq, ix4]
  · rw [if_neg hc, nm_eq, ix4]
theorem st_559 {F L : Nat} (hF : 16777300 < F) (hL : L ≤ 2048) (xs : Nat → Int32) (k : Nat → Nat → Nat → Int32 → zST → Option (Int32 × zST)) {i : Nat} (hi : 4 * i + 4 ≤ L) {σ : zST} (h : GJ GQ σ) : LStp k i (m_L_law_559 F L xs k 0 46 60 (nI (4 * i)) σ) := by
  obtain ⟨c, s1, r, s2, e1, e2, e3, e4, e5⟩ := op_size GQ.nb F (xs (4 * i + 1)) σ h
  refine ⟨s2, e5, ?_⟩
  unfold m_L_law_559 m_L_law_612 m_L_law_1834
  rw [ix1, ldT_at (show 4 * i + 1 < L by omega) (by omega), e1, bd_some, ldT_at (show 4 * i + 1 < L by omega) (by omega), e2, bd_some, thrown_eq, bd_some, e3, if_pos rfl]
  by_cases hc : c = 0
  · rw [if_pos hc, ldL0, e4 hc, cmp_same, if_pos rfl, nm_eq, ix4]
  · rw [if_neg hc, nm_eq, ix4]
theorem st_615 {F L : Nat} (hF : 16777300 < F) (hL : L ≤ 2048) (xs : Nat → Int32) (k : Nat → Nat → Nat → Int32 → zST → Option (Int32 × zST)) {i : Nat} (hi : 4 * i + 4 ≤ L) {σ : zST} (h : GJ GQ σ) : LStp k i (m_L_law_615 F L xs k 0 46 60 (nI (4 * i)) σ) := by
  obtain ⟨c, s1, r, s2, e1, e2, e3, e4, e5⟩ := op_edges GQ.nb F (by omega) (xs (4 * i + 1)) σ h
  refine ⟨s2, e5, ?_⟩
  unfold m_L_law_615 m_L_law_668 m_L_law_1834
  rw [ix1, ldT_at (show 4 * i + 1 < L by omega) (by omega), e1, bd_some, ldT_at (show 4 * i + 1 < L by omega) (by omega), e2, bd_some, thrown_eq, bd_some, e3, if_pos rfl]
  by_cases hc : c = 0
  · rw [if_pos hc, ldL0, e4 hc, cmp_same, if_pos rfl, nm_eq, ix4]
  · rw [if_neg hc, nm_eq, ix4]
theorem st_671 {F L : Nat} (hF : 16777300 < F) (hL : L ≤ 2048) (xs : Nat → Int32) (k : Nat → Nat → Nat → Int32 → zST → Option (Int32 × zST)) {i : Nat} (hi : 4 * i + 4 ≤ L) {σ : zST} (h : GJ GQ σ) : LStp k i (m_L_law_671 F L xs k 0 46 60 (nI (4 * i)) σ) := by
  obtain ⟨c, s1, r, s2, e1, e2, e3, e4, e5⟩ := op_neighbours GQ.nb F (xs (4 * i + 1)) (xs (4 * i + 2)) σ h
  refine ⟨s2, e5, ?_⟩
  unfold m_L_law_671 m_L_law_736 m_L_law_1834
  rw [ix1, ix2, ldT_at (show 4 * i + 1 < L by omega) (by omega), ldT_at (show 4 * i + 2 < L by omega) (by omega), e1, bd_some, ldT_at (show 4 * i + 1 < L by omega) (by omega), ldT_at (show 4 * i + 2 < L by omega) (by omega), e2, bd_some, thrown_eq, bd_some, e3, if_pos rfl]
  by_cases hc : c = 0
  · rw [if_pos hc, ldL0, e4 hc, cmp_same, if_pos rfl, nm_eq, ix4]
  · rw [if_neg hc, nm_eq, ix4]
theorem st_739 {F L : Nat} (hF : 16777300 < F) (hL : L ≤ 2048) (xs : Nat → Int32) (k : Nat → Nat → Nat → Int32 → zST → Option (Int32 × zST)) {i : Nat} (hi : 4 * i + 4 ≤ L) {σ : zST} (h : GJ GQ σ) : LStp k i (m_L_law_739 F L xs k 0 46 60 (nI (4 * i)) σ) := by
  obtain ⟨c, s1, r, s2, e1, e2, e3, e4, e5⟩ := op_colour GQ.nb F (xs (4 * i + 1)) (xs (4 * i + 2)) σ h
  refine ⟨s2, e5, ?_⟩
  unfold m_L_law_739 m_L_law_804 m_L_law_1834
  rw [ix1, ix2, ldT_at (show 4 * i + 1 < L by omega) (by omega), ldT_at (show 4 * i + 2 < L by omega) (by omega), e1, bd_some, ldT_at (show 4 * i + 1 < L by omega) (by omega), ldT_at (show 4 * i + 2 < L by omega) (by omega), e2, bd_some, thrown_eq, bd_some, e3, if_pos rfl]
  by_cases hc : c = 0
  · rw [if_pos hc, ldL0, e4 hc, cmp_same, if_pos rfl, nm_eq, ix4]
  · rw [if_neg hc, nm_eq, ix4]
theorem st_807 {F L : Nat} (hF : 16777300 < F) (hL : L ≤ 2048) (xs : Nat → Int32) (k : Nat → Nat → Nat → Int32 → zST → Option (Int32 × zST)) {i : Nat} (hi : 4 * i + 4 ≤ L) {σ : zST} (h : GJ GQ σ) : LStp k i (m_L_law_807 F L xs k 0 46 60 (nI (4 * i)) σ) := by
  obtain ⟨c, s1, r, s2, e1, e2, e3, e4, e5⟩ := op_classes GQ.nb F (by omega) (xs (4 * i + 1)) σ h
  refine ⟨s2, e5, ?_⟩
  unfold m_L_law_807 m_L_law_860 m_L_law_1834
  rw [ix1, ldT_at (show 4 * i + 1 < L by omega) (by omega), e1, bd_some, ldT_at (show 4 * i + 1 < L by omega) (by omega), e2, bd_some, thrown_eq, bd_some, e3, if_pos rfl]
  by_cases hc : c = 0
  · rw [if_pos hc, ldL0, e4 hc, cmp_same, if_pos rfl, nm_eq, ix4]
  · rw [if_neg hc, nm_eq, ix4]
theorem st_863 {F L : Nat} (hF : 16777300 < F) (hL : L ≤ 2048) (xs : Nat → Int32) (k : Nat → Nat → Nat → Int32 → zST → Option (Int32 × zST)) {i : Nat} (hi : 4 * i + 4 ≤ L) {σ : zST} (h : GJ GQ σ) : LStp k i (m_L_law_863 F L xs k 0 46 60 (nI (4 * i)) σ) := by
  obtain ⟨c, s1, r, s2, e1, e2, e3, e4, e5⟩ := op_classOf GQ.nb F (by omega) (xs (4 * i + 1)) (xs (4 * i + 2)) σ h
  refine ⟨s2, e5, ?_⟩
  unfold m_L_law_863 m_L_law_928 m_L_law_1834
  rw [ix1, ix2, ldT_at (show 4 * i + 1 < L by omega) (by omega), ldT_at (show 4 * i + 2 < L by omega) (by omega), e1, bd_some, ldT_at (show 4 * i + 1 < L by omega) (by omega), ldT_at (show 4 * i + 2 < L by omega) (by omega), e2, bd_some, thrown_eq, bd_some, e3, if_pos rfl]
  by_cases hc : c = 0
  · rw [if_pos hc, ldL0, e4 hc, cmp_same, if_pos rfl, nm_eq, ix4]
  · rw [if_neg hc, nm_eq, ix4]
theorem st_931 {F L : Nat} (hF : 16777300 < F) (hL : L ≤ 2048) (xs : Nat → Int32) (k : Nat → Nat → Nat → Int32 → zST → Option (Int32 × zST)) {i : Nat} (hi : 4 * i + 4 ≤ L) {σ : zST} (h : GJ GQ σ) : LStp k i (m_L_law_931 F L xs k 0 46 60 (nI (4 * i)) σ) := by
  obtain ⟨c, s1, r, s2, e1, e2, e3, e4, e5⟩ := op_rounds GQ.nb F (by omega) (xs (4 * i + 1)) σ h
  refine ⟨s2, e5, ?_⟩
  unfold m_L_law_931 m_L_law_984 m_L_law_1834
  rw [ix1, ldT_at (show 4 * i + 1 < L by omega) (by omega), e1, bd_some, ldT_at (show 4 * i + 1 < L by omega) (by omega), e2, bd_some, thrown_eq, bd_some, e3, if_pos rfl]
  by_cases hc : c = 0
  · rw [if_pos hc, ldL0, e4 hc, cmp_same, if_pos rfl, nm_eq, ix4]
  · rw [if_neg hc, nm_eq, ix4]
theorem st_987 {F L : Nat} (hF : 16777300 < F) (hL : L ≤ 2048) (xs : Nat → Int32) (k : Nat → Nat → Nat → Int32 → zST → Option (Int32 × zST)) {i : Nat} (hi : 4 * i + 4 ≤ L) {σ : zST} (h : GJ GQ σ) : LStp k i (m_L_law_987 F L xs k 0 46 60 (nI (4 * i)) σ) := by
  obtain ⟨c, s1, r, s2, e1, e2, e3, e4, e5⟩ := op_form GQ.nb F (by omega) (xs (4 * i + 1)) σ h
  refine ⟨s2, e5, ?_⟩
  unfold m_L_law_987 m_L_law_1039 m_L_law_1834
  rw [ix1, ldT_at (show 4 * i + 1 < L by omega) (by omega), e1, bd_some, ldT_at (show 4 * i + 1 < L by omega) (by omega), e2, bd_some, thrown_eq, bd_some, e3, if_pos rfl]
  by_cases hc : c = 0
  · rw [if_pos hc, ldL0, e4 hc, cmp_same, if_pos rfl, nm_eq, ix4]
  · rw [if_neg hc, nm_eq, ix4]
theorem st_1042 {F L : Nat} (hF : 16777300 < F) (hL : L ≤ 2048) (xs : Nat → Int32) (k : Nat → Nat → Nat → Int32 → zST → Option (Int32 × zST)) {i : Nat} (hi : 4 * i + 4 ≤ L) {σ : zST} (h : GJ GQ σ) : LStp k i (m_L_law_1042 F L xs k 0 46 60 (nI (4 * i)) σ) := by
  obtain ⟨c, s1, r, s2, e1, e2, e3, e4, e5⟩ := op_placeOf GQ.nb F (by omega) (xs (4 * i + 1)) (xs (4 * i + 2)) σ h
  refine ⟨s2, e5, ?_⟩
  unfold m_L_law_1042 m_L_law_1107 m_L_law_1834
  rw [ix1, ix2, ldT_at (show 4 * i + 1 < L by omega) (by omega), ldT_at (show 4 * i + 2 < L by omega) (by omega), e1, bd_some, ldT_at (show 4 * i + 1 < L by omega) (by omega), ldT_at (show 4 * i + 2 < L by omega) (by omega), e2, bd_some, thrown_eq, bd_some, e3, if_pos rfl]
  by_cases hc : c = 0
  · rw [if_pos hc, ldL0, e4 hc, cmp_same, if_pos rfl, nm_eq, ix4]
  · rw [if_neg hc, nm_eq, ix4]
theorem st_1110 {F L : Nat} (hF : 16777300 < F) (hL : L ≤ 2048) (xs : Nat → Int32) (k : Nat → Nat → Nat → Int32 → zST → Option (Int32 × zST)) {i : Nat} (hi : 4 * i + 4 ≤ L) {σ : zST} (h : GJ GQ σ) : LStp k i (m_L_law_1110 F L xs k 0 46 60 (nI (4 * i)) σ) := by
  obtain ⟨c, s1, r, s2, e1, e2, e3, e4, e5⟩ := op_areAlike GQ.nb F (by omega) (xs (4 * i + 1)) (xs (4 * i + 2)) σ h
  refine ⟨s2, e5, ?_⟩
  have h01 := areAlike_01 _ _ _ _ e2
  unfold m_L_law_1110 m_L_law_1176 m_L_law_1182 m_L_law_1834
  rw [ix1, ix2, ldT_at (show 4 * i + 1 < L by omega) (by omega), ldT_at (show 4 * i + 2 < L by omega) (by omega), e1, bd_some, ldT_at (show 4 * i + 1 < L by omega) (by omega), ldT_at (show 4 * i + 2 < L by omega) (by omega), e2, bd_some, thrown_eq, bd_some, e3, if_pos rfl]
  by_cases hc : c = 0
  · rw [if_pos hc, ldL0, e4 hc]
    rcases h01 with rfl | rfl
    · rw [if_pos rfl, show (0 : Int32).toInt64 = 0 from rfl, cmp_same, if_pos rfl, nm_eq, ix4]
    · rw [if_neg n10, show (1 : Int32).toInt64 = 1 from rfl, cmp_same, if_pos rfl, nm_eq, ix4]
  · rw [if_neg hc, nm_eq, ix4]
theorem st_1185 {F L : Nat} (hF : 16777300 < F) (hL : L ≤ 2048) (xs : Nat → Int32) (k : Nat → Nat → Nat → Int32 → zST → Option (Int32 × zST)) {i : Nat} (hi : 4 * i + 4 ≤ L) {σ : zST} (h : GJ GQ σ) : LStp k i (m_L_law_1185 F L xs k 0 46 60 (nI (4 * i)) σ) := by
  obtain ⟨c, s1, r, s2, e1, e2, e3, e4, e5⟩ := op_image GQ.nb F (by omega) (xs (4 * i + 1)) (xs (4 * i + 2)) (xs (4 * i + 3)) σ h
  refine ⟨s2, e5, ?_⟩
  unfold m_L_law_1185 m_L_law_1262 m_L_law_1834
  rw [ix1, ix2, ix3, ldT_at (show 4 * i + 1 < L by omega) (by omega), ldT_at (show 4 * i + 2 < L by omega) (by omega), ldT_at (show 4 * i + 3 < L by omega) (by omega), e1, bd_some, ldT_at (show 4 * i + 1 < L by omega) (by omega), ldT_at (show 4 * i + 2 < L by omega) (by omega), ldT_at (show 4 * i + 3 < L by omega) (by omega), e2, bd_some, thrown_eq, bd_some, e3, if_pos rfl]
  by_cases hc : c = 0
  · rw [if_pos hc, ldL0, e4 hc, cmp_same, if_pos rfl, nm_eq, ix4]
  · rw [if_neg hc, nm_eq, ix4]
theorem st_1265 {F L : Nat} (hF : 16777300 < F) (hL : L ≤ 2048) (xs : Nat → Int32) (k : Nat → Nat → Nat → Int32 → zST → Option (Int32 × zST)) {i : Nat} (hi : 4 * i + 4 ≤ L) {σ : zST} (h : GJ GQ σ) : LStp k i (m_L_law_1265 F L xs k 0 46 60 (nI (4 * i)) σ) := by
  obtain ⟨c, s1, r, s2, e1, e2, e3, e4, e5⟩ := op_copies GQ.nb F (by omega) (xs (4 * i + 1)) (xs (4 * i + 2)) σ h
  refine ⟨s2, e5, ?_⟩
  unfold m_L_law_1265 m_L_law_1330 m_L_law_1834
  rw [ix1, ix2, ldT_at (show 4 * i + 1 < L by omega) (by omega), ldT_at (show 4 * i + 2 < L by omega) (by omega), e1, bd_some, ldT_at (show 4 * i + 1 < L by omega) (by omega), ldT_at (show 4 * i + 2 < L by omega) (by omega), e2, bd_some, thrown_eq, bd_some, e3, if_pos rfl]
  by_cases hc : c = 0
  · rw [if_pos hc, ldL0, e4 hc, cmp_same, if_pos rfl, nm_eq, ix4]
  · rw [if_neg hc, nm_eq, ix4]
theorem st_1333 {F L : Nat} (hF : 16777300 < F) (hL : L ≤ 2048) (xs : Nat → Int32) (k : Nat → Nat → Nat → Int32 → zST → Option (Int32 × zST)) {i : Nat} (hi : 4 * i + 4 ≤ L) {σ : zST} (h : GJ GQ σ) : LStp k i (m_L_law_1333 F L xs k 0 46 60 (nI (4 * i)) σ) := by
  obtain ⟨c, s1, r, s2, e1, e2, e3, e4, e5⟩ := op_symmetries GQ.nb F (by omega) (xs (4 * i + 1)) σ h
  refine ⟨s2, e5, ?_⟩
  unfold m_L_law_1333 m_L_law_1386 m_L_law_1834
  rw [ix1, ldT_at (show 4 * i + 1 < L by omega) (by omega), e1, bd_some, ldT_at (show 4 * i + 1 < L by omega) (by omega), e2, bd_some, thrown_eq, bd_some, e3, if_pos rfl]
  by_cases hc : c = 0
  · rw [if_pos hc, ldL0, e4 hc, cmp_same, if_pos rfl, nm_eq, ix4]
  · rw [if_neg hc, nm_eq, ix4]
theorem st_1389 {F L : Nat} (hF : 16777300 < F) (hL : L ≤ 2048) (xs : Nat → Int32) (k : Nat → Nat → Nat → Int32 → zST → Option (Int32 × zST)) {i : Nat} (hi : 4 * i + 4 ≤ L) {σ : zST} (h : GJ GQ σ) : LStp k i (m_L_law_1389 F L xs k 0 46 60 (nI (4 * i)) σ) := by
  obtain ⟨c, s1, r, s2, e1, e2, e3, e4, e5⟩ := op_orbits GQ.nb F (by omega) (xs (4 * i + 1)) σ h
  refine ⟨s2, e5, ?_⟩
  unfold m_L_law_1389 m_L_law_1442 m_L_law_1834
  rw [ix1, ldT_at (show 4 * i + 1 < L by omega) (by omega), e1, bd_some, ldT_at (show 4 * i + 1 < L by omega) (by omega), e2, bd_some, thrown_eq, bd_some, e3, if_pos rfl]
  by_cases hc : c = 0
  · rw [if_pos hc, ldL0, e4 hc, cmp_same, if_pos rfl, nm_eq, ix4]
  · rw [if_neg hc, nm_eq, ix4]
theorem st_1445 {F L : Nat} (hF : 16777300 < F) (hL : L ≤ 2048) (xs : Nat → Int32) (k : Nat → Nat → Nat → Int32 → zST → Option (Int32 × zST)) {i : Nat} (hi : 4 * i + 4 ≤ L) {σ : zST} (h : GJ GQ σ) : LStp k i (m_L_law_1445 F L xs k 0 46 60 (nI (4 * i)) σ) := by
  obtain ⟨c, s1, r, s2, e1, e2, e3, e4, e5⟩ := op_orbit GQ.nb F (by omega) (xs (4 * i + 1)) (xs (4 * i + 2)) σ h
  refine ⟨s2, e5, ?_⟩
  unfold m_L_law_1445 m_L_law_1510 m_L_law_1834
  rw [ix1, ix2, ldT_at (show 4 * i + 1 < L by omega) (by omega), ldT_at (show 4 * i + 2 < L by omega) (by omega), e1, bd_some, ldT_at (show 4 * i + 1 < L by omega) (by omega), ldT_at (show 4 * i + 2 < L by omega) (by omega), e2, bd_some, thrown_eq, bd_some, e3, if_pos rfl]
  by_cases hc : c = 0
  · rw [if_pos hc, ldL0, e4 hc, cmp_same, if_pos rfl, nm_eq, ix4]
  · rw [if_neg hc, nm_eq, ix4]
theorem st_1513 {F L : Nat} (hF : 16777300 < F) (hL : L ≤ 2048) (xs : Nat → Int32) (k : Nat → Nat → Nat → Int32 → zST → Option (Int32 × zST)) {i : Nat} (hi : 4 * i + 4 ≤ L) {σ : zST} (h : GJ GQ σ) : LStp k i (m_L_law_1513 F L xs k 0 46 60 (nI (4 * i)) σ) := by
  obtain ⟨c, s1, r, s2, e1, e2, e3, e4, e5⟩ := op_addG F (by omega) ((jlshl ((xs (4 * i + 1)).toInt64) 32) ||| (((xs (4 * i + 2)).toInt64) &&& 4294967295)) σ h
  refine ⟨s2, e5, ?_⟩
  unfold m_L_law_1513 m_L_law_1598 m_L_law_1834
  rw [ix1, ix2, ldT_at (show 4 * i + 1 < L by omega) (by omega), ldT_at (show 4 * i + 2 < L by omega) (by omega), e1, bd_some, ldT_at (show 4 * i + 1 < L by omega) (by omega), ldT_at (show 4 * i + 2 < L by omega) (by omega), e2, bd_some, thrown_eq, bd_some, e3, if_pos rfl]
  by_cases hc : c = 0
  · rw [if_pos hc, ldL0, e4 hc, cmp_same, if_pos rfl, nm_eq, ix4]
  · rw [if_neg hc, nm_eq, ix4]
theorem st_1601 {F L : Nat} (hF : 16777300 < F) (hL : L ≤ 2048) (xs : Nat → Int32) (k : Nat → Nat → Nat → Int32 → zST → Option (Int32 × zST)) {i : Nat} (hi : 4 * i + 4 ≤ L) {σ : zST} (h : GJ GQ σ) : LStp k i (m_L_law_1601 F L xs k 0 46 60 (nI (4 * i)) σ) := by
  obtain ⟨x, s1, s2, e1, e2, e5⟩ := op_forget F (by omega) h
  refine ⟨s2, e5, ?_⟩
  unfold m_L_law_1601 m_L_law_1834
  rw [e1, bd_some, e2, bd_some, if_pos rfl, nm_eq, ix4]
theorem st_1614 {F L : Nat} (hF : 16777300 < F) (hL : L ≤ 2048) (xs : Nat → Int32) (k : Nat → Nat → Nat → Int32 → zST → Option (Int32 × zST)) {i : Nat} (hi : 4 * i + 4 ≤ L) {σ : zST} (h : GJ GQ σ) : LStp k i (m_L_law_1614 F L xs k 0 46 60 (nI (4 * i)) σ) := by
  obtain ⟨x, s1, s2, e1, e2, e5⟩ := op_order F h
  refine ⟨s2, e5, ?_⟩
  unfold m_L_law_1614 m_L_law_1834
  rw [e1, bd_some, e2, bd_some, if_pos rfl, nm_eq, ix4]
theorem st_1627 {F L : Nat} (hF : 16777300 < F) (hL : L ≤ 2048) (xs : Nat → Int32) (k : Nat → Nat → Nat → Int32 → zST → Option (Int32 × zST)) {i : Nat} (hi : 4 * i + 4 ≤ L) {σ : zST} (h : GJ GQ σ) : LStp k i (m_L_law_1627 F L xs k 0 46 60 (nI (4 * i)) σ) := by
  obtain ⟨c, s1, r, s2, e1, e2, e3, e4, e5⟩ := op_isIn F (by omega) ((jlshl ((xs (4 * i + 1)).toInt64) 32) ||| (((xs (4 * i + 2)).toInt64) &&& 4294967295)) σ h
  refine ⟨s2, e5, ?_⟩
  have h01 := isIn_01 _ _ _ e2
  unfold m_L_law_1627 m_L_law_1713 m_L_law_1719 m_L_law_1834
  rw [ix1, ix2, ldT_at (show 4 * i + 1 < L by omega) (by omega), ldT_at (show 4 * i + 2 < L by omega) (by omega), e1, bd_some, ldT_at (show 4 * i + 1 < L by omega) (by omega), ldT_at (show 4 * i + 2 < L by omega) (by omega), e2, bd_some, thrown_eq, bd_some, e3, if_pos rfl]
  by_cases hc : c = 0
  · rw [if_pos hc, ldL0, e4 hc]
    rcases h01 with rfl | rfl
    · rw [if_pos rfl, show (0 : Int32).toInt64 = 0 from rfl, cmp_same, if_pos rfl, nm_eq, ix4]
    · rw [if_neg n10, show (1 : Int32).toInt64 = 1 from rfl, cmp_same, if_pos rfl, nm_eq, ix4]
  · rw [if_neg hc, nm_eq, ix4]
theorem st_1722 {F L : Nat} (hF : 16777300 < F) (hL : L ≤ 2048) (xs : Nat → Int32) (k : Nat → Nat → Nat → Int32 → zST → Option (Int32 × zST)) {i : Nat} (hi : 4 * i + 4 ≤ L) {σ : zST} (h : GJ GQ σ) : LStp k i (m_L_law_1722 F L xs k 0 46 60 (nI (4 * i)) σ) := by
  obtain ⟨c, s1, r, s2, e1, e2, e3, e4, e5⟩ := op_moves F (by omega) (xs (4 * i + 1)) σ h
  refine ⟨s2, e5, ?_⟩
  unfold m_L_law_1722 m_L_law_1775 m_L_law_1834
  rw [ix1, ldT_at (show 4 * i + 1 < L by omega) (by omega), e1, bd_some, ldT_at (show 4 * i + 1 < L by omega) (by omega), e2, bd_some, thrown_eq, bd_some, e3, if_pos rfl]
  by_cases hc : c = 0
  · rw [if_pos hc, ldL0, e4 hc, cmp_same, if_pos rfl, nm_eq, ix4]
  · rw [if_neg hc, nm_eq, ix4]
theorem st_1778 {F L : Nat} (hF : 16777300 < F) (hL : L ≤ 2048) (xs : Nat → Int32) (k : Nat → Nat → Nat → Int32 → zST → Option (Int32 × zST)) {i : Nat} (hi : 4 * i + 4 ≤ L) {σ : zST} (h : GJ GQ σ) : LStp k i (m_L_law_1778 F L xs k 0 46 60 (nI (4 * i)) σ) := by
  obtain ⟨c, s1, r, s2, e1, e2, e3, e4, e5⟩ := op_fixing F (by omega) (xs (4 * i + 1)) σ h
  refine ⟨s2, e5, ?_⟩
  unfold m_L_law_1778 m_L_law_1831 m_L_law_1834
  rw [ix1, ldT_at (show 4 * i + 1 < L by omega) (by omega), e1, bd_some, ldT_at (show 4 * i + 1 < L by omega) (by omega), e2, bd_some, thrown_eq, bd_some, e3, if_pos rfl]
  by_cases hc : c = 0
  · rw [if_pos hc, ldL0, e4 hc, cmp_same, if_pos rfl, nm_eq, ix4]
  · rw [if_neg hc, nm_eq, ix4]
theorem st_1834 {F L : Nat} (xs : Nat → Int32) (k : Nat → Nat → Nat → Int32 → zST → Option (Int32 × zST)) {i : Nat} {σ : zST} (h : GJ GQ σ) : LStp k i (m_L_law_1834 F L xs k 0 46 60 (nI (4 * i)) σ) := by
  refine ⟨σ, h, ?_⟩
  unfold m_L_law_1834
  rw [nm_eq, ix4]
theorem law_step {F L : Nat} (hF : 16777300 < F) (hL : L ≤ 2048) (xs : Nat → Int32) {n i : Nat} (hi : 4 * i + 4 ≤ L) {σ : zST} (h : GJ GQ σ) : LStp (m_L_law_23 F L xs n) i (m_L_law_23 F L xs (n + 1) 0 46 60 (nI (4 * i)) σ) := by
  rw [m_L_law_23]; dsimp only
  rw [l4, b_sub (show 4 ≤ L by omega), if_neg (nI_nlt (by omega) (by omega)), ldT_at (show 4 * i < L by omega) (by omega), nm_eq]
  generalize xs (4 * i) &&& 31 = y
  by_cases c0 : y = 0
  · rw [if_pos c0]; exact st_160 hF hL xs _ hi h
  rw [if_neg c0]
  by_cases c1 : y = 1
  · rw [if_pos c1]; exact st_228 hF hL xs _ hi h
  rw [if_neg c1]
  by_cases c2 : y = 2
  · rw [if_pos c2]; exact st_315 hF hL xs _ hi h
  rw [if_neg c2]
  by_cases c3 : y = 3
  · rw [if_pos c3]; exact st_395 hF hL xs _ hi h
  rw [if_neg c3]
  by_cases c4 : y = nI 4
  · rw [if_pos c4]; exact st_455 hF hL xs _ hi h
  rw [if_neg c4]
  by_cases c5 : y = 5
  · rw [if_pos c5]; exact st_503 hF hL xs _ hi h
  rw [if_neg c5]
  by_cases c6 : y = 6
  · rw [if_pos c6]; exact st_559 hF hL xs _ hi h
  rw [if_neg c6]
  by_cases c7 : y = 7
  · rw [if_pos c7]; exact st_615 hF hL xs _ hi h
  rw [if_neg c7]
  by_cases c8 : y = 8
  · rw [if_pos c8]; exact st_671 hF hL xs _ hi h
  rw [if_neg c8]
  by_cases c9 : y = 9
  · rw [if_pos c9]; exact st_739 hF hL xs _ hi h
  rw [if_neg c9]
  by_cases c10 : y = 10
  · rw [if_pos c10]; exact st_807 hF hL xs _ hi h
  rw [if_neg c10]
  by_cases c11 : y = 11
  · rw [if_pos c11]; exact st_863 hF hL xs _ hi h
  rw [if_neg c11]
  by_cases c12 : y = 12
  · rw [if_pos c12]; exact st_931 hF hL xs _ hi h
  rw [if_neg c12]
  by_cases c13 : y = 13
  · rw [if_pos c13]; exact st_987 hF hL xs _ hi h
  rw [if_neg c13]
  by_cases c14 : y = 14
  · rw [if_pos c14]; exact st_1042 hF hL xs _ hi h
  rw [if_neg c14]
  by_cases c15 : y = 15
  · rw [if_pos c15]; exact st_1110 hF hL xs _ hi h
  rw [if_neg c15]
  by_cases c16 : y = 16
  · rw [if_pos c16]; exact st_1185 hF hL xs _ hi h
  rw [if_neg c16]
  by_cases c17 : y = 17
  · rw [if_pos c17]; exact st_1265 hF hL xs _ hi h
  rw [if_neg c17]
  by_cases c18 : y = 18
  · rw [if_pos c18]; exact st_1333 hF hL xs _ hi h
  rw [if_neg c18]
  by_cases c19 : y = 19
  · rw [if_pos c19]; exact st_1389 hF hL xs _ hi h
  rw [if_neg c19]
  by_cases c20 : y = 20
  · rw [if_pos c20]; exact st_1445 hF hL xs _ hi h
  rw [if_neg c20]
  by_cases c21 : y = 21
  · rw [if_pos c21]; exact st_1513 hF hL xs _ hi h
  rw [if_neg c21]
  by_cases c22 : y = 22
  · rw [if_pos c22]; exact st_1601 hF hL xs _ hi h
  rw [if_neg c22]
  by_cases c23 : y = 23
  · rw [if_pos c23]; exact st_1614 hF hL xs _ hi h
  rw [if_neg c23]
  by_cases c24 : y = 24
  · rw [if_pos c24]; exact st_1627 hF hL xs _ hi h
  rw [if_neg c24]
  by_cases c25 : y = 25
  · rw [if_pos c25]; exact st_1722 hF hL xs _ hi h
  rw [if_neg c25]
  by_cases c26 : y = 26
  · rw [if_pos c26]; exact st_1778 hF hL xs _ hi h
  rw [if_neg c26]
  exact st_1834 xs _ h
theorem law_loop {F L : Nat} (hF : 16777300 < F) (hL : L ≤ 2048) (xs : Nat → Int32) : ∀ (d i n : Nat) (σ : zST), i + d = 513 → d < n → GJ GQ σ → ∃ τ, m_L_law_23 F L xs n 0 46 60 (nI (4 * i)) σ = some (1, τ) := by
  intro d
  induction d with
  | zero =>
    intro i n σ h1 h2 h
    obtain ⟨n, rfl⟩ : ∃ k, n = k + 1 := ⟨n - 1, by omega⟩
    refine ⟨σ, ?_⟩
    rw [m_L_law_23]; dsimp only
    by_cases z : 4 ≤ L
    · rw [l4, b_sub z, if_pos (nI_lt (by omega) (by omega))]
    · rw [if_pos]
      have : L = 0 ∨ L = 1 ∨ L = 2 ∨ L = 3 := by omega
      have hi : nI (4 * i) = nI 2052 := by rw [show 4 * i = 2052 from by omega]
      rw [hi]
      rcases this with rfl | rfl | rfl | rfl <;> decide +kernel
  | succ d ih =>
    intro i n σ h1 h2 h
    obtain ⟨n, rfl⟩ : ∃ k, n = k + 1 := ⟨n - 1, by omega⟩
    by_cases z : 4 * i + 4 ≤ L
    · obtain ⟨s, h3, e⟩ := law_step hF hL xs (n := n) z h
      obtain ⟨τ, e2⟩ := ih (i + 1) n s (by omega) (by omega) h3
      refine ⟨τ, ?_⟩
      rw [e, show 4 * i + 4 = 4 * (i + 1) from by omega]
      exact e2
    · refine ⟨σ, ?_⟩
      rw [m_L_law_23]; dsimp only
      by_cases z2 : 4 ≤ L
      · rw [l4, b_sub z2, if_pos (nI_lt (by omega) (by omega))]
      · rw [if_pos]
        have h3 : ∀ a : Nat, a < 4 → nI a - 4 < 0 := by decide +kernel
        have h4 : (0 : Int32) ≤ nI (4 * i) := nI_pos' (by omega)
        exact Int32.lt_of_lt_of_le (h3 L (by omega)) h4
end
