-- CanonCoteLaw.bit (II)I
section
theorem dL_bit_0 : decode cL_bit 0 = .ok (.iload_n 0, 1) := by decide +kernel
theorem dL_bit_1 : decode cL_bit 1 = .ok (.iload_n 1, 1) := by decide +kernel
theorem dL_bit_2 : decode cL_bit 2 = .ok (.if_icmp .ge 7, 3) := by decide +kernel
theorem dL_bit_5 : decode cL_bit 5 = .ok (.iload_n 0, 1) := by decide +kernel
theorem dL_bit_6 : decode cL_bit 6 = .ok (.goto 4, 3) := by decide +kernel
theorem dL_bit_9 : decode cL_bit 9 = .ok (.iload_n 1, 1) := by decide +kernel
theorem dL_bit_10 : decode cL_bit 10 = .ok (.istore_n 2, 1) := by decide +kernel
theorem dL_bit_11 : decode cL_bit 11 = .ok (.bipush 27, 2) := by decide +kernel
theorem dL_bit_13 : decode cL_bit 13 = .ok (.istore_n 3, 1) := by decide +kernel
theorem dL_bit_14 : decode cL_bit 14 = .ok (.iconst 0, 1) := by decide +kernel
theorem dL_bit_15 : decode cL_bit 15 = .ok (.istore 4, 2) := by decide +kernel
theorem dL_bit_17 : decode cL_bit 17 = .ok (.iload 4, 2) := by decide +kernel
theorem dL_bit_19 : decode cL_bit 19 = .ok (.iload_n 2, 1) := by decide +kernel
theorem dL_bit_20 : decode cL_bit 20 = .ok (.if_icmp .ge 17, 3) := by decide +kernel
theorem dL_bit_23 : decode cL_bit 23 = .ok (.iload_n 3, 1) := by decide +kernel
theorem dL_bit_24 : decode cL_bit 24 = .ok (.bipush 7, 2) := by decide +kernel
theorem dL_bit_26 : decode cL_bit 26 = .ok (.iload 4, 2) := by decide +kernel
theorem dL_bit_28 : decode cL_bit 28 = .ok (.isub, 1) := by decide +kernel
theorem dL_bit_29 : decode cL_bit 29 = .ok (.isub, 1) := by decide +kernel
theorem dL_bit_30 : decode cL_bit 30 = .ok (.istore_n 3, 1) := by decide +kernel
theorem dL_bit_31 : decode cL_bit 31 = .ok (.iinc 4 1, 3) := by decide +kernel
theorem dL_bit_34 : decode cL_bit 34 = .ok (.goto (-17), 3) := by decide +kernel
theorem dL_bit_37 : decode cL_bit 37 = .ok (.iload_n 3, 1) := by decide +kernel
theorem dL_bit_38 : decode cL_bit 38 = .ok (.iload_n 0, 1) := by decide +kernel
theorem dL_bit_39 : decode cL_bit 39 = .ok (.iload_n 1, 1) := by decide +kernel
theorem dL_bit_40 : decode cL_bit 40 = .ok (.iadd, 1) := by decide +kernel
theorem dL_bit_41 : decode cL_bit 41 = .ok (.iconst 2, 1) := by decide +kernel
theorem dL_bit_42 : decode cL_bit 42 = .ok (.iload_n 2, 1) := by decide +kernel
theorem dL_bit_43 : decode cL_bit 43 = .ok (.imul, 1) := by decide +kernel
theorem dL_bit_44 : decode cL_bit 44 = .ok (.isub, 1) := by decide +kernel
theorem dL_bit_45 : decode cL_bit 45 = .ok (.iconst 1, 1) := by decide +kernel
theorem dL_bit_46 : decode cL_bit 46 = .ok (.isub, 1) := by decide +kernel
theorem dL_bit_47 : decode cL_bit 47 = .ok (.isub, 1) := by decide +kernel
theorem dL_bit_48 : decode cL_bit 48 = .ok (.ireturn, 1) := by decide +kernel
def r_L_bit : Room := { frames := 1, cells := 0, slots := 0, locals := 12 }
set_option maxRecDepth 100000 in
set_option maxHeartbeats 4000000 in
theorem w_L_bit_17 {K : zK} (hk : zIs K RL cL_bit 5 wsL_bit (some .int) r_L_bit) {r0 : Int32} {τ0 : zST} (hq : zQ K (some (.int r0)) τ0) (F : Nat) : ∀ (n : Nat) (a0 : Int32) (a1 : Int32) (a2 : Int32) (a3 : Int32) (a4 : Int32) (σ : zST), m_L_bit_17 F n a0 a1 a2 a3 a4 σ = some (r0, τ0) → Z K 0 0 17 [(0, .int a0), (1, .int a1), (2, .int a2), (3, .int a3), (4, .int a4)] [] σ := by
  intro n
  induction n with
  | zero => intro a0 a1 a2 a3 a4 σ h; cases h
  | succ n ih =>
    intro a0 a1 a2 a3 a4 σ h
    rw [m_L_bit_17] at h
    refine Z_iload hk 4 dL_bit_17 rfl ?_
    refine Z_iload_n hk 2 dL_bit_19 rfl rfl ?_
    refine Z_icmp_ge hk (tgt := 37) dL_bit_20 (by decide) (fun c2 => ?_) (fun c2 => ?_)
    · have h := if_yes h c2
      refine Z_iload_n hk 3 dL_bit_37 rfl rfl ?_
      refine Z_iload_n hk 0 dL_bit_38 rfl rfl ?_
      refine Z_iload_n hk 1 dL_bit_39 rfl rfl ?_
      refine Z_iadd hk dL_bit_40 ?_
      refine Z_iconst hk dL_bit_41 zc_iconst_2 ?_
      refine Z_iload_n hk 2 dL_bit_42 rfl rfl ?_
      refine Z_imul hk dL_bit_43 ?_
      refine Z_isub hk dL_bit_44 ?_
      refine Z_iconst hk dL_bit_45 zc_iconst_1 ?_
      refine Z_isub hk dL_bit_46 ?_
      refine Z_isub hk dL_bit_47 ?_
      cases h
      exact Z_iret hk hq dL_bit_48
    · have h := if_no h c2
      refine Z_iload_n hk 3 dL_bit_23 rfl rfl ?_
      refine Z_bipush hk dL_bit_24 zc_bipush_7 ?_
      refine Z_iload hk 4 dL_bit_26 rfl ?_
      refine Z_isub hk dL_bit_28 ?_
      refine Z_isub hk dL_bit_29 ?_
      obtain ⟨x3, e4, h⟩ := nm_get h
      refine Z_eqI e4 ?_
      refine Z_istore_n hk (lv' := [(3, .int x3), (0, .int a0), (1, .int a1), (2, .int a2), (4, .int a4)]) dL_bit_30 rfl (by decide) rfl ?_
      obtain ⟨x5, e6, h⟩ := nm_get h
      refine Z_iinc hk 4 (v := x5) (lv' := [(4, .int x5), (3, .int x3), (0, .int a0), (1, .int a1), (2, .int a2)]) dL_bit_31 rfl (by rw [zc_iinc_1]; exact e6) (by decide) rfl ?_
      refine Z_goto hk (tgt := 17) dL_bit_34 (by decide) ?_
      refine Z_sub [2, 3, 4, 1, 0] rfl ?_
      exact ih a0 a1 a2 x3 x5 σ h
set_option maxRecDepth 100000 in
set_option maxHeartbeats 4000000 in
theorem w_L_bit_10 {K : zK} (hk : zIs K RL cL_bit 5 wsL_bit (some .int) r_L_bit) {r0 : Int32} {τ0 : zST} (hq : zQ K (some (.int r0)) τ0) (F : Nat) (a0 : Int32) (a1 : Int32) (t0 : Int32) (σ : zST) (h : m_L_bit_10 F a0 a1 t0 σ = some (r0, τ0)) : Z K 0 0 10 [(0, .int a0), (1, .int a1)] [.int t0] σ := by
  unfold m_L_bit_10 at h
  refine Z_istore_n hk (lv' := [(2, .int t0), (0, .int a0), (1, .int a1)]) dL_bit_10 rfl (by decide) rfl ?_
  refine Z_bipush hk dL_bit_11 zc_bipush_27 ?_
  refine Z_istore_n hk (lv' := [(3, .int 27), (2, .int t0), (0, .int a0), (1, .int a1)]) dL_bit_13 rfl (by decide) rfl ?_
  refine Z_iconst hk dL_bit_14 zc_iconst_0 ?_
  refine Z_istore hk (lv' := [(4, .int 0), (3, .int 27), (2, .int t0), (0, .int a0), (1, .int a1)]) dL_bit_15 (by decide) rfl ?_
  refine Z_sub [3, 4, 2, 1, 0] rfl ?_
  exact w_L_bit_17 hk hq F F a0 a1 t0 27 0 σ h
set_option maxRecDepth 100000 in
set_option maxHeartbeats 4000000 in
theorem w_L_bit {K : zK} (hk : zIs K RL cL_bit 5 wsL_bit (some .int) r_L_bit) {r0 : Int32} {τ0 : zST} (hq : zQ K (some (.int r0)) τ0) (F : Nat) (a0 : Int32) (a1 : Int32) (σ : zST) (h : m_L_bit F a0 a1 σ = some (r0, τ0)) : Z K 0 0 0 [(0, .int a0), (1, .int a1)] [] σ := by
  unfold m_L_bit at h
  refine Z_iload_n hk 0 dL_bit_0 rfl rfl ?_
  refine Z_iload_n hk 1 dL_bit_1 rfl rfl ?_
  refine Z_icmp_ge hk (tgt := 9) dL_bit_2 (by decide) (fun c1 => ?_) (fun c1 => ?_)
  · have h := if_yes h c1
    refine Z_iload_n hk 1 dL_bit_9 rfl rfl ?_
    refine Z_sub [0, 1] rfl ?_
    exact w_L_bit_10 hk hq F a0 a1 a1 σ h
  · have h := if_no h c1
    refine Z_iload_n hk 0 dL_bit_5 rfl rfl ?_
    refine Z_goto hk (tgt := 10) dL_bit_6 (by decide) ?_
    refine Z_sub [0, 1] rfl ?_
    exact w_L_bit_10 hk hq F a0 a1 a0 σ h
theorem c_L_bit {l : Launch} {E : zE} (hL : eL E) (hJ : eJ E) (F : Nat) (a0 : Int32) (a1 : Int32) (σ : zST) {r0 : Int32} {τ0 : zST} (h : m_L_bit F a0 a1 σ = some (r0, τ0)) : Ct l yL_bit wsL_bit r_L_bit E [.int a0, .int a1] σ (some (.int r0)) τ0 := by
  refine Ct_of (by decide) rfl hL hJ (Nat.le_of_ble_eq_true rfl) (fun K hE hl hk hq => ?_)
  subst hE
  exact w_L_bit hk hq F a0 a1 σ h
end

-- CanonCoteLaw.size (J)I
section
theorem dL_size_0 : decode cL_size 0 = .ok (.lload_n 0, 1) := by decide +kernel
theorem dL_size_1 : decode cL_size 1 = .ok (.bipush 52, 2) := by decide +kernel
theorem dL_size_3 : decode cL_size 3 = .ok (.lshr, 1) := by decide +kernel
theorem dL_size_4 : decode cL_size 4 = .ok (.l2i, 1) := by decide +kernel
theorem dL_size_5 : decode cL_size 5 = .ok (.ireturn, 1) := by decide +kernel
def r_L_size : Room := { frames := 1, cells := 0, slots := 0, locals := 12 }
set_option maxRecDepth 100000 in
set_option maxHeartbeats 4000000 in
theorem w_L_size {K : zK} (hk : zIs K RL cL_size 2 wsL_size (some .int) r_L_size) {r0 : Int32} {τ0 : zST} (hq : zQ K (some (.int r0)) τ0) (F : Nat) (a0 : Int64) (σ : zST) (h : m_L_size F a0 σ = some (r0, τ0)) : Z K 0 0 0 [(0, .long a0)] [] σ := by
  unfold m_L_size at h
  refine Z_lload_n hk 0 dL_size_0 rfl rfl ?_
  refine Z_bipush hk dL_size_1 zc_bipush_52 ?_
  refine Z_lshr hk dL_size_3 ?_
  refine Z_l2i hk dL_size_4 ?_
  cases h
  exact Z_iret hk hq dL_size_5
theorem c_L_size {l : Launch} {E : zE} (hL : eL E) (hJ : eJ E) (F : Nat) (a0 : Int64) (σ : zST) {r0 : Int32} {τ0 : zST} (h : m_L_size F a0 σ = some (r0, τ0)) : Ct l yL_size wsL_size r_L_size E [.long a0] σ (some (.int r0)) τ0 := by
  refine Ct_of (by decide) rfl hL hJ (Nat.le_of_ble_eq_true rfl) (fun K hE hl hk hq => ?_)
  subst hE
  exact w_L_size hk hq F a0 σ h
end

-- CanonCoteLaw.edge (JII)Z
section
theorem dL_edge_0 : decode cL_edge 0 = .ok (.iload_n 2, 1) := by decide +kernel
theorem dL_edge_1 : decode cL_edge 1 = .ok (.iload_n 3, 1) := by decide +kernel
theorem dL_edge_2 : decode cL_edge 2 = .ok (.if_icmp .eq 21, 3) := by decide +kernel
theorem dL_edge_5 : decode cL_edge 5 = .ok (.lload_n 0, 1) := by decide +kernel
theorem dL_edge_6 : decode cL_edge 6 = .ok (.iload_n 2, 1) := by decide +kernel
theorem dL_edge_7 : decode cL_edge 7 = .ok (.iload_n 3, 1) := by decide +kernel
theorem dL_edge_8 : decode cL_edge 8 = .ok (.invokestatic 9, 3) := by decide +kernel
theorem dL_edge_11 : decode cL_edge 11 = .ok (.lshr, 1) := by decide +kernel
theorem dL_edge_12 : decode cL_edge 12 = .ok (.lconst 1, 1) := by decide +kernel
theorem dL_edge_13 : decode cL_edge 13 = .ok (.land, 1) := by decide +kernel
theorem dL_edge_14 : decode cL_edge 14 = .ok (.lconst 1, 1) := by decide +kernel
theorem dL_edge_15 : decode cL_edge 15 = .ok (.lcmp, 1) := by decide +kernel
theorem dL_edge_16 : decode cL_edge 16 = .ok (.ifCond .ne 7, 3) := by decide +kernel
theorem dL_edge_19 : decode cL_edge 19 = .ok (.iconst 1, 1) := by decide +kernel
theorem dL_edge_20 : decode cL_edge 20 = .ok (.goto 4, 3) := by decide +kernel
theorem dL_edge_23 : decode cL_edge 23 = .ok (.iconst 0, 1) := by decide +kernel
theorem dL_edge_24 : decode cL_edge 24 = .ok (.ireturn, 1) := by decide +kernel
set_option maxRecDepth 20000 in
theorem ggL_edge_L_bit : GoodIn wsL_edge wsL_bit := goodIn_r _ [4] (by decide +kernel) (by decide +kernel)
set_option maxRecDepth 20000 in
theorem gL_edge_L_bit : GoodIn wsL_edge (va_wsS RL 9 yL_bit wsL_bit) := goodIn_app (goodIn_of _ (by decide +kernel)) ggL_edge_L_bit
def r_L_edge : Room := { frames := 2, cells := 0, slots := 0, locals := 36 }
set_option maxRecDepth 100000 in
set_option maxHeartbeats 4000000 in
theorem w_L_edge_23 {K : zK} (hk : zIs K RL cL_edge 4 wsL_edge (some .boolean) r_L_edge) {r0 : Int32} {τ0 : zST} (hq : zQ K (some (.int r0)) τ0) (F : Nat)  (σ : zST) (h : m_L_edge_23 F σ = some (r0, τ0)) : Z K 0 0 23 [] [] σ := by
  unfold m_L_edge_23 at h
  refine Z_iconst hk dL_edge_23 zc_iconst_0 ?_
  cases h
  exact Z_zret hk (by decide) hq dL_edge_24
set_option maxRecDepth 100000 in
set_option maxHeartbeats 4000000 in
theorem w_L_edge {K : zK} (hk : zIs K RL cL_edge 4 wsL_edge (some .boolean) r_L_edge) {r0 : Int32} {τ0 : zST} (hq : zQ K (some (.int r0)) τ0) (F : Nat) (a0 : Int64) (a2 : Int32) (a3 : Int32) (σ : zST) (h : m_L_edge F a0 a2 a3 σ = some (r0, τ0)) : Z K 0 0 0 [(0, .long a0), (2, .int a2), (3, .int a3)] [] σ := by
  unfold m_L_edge at h
  refine Z_iload_n hk 1 dL_edge_0 rfl rfl ?_
  refine Z_iload_n hk 2 dL_edge_1 rfl rfl ?_
  refine Z_icmp_eq hk (tgt := 23) dL_edge_2 (by decide) (fun c1 => ?_) (fun c1 => ?_)
  · have h := if_yes h c1
    refine Z_sub [] rfl ?_
    exact w_L_edge_23 hk hq F σ h
  · have h := if_no h c1
    refine Z_lload_n hk 0 dL_edge_5 rfl rfl ?_
    refine Z_iload_n hk 1 dL_edge_6 rfl rfl ?_
    refine Z_iload_n hk 2 dL_edge_7 rfl rfl ?_
    obtain ⟨x2, s3, h4, h⟩ := bd_ok h
    refine Z_callT 2 hk [.int a2, .int a3] (c_L_bit hk.loc hk.inj F a2 a3 σ h4) gL_edge_L_bit rfl ⟨rfl, rfl⟩ (by decide +kernel) ⟨Nat.le_of_ble_eq_true rfl, Nat.le_of_ble_eq_true rfl⟩ rfl rfl (Nat.le_of_ble_eq_true rfl) ⟨Nat.zero_le _, Nat.zero_le _⟩ dL_edge_8 ?_
    show Z K 0 0 11 [(0, .long a0), (2, .int a2), (3, .int a3)] [.int x2, .long a0] s3
    refine Z_lshr hk dL_edge_11 ?_
    refine Z_lconst hk dL_edge_12 (v := 1) rfl ?_
    refine Z_land hk dL_edge_13 ?_
    refine Z_lconst hk dL_edge_14 (v := 1) rfl ?_
    refine Z_lcmp hk dL_edge_15 ?_
    refine Z_if_ne hk (tgt := 23) dL_edge_16 (by decide) (fun c5 => ?_) (fun c5 => ?_)
    · have h := if_yes h c5
      refine Z_iconst hk dL_edge_19 zc_iconst_1 ?_
      refine Z_goto hk (tgt := 24) dL_edge_20 (by decide) ?_
      cases h
      exact Z_zret hk (by decide) hq dL_edge_24
    · have h := if_no h c5
      refine Z_sub [] rfl ?_
      exact w_L_edge_23 hk hq F s3 h
theorem c_L_edge {l : Launch} {E : zE} (hL : eL E) (hJ : eJ E) (F : Nat) (a0 : Int64) (a2 : Int32) (a3 : Int32) (σ : zST) {r0 : Int32} {τ0 : zST} (h : m_L_edge F a0 a2 a3 σ = some (r0, τ0)) : Ct l yL_edge wsL_edge r_L_edge E [.long a0, .int a2, .int a3] σ (some (.int r0)) τ0 := by
  refine Ct_of (by decide) rfl hL hJ (Nat.le_of_ble_eq_true rfl) (fun K hE hl hk hq => ?_)
  subst hE
  exact w_L_edge hk hq F a0 a2 a3 σ h
end

-- CanonCoteLaw.colour (JI)I
section
theorem dL_colour_0 : decode cL_colour 0 = .ok (.lload_n 0, 1) := by decide +kernel
theorem dL_colour_1 : decode cL_colour 1 = .ok (.bipush 49, 2) := by decide +kernel
theorem dL_colour_3 : decode cL_colour 3 = .ok (.iconst 3, 1) := by decide +kernel
theorem dL_colour_4 : decode cL_colour 4 = .ok (.iload_n 2, 1) := by decide +kernel
theorem dL_colour_5 : decode cL_colour 5 = .ok (.imul, 1) := by decide +kernel
theorem dL_colour_6 : decode cL_colour 6 = .ok (.isub, 1) := by decide +kernel
theorem dL_colour_7 : decode cL_colour 7 = .ok (.lshr, 1) := by decide +kernel
theorem dL_colour_8 : decode cL_colour 8 = .ok (.ldc2_w 15, 3) := by decide +kernel
theorem dL_colour_11 : decode cL_colour 11 = .ok (.land, 1) := by decide +kernel
theorem dL_colour_12 : decode cL_colour 12 = .ok (.l2i, 1) := by decide +kernel
theorem dL_colour_13 : decode cL_colour 13 = .ok (.ireturn, 1) := by decide +kernel
theorem wd_L_colour_0 : Cond.constantLong RL 15 7 ∈ wsL_colour := by decide +kernel
def r_L_colour : Room := { frames := 1, cells := 0, slots := 0, locals := 12 }
set_option maxRecDepth 100000 in
set_option maxHeartbeats 4000000 in
theorem w_L_colour {K : zK} (hk : zIs K RL cL_colour 3 wsL_colour (some .int) r_L_colour) {r0 : Int32} {τ0 : zST} (hq : zQ K (some (.int r0)) τ0) (F : Nat) (a0 : Int64) (a2 : Int32) (σ : zST) (h : m_L_colour F a0 a2 σ = some (r0, τ0)) : Z K 0 0 0 [(0, .long a0), (2, .int a2)] [] σ := by
  unfold m_L_colour at h
  refine Z_lload_n hk 0 dL_colour_0 rfl rfl ?_
  refine Z_bipush hk dL_colour_1 zc_bipush_49 ?_
  refine Z_iconst hk dL_colour_3 zc_iconst_3 ?_
  refine Z_iload_n hk 1 dL_colour_4 rfl rfl ?_
  refine Z_imul hk dL_colour_5 ?_
  refine Z_isub hk dL_colour_6 ?_
  refine Z_lshr hk dL_colour_7 ?_
  refine Z_ldc2 hk (v := 7) dL_colour_8 wd_L_colour_0 ?_
  refine Z_land hk dL_colour_11 ?_
  refine Z_l2i hk dL_colour_12 ?_
  cases h
  exact Z_iret hk hq dL_colour_13
theorem c_L_colour {l : Launch} {E : zE} (hL : eL E) (hJ : eJ E) (F : Nat) (a0 : Int64) (a2 : Int32) (σ : zST) {r0 : Int32} {τ0 : zST} (h : m_L_colour F a0 a2 σ = some (r0, τ0)) : Ct l yL_colour wsL_colour r_L_colour E [.long a0, .int a2] σ (some (.int r0)) τ0 := by
  refine Ct_of (by decide) rfl hL hJ (Nat.le_of_ble_eq_true rfl) (fun K hE hl hk hq => ?_)
  subst hE
  exact w_L_colour hk hq F a0 a2 σ h
end

-- CanonCoteLaw.coloured (JII)J
section
theorem dL_coloured_0 : decode cL_coloured 0 = .ok (.lload_n 0, 1) := by decide +kernel
theorem dL_coloured_1 : decode cL_coloured 1 = .ok (.ldc2_w 15, 3) := by decide +kernel
theorem dL_coloured_4 : decode cL_coloured 4 = .ok (.bipush 49, 2) := by decide +kernel
theorem dL_coloured_6 : decode cL_coloured 6 = .ok (.iconst 3, 1) := by decide +kernel
theorem dL_coloured_7 : decode cL_coloured 7 = .ok (.iload_n 2, 1) := by decide +kernel
theorem dL_coloured_8 : decode cL_coloured 8 = .ok (.imul, 1) := by decide +kernel
theorem dL_coloured_9 : decode cL_coloured 9 = .ok (.isub, 1) := by decide +kernel
theorem dL_coloured_10 : decode cL_coloured 10 = .ok (.lshl, 1) := by decide +kernel
theorem dL_coloured_11 : decode cL_coloured 11 = .ok (.ldc2_w 17, 3) := by decide +kernel
theorem dL_coloured_14 : decode cL_coloured 14 = .ok (.lxor, 1) := by decide +kernel
theorem dL_coloured_15 : decode cL_coloured 15 = .ok (.land, 1) := by decide +kernel
theorem dL_coloured_16 : decode cL_coloured 16 = .ok (.iload_n 3, 1) := by decide +kernel
theorem dL_coloured_17 : decode cL_coloured 17 = .ok (.i2l, 1) := by decide +kernel
theorem dL_coloured_18 : decode cL_coloured 18 = .ok (.bipush 49, 2) := by decide +kernel
theorem dL_coloured_20 : decode cL_coloured 20 = .ok (.iconst 3, 1) := by decide +kernel
theorem dL_coloured_21 : decode cL_coloured 21 = .ok (.iload_n 2, 1) := by decide +kernel
theorem dL_coloured_22 : decode cL_coloured 22 = .ok (.imul, 1) := by decide +kernel
theorem dL_coloured_23 : decode cL_coloured 23 = .ok (.isub, 1) := by decide +kernel
theorem dL_coloured_24 : decode cL_coloured 24 = .ok (.lshl, 1) := by decide +kernel
theorem dL_coloured_25 : decode cL_coloured 25 = .ok (.lor, 1) := by decide +kernel
theorem dL_coloured_26 : decode cL_coloured 26 = .ok (.lreturn, 1) := by decide +kernel
theorem wd_L_coloured_0 : Cond.constantLong RL 15 7 ∈ wsL_coloured := by decide +kernel
theorem wd_L_coloured_1 : Cond.constantLong RL 17 (-1) ∈ wsL_coloured := by decide +kernel
def r_L_coloured : Room := { frames := 1, cells := 0, slots := 0, locals := 12 }
set_option maxRecDepth 100000 in
set_option maxHeartbeats 4000000 in
theorem w_L_coloured {K : zK} (hk : zIs K RL cL_coloured 4 wsL_coloured (some .long) r_L_coloured) {r0 : Int64} {τ0 : zST} (hq : zQ K (some (.long r0)) τ0) (F : Nat) (a0 : Int64) (a2 : Int32) (a3 : Int32) (σ : zST) (h : m_L_coloured F a0 a2 a3 σ = some (r0, τ0)) : Z K 0 0 0 [(0, .long a0), (2, .int a2), (3, .int a3)] [] σ := by
  unfold m_L_coloured at h
  refine Z_lload_n hk 0 dL_coloured_0 rfl rfl ?_
  refine Z_ldc2 hk (v := 7) dL_coloured_1 wd_L_coloured_0 ?_
  refine Z_bipush hk dL_coloured_4 zc_bipush_49 ?_
  refine Z_iconst hk dL_coloured_6 zc_iconst_3 ?_
  refine Z_iload_n hk 1 dL_coloured_7 rfl rfl ?_
  refine Z_imul hk dL_coloured_8 ?_
  refine Z_isub hk dL_coloured_9 ?_
  refine Z_lshl hk dL_coloured_10 ?_
  refine Z_ldc2 hk (v := -1) dL_coloured_11 wd_L_coloured_1 ?_
  refine Z_lxor hk dL_coloured_14 ?_
  refine Z_land hk dL_coloured_15 ?_
  refine Z_iload_n hk 2 dL_coloured_16 rfl rfl ?_
  refine Z_i2l hk dL_coloured_17 ?_
  refine Z_bipush hk dL_coloured_18 zc_bipush_49 ?_
  refine Z_iconst hk dL_coloured_20 zc_iconst_3 ?_
  refine Z_iload_n hk 1 dL_coloured_21 rfl rfl ?_
  refine Z_imul hk dL_coloured_22 ?_
  refine Z_isub hk dL_coloured_23 ?_
  refine Z_lshl hk dL_coloured_24 ?_
  refine Z_lor hk dL_coloured_25 ?_
  cases h
  exact Z_lret hk hq dL_coloured_26
theorem c_L_coloured {l : Launch} {E : zE} (hL : eL E) (hJ : eJ E) (F : Nat) (a0 : Int64) (a2 : Int32) (a3 : Int32) (σ : zST) {r0 : Int64} {τ0 : zST} (h : m_L_coloured F a0 a2 a3 σ = some (r0, τ0)) : Ct l yL_coloured wsL_coloured r_L_coloured E [.long a0, .int a2, .int a3] σ (some (.long r0)) τ0 := by
  refine Ct_of (by decide) rfl hL hJ (Nat.le_of_ble_eq_true rfl) (fun K hE hl hk hq => ?_)
  subst hE
  exact w_L_coloured hk hq F a0 a2 a3 σ h
end

-- CanonCoteLaw.maps (I)I
section
theorem dL_maps_0 : decode cL_maps 0 = .ok (.iconst 1, 1) := by decide +kernel
theorem dL_maps_1 : decode cL_maps 1 = .ok (.istore_n 1, 1) := by decide +kernel
theorem dL_maps_2 : decode cL_maps 2 = .ok (.iconst 2, 1) := by decide +kernel
theorem dL_maps_3 : decode cL_maps 3 = .ok (.istore_n 2, 1) := by decide +kernel
theorem dL_maps_4 : decode cL_maps 4 = .ok (.iload_n 2, 1) := by decide +kernel
theorem dL_maps_5 : decode cL_maps 5 = .ok (.iload_n 0, 1) := by decide +kernel
theorem dL_maps_6 : decode cL_maps 6 = .ok (.if_icmp .gt 13, 3) := by decide +kernel
theorem dL_maps_9 : decode cL_maps 9 = .ok (.iload_n 1, 1) := by decide +kernel
theorem dL_maps_10 : decode cL_maps 10 = .ok (.iload_n 2, 1) := by decide +kernel
theorem dL_maps_11 : decode cL_maps 11 = .ok (.imul, 1) := by decide +kernel
theorem dL_maps_12 : decode cL_maps 12 = .ok (.istore_n 1, 1) := by decide +kernel
theorem dL_maps_13 : decode cL_maps 13 = .ok (.iinc 2 1, 3) := by decide +kernel
theorem dL_maps_16 : decode cL_maps 16 = .ok (.goto (-12), 3) := by decide +kernel
theorem dL_maps_19 : decode cL_maps 19 = .ok (.iload_n 1, 1) := by decide +kernel
theorem dL_maps_20 : decode cL_maps 20 = .ok (.ireturn, 1) := by decide +kernel
def r_L_maps : Room := { frames := 1, cells := 0, slots := 0, locals := 12 }
set_option maxRecDepth 100000 in
set_option maxHeartbeats 4000000 in
theorem w_L_maps_4 {K : zK} (hk : zIs K RL cL_maps 3 wsL_maps (some .int) r_L_maps) {r0 : Int32} {τ0 : zST} (hq : zQ K (some (.int r0)) τ0) (F : Nat) : ∀ (n : Nat) (a0 : Int32) (a1 : Int32) (a2 : Int32) (σ : zST), m_L_maps_4 F n a0 a1 a2 σ = some (r0, τ0) → Z K 0 0 4 [(0, .int a0), (1, .int a1), (2, .int a2)] [] σ := by
  intro n
  induction n with
  | zero => intro a0 a1 a2 σ h; cases h
  | succ n ih =>
    intro a0 a1 a2 σ h
    rw [m_L_maps_4] at h
    refine Z_iload_n hk 2 dL_maps_4 rfl rfl ?_
    refine Z_iload_n hk 0 dL_maps_5 rfl rfl ?_
    refine Z_icmp_gt hk (tgt := 19) dL_maps_6 (by decide) (fun c1 => ?_) (fun c1 => ?_)
    · have h := if_yes h c1
      refine Z_iload_n hk 1 dL_maps_19 rfl rfl ?_
      cases h
      exact Z_iret hk hq dL_maps_20
    · have h := if_no h c1
      refine Z_iload_n hk 1 dL_maps_9 rfl rfl ?_
      refine Z_iload_n hk 2 dL_maps_10 rfl rfl ?_
      refine Z_imul hk dL_maps_11 ?_
      obtain ⟨x2, e3, h⟩ := nm_get h
      refine Z_eqI e3 ?_
      refine Z_istore_n hk (lv' := [(1, .int x2), (0, .int a0), (2, .int a2)]) dL_maps_12 rfl (by decide) rfl ?_
      obtain ⟨x4, e5, h⟩ := nm_get h
      refine Z_iinc hk 2 (v := x4) (lv' := [(2, .int x4), (1, .int x2), (0, .int a0)]) dL_maps_13 rfl (by rw [zc_iinc_1]; exact e5) (by decide) rfl ?_
      refine Z_goto hk (tgt := 4) dL_maps_16 (by decide) ?_
      refine Z_sub [2, 1, 0] rfl ?_
      exact ih a0 x2 x4 σ h
set_option maxRecDepth 100000 in
set_option maxHeartbeats 4000000 in
theorem w_L_maps {K : zK} (hk : zIs K RL cL_maps 3 wsL_maps (some .int) r_L_maps) {r0 : Int32} {τ0 : zST} (hq : zQ K (some (.int r0)) τ0) (F : Nat) (a0 : Int32) (σ : zST) (h : m_L_maps F a0 σ = some (r0, τ0)) : Z K 0 0 0 [(0, .int a0)] [] σ := by
  unfold m_L_maps at h
  refine Z_iconst hk dL_maps_0 zc_iconst_1 ?_
  refine Z_istore_n hk (lv' := [(1, .int 1), (0, .int a0)]) dL_maps_1 rfl (by decide) rfl ?_
  refine Z_iconst hk dL_maps_2 zc_iconst_2 ?_
  refine Z_istore_n hk (lv' := [(2, .int 2), (1, .int 1), (0, .int a0)]) dL_maps_3 rfl (by decide) rfl ?_
  refine Z_sub [2, 1, 0] rfl ?_
  exact w_L_maps_4 hk hq F F a0 1 2 σ h
theorem c_L_maps {l : Launch} {E : zE} (hL : eL E) (hJ : eJ E) (F : Nat) (a0 : Int32) (σ : zST) {r0 : Int32} {τ0 : zST} (h : m_L_maps F a0 σ = some (r0, τ0)) : Ct l yL_maps wsL_maps r_L_maps E [.int a0] σ (some (.int r0)) τ0 := by
  refine Ct_of (by decide) rfl hL hJ (Nat.le_of_ble_eq_true rfl) (fun K hE hl hk hq => ?_)
  subst hE
  exact w_L_maps hk hq F a0 σ h
end

-- CanonCoteLaw.image (III)I
section
theorem dL_image_0 : decode cL_image 0 = .ok (.iconst 0, 1) := by decide +kernel
theorem dL_image_1 : decode cL_image 1 = .ok (.istore_n 3, 1) := by decide +kernel
theorem dL_image_2 : decode cL_image 2 = .ok (.iload_n 1, 1) := by decide +kernel
theorem dL_image_3 : decode cL_image 3 = .ok (.istore 4, 2) := by decide +kernel
theorem dL_image_5 : decode cL_image 5 = .ok (.iconst 0, 1) := by decide +kernel
theorem dL_image_6 : decode cL_image 6 = .ok (.istore 5, 2) := by decide +kernel
theorem dL_image_8 : decode cL_image 8 = .ok (.iconst 0, 1) := by decide +kernel
theorem dL_image_9 : decode cL_image 9 = .ok (.istore 6, 2) := by decide +kernel
theorem dL_image_11 : decode cL_image 11 = .ok (.iload 6, 2) := by decide +kernel
theorem dL_image_13 : decode cL_image 13 = .ok (.iload_n 2, 1) := by decide +kernel
theorem dL_image_14 : decode cL_image 14 = .ok (.if_icmp .gt 84, 3) := by decide +kernel
theorem dL_image_17 : decode cL_image 17 = .ok (.iload_n 0, 1) := by decide +kernel
theorem dL_image_18 : decode cL_image 18 = .ok (.iconst 1, 1) := by decide +kernel
theorem dL_image_19 : decode cL_image 19 = .ok (.isub, 1) := by decide +kernel
theorem dL_image_20 : decode cL_image 20 = .ok (.iload 6, 2) := by decide +kernel
theorem dL_image_22 : decode cL_image 22 = .ok (.isub, 1) := by decide +kernel
theorem dL_image_23 : decode cL_image 23 = .ok (.invokestatic 19, 3) := by decide +kernel
theorem dL_image_26 : decode cL_image 26 = .ok (.istore 7, 2) := by decide +kernel
theorem dL_image_28 : decode cL_image 28 = .ok (.iload 4, 2) := by decide +kernel
theorem dL_image_30 : decode cL_image 30 = .ok (.iload 7, 2) := by decide +kernel
theorem dL_image_32 : decode cL_image 32 = .ok (.idiv, 1) := by decide +kernel
theorem dL_image_33 : decode cL_image 33 = .ok (.istore 8, 2) := by decide +kernel
theorem dL_image_35 : decode cL_image 35 = .ok (.iload 4, 2) := by decide +kernel
theorem dL_image_37 : decode cL_image 37 = .ok (.iload 7, 2) := by decide +kernel
theorem dL_image_39 : decode cL_image 39 = .ok (.irem, 1) := by decide +kernel
theorem dL_image_40 : decode cL_image 40 = .ok (.istore 4, 2) := by decide +kernel
theorem dL_image_42 : decode cL_image 42 = .ok (.iconst 0, 1) := by decide +kernel
theorem dL_image_43 : decode cL_image 43 = .ok (.istore 5, 2) := by decide +kernel
theorem dL_image_45 : decode cL_image 45 = .ok (.iload 8, 2) := by decide +kernel
theorem dL_image_47 : decode cL_image 47 = .ok (.ifCond .gt 13, 3) := by decide +kernel
theorem dL_image_50 : decode cL_image 50 = .ok (.iload_n 3, 1) := by decide +kernel
theorem dL_image_51 : decode cL_image 51 = .ok (.iload 5, 2) := by decide +kernel
theorem dL_image_53 : decode cL_image 53 = .ok (.ishr, 1) := by decide +kernel
theorem dL_image_54 : decode cL_image 54 = .ok (.iconst 1, 1) := by decide +kernel
theorem dL_image_55 : decode cL_image 55 = .ok (.iand, 1) := by decide +kernel
theorem dL_image_56 : decode cL_image 56 = .ok (.iconst 1, 1) := by decide +kernel
theorem dL_image_57 : decode cL_image 57 = .ok (.if_icmp .ne 28, 3) := by decide +kernel
theorem dL_image_60 : decode cL_image 60 = .ok (.iload 8, 2) := by decide +kernel
theorem dL_image_62 : decode cL_image 62 = .ok (.iload_n 3, 1) := by decide +kernel
theorem dL_image_63 : decode cL_image 63 = .ok (.iload 5, 2) := by decide +kernel
theorem dL_image_65 : decode cL_image 65 = .ok (.ishr, 1) := by decide +kernel
theorem dL_image_66 : decode cL_image 66 = .ok (.iconst 1, 1) := by decide +kernel
theorem dL_image_67 : decode cL_image 67 = .ok (.iand, 1) := by decide +kernel
theorem dL_image_68 : decode cL_image 68 = .ok (.ifCond .ne 7, 3) := by decide +kernel
theorem dL_image_71 : decode cL_image 71 = .ok (.iconst 1, 1) := by decide +kernel
theorem dL_image_72 : decode cL_image 72 = .ok (.goto 4, 3) := by decide +kernel
theorem dL_image_75 : decode cL_image 75 = .ok (.iconst 0, 1) := by decide +kernel
theorem dL_image_76 : decode cL_image 76 = .ok (.isub, 1) := by decide +kernel
theorem dL_image_77 : decode cL_image 77 = .ok (.istore 8, 2) := by decide +kernel
theorem dL_image_79 : decode cL_image 79 = .ok (.iinc 5 1, 3) := by decide +kernel
theorem dL_image_82 : decode cL_image 82 = .ok (.goto (-37), 3) := by decide +kernel
theorem dL_image_85 : decode cL_image 85 = .ok (.iload_n 3, 1) := by decide +kernel
theorem dL_image_86 : decode cL_image 86 = .ok (.iconst 1, 1) := by decide +kernel
theorem dL_image_87 : decode cL_image 87 = .ok (.iload 5, 2) := by decide +kernel
theorem dL_image_89 : decode cL_image 89 = .ok (.ishl, 1) := by decide +kernel
theorem dL_image_90 : decode cL_image 90 = .ok (.ior, 1) := by decide +kernel
theorem dL_image_91 : decode cL_image 91 = .ok (.istore_n 3, 1) := by decide +kernel
theorem dL_image_92 : decode cL_image 92 = .ok (.iinc 6 1, 3) := by decide +kernel
theorem dL_image_95 : decode cL_image 95 = .ok (.goto (-84), 3) := by decide +kernel
theorem dL_image_98 : decode cL_image 98 = .ok (.iload 5, 2) := by decide +kernel
theorem dL_image_100 : decode cL_image 100 = .ok (.ireturn, 1) := by decide +kernel
set_option maxRecDepth 20000 in
theorem ggL_image_L_maps : GoodIn wsL_image wsL_maps := goodIn_r _ [4] (by decide +kernel) (by decide +kernel)
set_option maxRecDepth 20000 in
theorem gL_image_L_maps : GoodIn wsL_image (va_wsS RL 19 yL_maps wsL_maps) := goodIn_app (goodIn_of _ (by decide +kernel)) ggL_image_L_maps
def r_L_image : Room := { frames := 2, cells := 0, slots := 0, locals := 34 }
set_option maxRecDepth 100000 in
set_option maxHeartbeats 4000000 in
theorem w_L_image_76 {K : zK} (hk : zIs K RL cL_image 9 wsL_image (some .int) r_L_image) {r0 : Int32} {τ0 : zST} (hq : zQ K (some (.int r0)) τ0) (F : Nat) (k11 : Int32 → Int32 → Int32 → Int32 → Int32 → Int32 → zST → Option (Int32 × zST)) (hk11 : ∀ (a0 : Int32) (a2 : Int32) (a3 : Int32) (a4 : Int32) (a5 : Int32) (a6 : Int32) (σ : zST), k11 a0 a2 a3 a4 a5 a6 σ = some (r0, τ0) → Z K 0 0 11 [(0, .int a0), (2, .int a2), (3, .int a3), (4, .int a4), (5, .int a5), (6, .int a6)] [] σ) (k45 : Int32 → Int32 → Int32 → Int32 → Int32 → Int32 → Int32 → zST → Option (Int32 × zST)) (hk45 : ∀ (a0 : Int32) (a2 : Int32) (a3 : Int32) (a4 : Int32) (a5 : Int32) (a6 : Int32) (a8 : Int32) (σ : zST), k45 a0 a2 a3 a4 a5 a6 a8 σ = some (r0, τ0) → Z K 0 0 45 [(0, .int a0), (2, .int a2), (3, .int a3), (4, .int a4), (5, .int a5), (6, .int a6), (8, .int a8)] [] σ) (a0 : Int32) (a2 : Int32) (a3 : Int32) (a4 : Int32) (a5 : Int32) (a6 : Int32) (t0 : Int32) (t1 : Int32) (σ : zST) (h : m_L_image_76 F k11 k45 a0 a2 a3 a4 a5 a6 t0 t1 σ = some (r0, τ0)) : Z K 0 0 76 [(0, .int a0), (2, .int a2), (3, .int a3), (4, .int a4), (5, .int a5), (6, .int a6)] [.int t0, .int t1] σ := by
  unfold m_L_image_76 at h
  refine Z_isub hk dL_image_76 ?_
  obtain ⟨x18, e19, h⟩ := nm_get h
  refine Z_eqI e19 ?_
  refine Z_istore hk (lv' := [(8, .int x18), (0, .int a0), (2, .int a2), (3, .int a3), (4, .int a4), (5, .int a5), (6, .int a6)]) dL_image_77 (by decide) rfl ?_
  obtain ⟨x20, e21, h⟩ := nm_get h
  refine Z_iinc hk 5 (v := x20) (lv' := [(5, .int x20), (8, .int x18), (0, .int a0), (2, .int a2), (3, .int a3), (4, .int a4), (6, .int a6)]) dL_image_79 rfl (by rw [zc_iinc_1]; exact e21) (by decide) rfl ?_
  refine Z_goto hk (tgt := 45) dL_image_82 (by decide) ?_
  refine Z_sub [2, 3, 4, 5, 0, 6, 1] rfl ?_
  exact hk45 a0 a2 a3 a4 x20 a6 x18 σ h
set_option maxRecDepth 100000 in
set_option maxHeartbeats 4000000 in
theorem w_L_image_60 {K : zK} (hk : zIs K RL cL_image 9 wsL_image (some .int) r_L_image) {r0 : Int32} {τ0 : zST} (hq : zQ K (some (.int r0)) τ0) (F : Nat) (k11 : Int32 → Int32 → Int32 → Int32 → Int32 → Int32 → zST → Option (Int32 × zST)) (hk11 : ∀ (a0 : Int32) (a2 : Int32) (a3 : Int32) (a4 : Int32) (a5 : Int32) (a6 : Int32) (σ : zST), k11 a0 a2 a3 a4 a5 a6 σ = some (r0, τ0) → Z K 0 0 11 [(0, .int a0), (2, .int a2), (3, .int a3), (4, .int a4), (5, .int a5), (6, .int a6)] [] σ) (k45 : Int32 → Int32 → Int32 → Int32 → Int32 → Int32 → Int32 → zST → Option (Int32 × zST)) (hk45 : ∀ (a0 : Int32) (a2 : Int32) (a3 : Int32) (a4 : Int32) (a5 : Int32) (a6 : Int32) (a8 : Int32) (σ : zST), k45 a0 a2 a3 a4 a5 a6 a8 σ = some (r0, τ0) → Z K 0 0 45 [(0, .int a0), (2, .int a2), (3, .int a3), (4, .int a4), (5, .int a5), (6, .int a6), (8, .int a8)] [] σ) (a0 : Int32) (a2 : Int32) (a3 : Int32) (a4 : Int32) (a5 : Int32) (a6 : Int32) (a8 : Int32) (σ : zST) (h : m_L_image_60 F k11 k45 a0 a2 a3 a4 a5 a6 a8 σ = some (r0, τ0)) : Z K 0 0 60 [(0, .int a0), (2, .int a2), (3, .int a3), (4, .int a4), (5, .int a5), (6, .int a6), (8, .int a8)] [] σ := by
  unfold m_L_image_60 at h
  refine Z_iload hk 6 dL_image_60 rfl ?_
  refine Z_iload_n hk 2 dL_image_62 rfl rfl ?_
  refine Z_iload hk 4 dL_image_63 rfl ?_
  refine Z_ishr hk dL_image_65 ?_
  refine Z_iconst hk dL_image_66 zc_iconst_1 ?_
  refine Z_iand hk dL_image_67 ?_
  refine Z_if_ne hk (tgt := 75) dL_image_68 (by decide) (fun c17 => ?_) (fun c17 => ?_)
  · have h := if_yes h c17
    refine Z_iconst hk dL_image_71 zc_iconst_1 ?_
    refine Z_goto hk (tgt := 76) dL_image_72 (by decide) ?_
    refine Z_sub [0, 1, 2, 3, 4, 5] rfl ?_
    exact w_L_image_76 hk hq F k11 hk11 k45 hk45 a0 a2 a3 a4 a5 a6 1 a8 σ h
  · have h := if_no h c17
    refine Z_iconst hk dL_image_75 zc_iconst_0 ?_
    refine Z_sub [0, 1, 2, 3, 4, 5] rfl ?_
    exact w_L_image_76 hk hq F k11 hk11 k45 hk45 a0 a2 a3 a4 a5 a6 0 a8 σ h
set_option maxRecDepth 100000 in
set_option maxHeartbeats 4000000 in
theorem w_L_image_45 {K : zK} (hk : zIs K RL cL_image 9 wsL_image (some .int) r_L_image) {r0 : Int32} {τ0 : zST} (hq : zQ K (some (.int r0)) τ0) (F : Nat) (k11 : Int32 → Int32 → Int32 → Int32 → Int32 → Int32 → zST → Option (Int32 × zST)) (hk11 : ∀ (a0 : Int32) (a2 : Int32) (a3 : Int32) (a4 : Int32) (a5 : Int32) (a6 : Int32) (σ : zST), k11 a0 a2 a3 a4 a5 a6 σ = some (r0, τ0) → Z K 0 0 11 [(0, .int a0), (2, .int a2), (3, .int a3), (4, .int a4), (5, .int a5), (6, .int a6)] [] σ) : ∀ (n : Nat) (a0 : Int32) (a2 : Int32) (a3 : Int32) (a4 : Int32) (a5 : Int32) (a6 : Int32) (a8 : Int32) (σ : zST), m_L_image_45 F k11 n a0 a2 a3 a4 a5 a6 a8 σ = some (r0, τ0) → Z K 0 0 45 [(0, .int a0), (2, .int a2), (3, .int a3), (4, .int a4), (5, .int a5), (6, .int a6), (8, .int a8)] [] σ := by
  intro n
  induction n with
  | zero => intro a0 a2 a3 a4 a5 a6 a8 σ h; cases h
  | succ n ih =>
    intro a0 a2 a3 a4 a5 a6 a8 σ h
    rw [m_L_image_45] at h
    refine Z_iload hk 6 dL_image_45 rfl ?_
    refine Z_if_gt hk (tgt := 60) dL_image_47 (by decide) (fun c11 => ?_) (fun c11 => ?_)
    · have h := if_yes h c11
      refine Z_sub [0, 1, 2, 3, 4, 5, 6] rfl ?_
      exact w_L_image_60 hk hq F k11 hk11 (m_L_image_45 F k11 n) ih a0 a2 a3 a4 a5 a6 a8 σ h
    · have h := if_no h c11
      refine Z_iload_n hk 2 dL_image_50 rfl rfl ?_
      refine Z_iload hk 4 dL_image_51 rfl ?_
      refine Z_ishr hk dL_image_53 ?_
      refine Z_iconst hk dL_image_54 zc_iconst_1 ?_
      refine Z_iand hk dL_image_55 ?_
      refine Z_iconst hk dL_image_56 zc_iconst_1 ?_
      refine Z_icmp_ne hk (tgt := 85) dL_image_57 (by decide) (fun c12 => ?_) (fun c12 => ?_)
      · have h := if_yes h c12
        refine Z_sub [0, 1, 2, 3, 4, 5, 6] rfl ?_
        exact w_L_image_60 hk hq F k11 hk11 (m_L_image_45 F k11 n) ih a0 a2 a3 a4 a5 a6 a8 σ h
      · have h := if_no h c12
        refine Z_iload_n hk 2 dL_image_85 rfl rfl ?_
        refine Z_iconst hk dL_image_86 zc_iconst_1 ?_
        refine Z_iload hk 4 dL_image_87 rfl ?_
        refine Z_ishl hk dL_image_89 ?_
        refine Z_ior hk dL_image_90 ?_
        obtain ⟨x13, e14, h⟩ := nm_get h
        refine Z_eqI e14 ?_
        refine Z_istore_n hk (lv' := [(3, .int x13), (0, .int a0), (2, .int a2), (4, .int a4), (5, .int a5), (6, .int a6), (8, .int a8)]) dL_image_91 rfl (by decide) rfl ?_
        obtain ⟨x15, e16, h⟩ := nm_get h
        refine Z_iinc hk 5 (v := x15) (lv' := [(6, .int x15), (3, .int x13), (0, .int a0), (2, .int a2), (4, .int a4), (5, .int a5), (8, .int a8)]) dL_image_92 rfl (by rw [zc_iinc_1]; exact e16) (by decide) rfl ?_
        refine Z_goto hk (tgt := 11) dL_image_95 (by decide) ?_
        refine Z_sub [2, 3, 1, 4, 5, 0] rfl ?_
        exact hk11 a0 a2 x13 a4 a5 x15 σ h
set_option maxRecDepth 100000 in
set_option maxHeartbeats 4000000 in
theorem w_L_image_11 {K : zK} (hk : zIs K RL cL_image 9 wsL_image (some .int) r_L_image) {r0 : Int32} {τ0 : zST} (hq : zQ K (some (.int r0)) τ0) (F : Nat) : ∀ (n : Nat) (a0 : Int32) (a2 : Int32) (a3 : Int32) (a4 : Int32) (a5 : Int32) (a6 : Int32) (σ : zST), m_L_image_11 F n a0 a2 a3 a4 a5 a6 σ = some (r0, τ0) → Z K 0 0 11 [(0, .int a0), (2, .int a2), (3, .int a3), (4, .int a4), (5, .int a5), (6, .int a6)] [] σ := by
  intro n
  induction n with
  | zero => intro a0 a2 a3 a4 a5 a6 σ h; cases h
  | succ n ih =>
    intro a0 a2 a3 a4 a5 a6 σ h
    rw [m_L_image_11] at h
    refine Z_iload hk 5 dL_image_11 rfl ?_
    refine Z_iload_n hk 1 dL_image_13 rfl rfl ?_
    refine Z_icmp_gt hk (tgt := 98) dL_image_14 (by decide) (fun c1 => ?_) (fun c1 => ?_)
    · have h := if_yes h c1
      refine Z_iload hk 4 dL_image_98 rfl ?_
      cases h
      exact Z_iret hk hq dL_image_100
    · have h := if_no h c1
      refine Z_iload_n hk 0 dL_image_17 rfl rfl ?_
      refine Z_iconst hk dL_image_18 zc_iconst_1 ?_
      refine Z_isub hk dL_image_19 ?_
      refine Z_iload hk 5 dL_image_20 rfl ?_
      refine Z_isub hk dL_image_22 ?_
      obtain ⟨x2, s3, h4, h⟩ := bd_ok h
      refine Z_callT 1 hk [.int ((a0 - 1) - a6)] (c_L_maps hk.loc hk.inj F ((a0 - 1) - a6) σ h4) gL_image_L_maps rfl ⟨rfl, rfl⟩ (by decide +kernel) ⟨Nat.le_of_ble_eq_true rfl, Nat.le_of_ble_eq_true rfl⟩ rfl rfl (Nat.le_of_ble_eq_true rfl) ⟨Nat.zero_le _, Nat.zero_le _⟩ dL_image_23 ?_
      show Z K 0 0 26 [(0, .int a0), (2, .int a2), (3, .int a3), (4, .int a4), (5, .int a5), (6, .int a6)] [.int x2] s3
      refine Z_istore hk (lv' := [(7, .int x2), (0, .int a0), (2, .int a2), (3, .int a3), (4, .int a4), (5, .int a5), (6, .int a6)]) dL_image_26 (by decide) rfl ?_
      refine Z_iload hk 4 dL_image_28 rfl ?_
      refine Z_iload hk 0 dL_image_30 rfl ?_
      obtain ⟨z5, h⟩ := gd_some h
      refine Z_idiv hk dL_image_32 z5 ?_
      obtain ⟨x6, e7, h⟩ := nm_get h
      refine Z_eqI e7 ?_
      refine Z_istore hk (lv' := [(8, .int x6), (7, .int x2), (0, .int a0), (2, .int a2), (3, .int a3), (4, .int a4), (5, .int a5), (6, .int a6)]) dL_image_33 (by decide) rfl ?_
      refine Z_iload hk 5 dL_image_35 rfl ?_
      refine Z_iload hk 1 dL_image_37 rfl ?_
      obtain ⟨z8, h⟩ := gd_some h
      refine Z_irem hk dL_image_39 z8 ?_
      obtain ⟨x9, e10, h⟩ := nm_get h
      refine Z_eqI e10 ?_
      refine Z_istore hk (lv' := [(4, .int x9), (8, .int x6), (7, .int x2), (0, .int a0), (2, .int a2), (3, .int a3), (5, .int a5), (6, .int a6)]) dL_image_40 (by decide) rfl ?_
      refine Z_iconst hk dL_image_42 zc_iconst_0 ?_
      refine Z_istore hk (lv' := [(5, .int 0), (4, .int x9), (8, .int x6), (7, .int x2), (0, .int a0), (2, .int a2), (3, .int a3), (6, .int a6)]) dL_image_43 (by decide) rfl ?_
      refine Z_sub [4, 5, 6, 1, 0, 7, 2] rfl ?_
      exact w_L_image_45 hk hq F (m_L_image_11 F n) ih F a0 a2 a3 x9 0 a6 x6 s3 h
set_option maxRecDepth 100000 in
set_option maxHeartbeats 4000000 in
theorem w_L_image {K : zK} (hk : zIs K RL cL_image 9 wsL_image (some .int) r_L_image) {r0 : Int32} {τ0 : zST} (hq : zQ K (some (.int r0)) τ0) (F : Nat) (a0 : Int32) (a1 : Int32) (a2 : Int32) (σ : zST) (h : m_L_image F a0 a1 a2 σ = some (r0, τ0)) : Z K 0 0 0 [(0, .int a0), (1, .int a1), (2, .int a2)] [] σ := by
  unfold m_L_image at h
  refine Z_iconst hk dL_image_0 zc_iconst_0 ?_
  refine Z_istore_n hk (lv' := [(3, .int 0), (0, .int a0), (1, .int a1), (2, .int a2)]) dL_image_1 rfl (by decide) rfl ?_
  refine Z_iload_n hk 2 dL_image_2 rfl rfl ?_
  refine Z_istore hk (lv' := [(4, .int a1), (3, .int 0), (0, .int a0), (1, .int a1), (2, .int a2)]) dL_image_3 (by decide) rfl ?_
  refine Z_iconst hk dL_image_5 zc_iconst_0 ?_
  refine Z_istore hk (lv' := [(5, .int 0), (4, .int a1), (3, .int 0), (0, .int a0), (1, .int a1), (2, .int a2)]) dL_image_6 (by decide) rfl ?_
  refine Z_iconst hk dL_image_8 zc_iconst_0 ?_
  refine Z_istore hk (lv' := [(6, .int 0), (5, .int 0), (4, .int a1), (3, .int 0), (0, .int a0), (1, .int a1), (2, .int a2)]) dL_image_9 (by decide) rfl ?_
  refine Z_sub [4, 6, 3, 2, 1, 0] rfl ?_
  exact w_L_image_11 hk hq F F a0 a2 0 a1 0 0 σ h
theorem c_L_image {l : Launch} {E : zE} (hL : eL E) (hJ : eJ E) (F : Nat) (a0 : Int32) (a1 : Int32) (a2 : Int32) (σ : zST) {r0 : Int32} {τ0 : zST} (h : m_L_image F a0 a1 a2 σ = some (r0, τ0)) : Ct l yL_image wsL_image r_L_image E [.int a0, .int a1, .int a2] σ (some (.int r0)) τ0 := by
  refine Ct_of (by decide) rfl hL hJ (Nat.le_of_ble_eq_true rfl) (fun K hE hl hk hq => ?_)
  subst hE
  exact w_L_image hk hq F a0 a1 a2 σ h
end

-- CanonCoteLaw.part (JI)J
section
theorem dL_part_0 : decode cL_part 0 = .ok (.lconst 0, 1) := by decide +kernel
theorem dL_part_1 : decode cL_part 1 = .ok (.lstore_n 3, 1) := by decide +kernel
theorem dL_part_2 : decode cL_part 2 = .ok (.iconst 0, 1) := by decide +kernel
theorem dL_part_3 : decode cL_part 3 = .ok (.istore 5, 2) := by decide +kernel
theorem dL_part_5 : decode cL_part 5 = .ok (.iconst 0, 1) := by decide +kernel
theorem dL_part_6 : decode cL_part 6 = .ok (.istore 6, 2) := by decide +kernel
theorem dL_part_8 : decode cL_part 8 = .ok (.iload 6, 2) := by decide +kernel
theorem dL_part_10 : decode cL_part 10 = .ok (.lload_n 0, 1) := by decide +kernel
theorem dL_part_11 : decode cL_part 11 = .ok (.invokestatic 23, 3) := by decide +kernel
theorem dL_part_14 : decode cL_part 14 = .ok (.if_icmp .ge 118, 3) := by decide +kernel
theorem dL_part_17 : decode cL_part 17 = .ok (.iload_n 2, 1) := by decide +kernel
theorem dL_part_18 : decode cL_part 18 = .ok (.iload 6, 2) := by decide +kernel
theorem dL_part_20 : decode cL_part 20 = .ok (.ishr, 1) := by decide +kernel
theorem dL_part_21 : decode cL_part 21 = .ok (.iconst 1, 1) := by decide +kernel
theorem dL_part_22 : decode cL_part 22 = .ok (.iand, 1) := by decide +kernel
theorem dL_part_23 : decode cL_part 23 = .ok (.iconst 1, 1) := by decide +kernel
theorem dL_part_24 : decode cL_part 24 = .ok (.if_icmp .ne 102, 3) := by decide +kernel
theorem dL_part_27 : decode cL_part 27 = .ok (.lload_n 3, 1) := by decide +kernel
theorem dL_part_28 : decode cL_part 28 = .ok (.iload 5, 2) := by decide +kernel
theorem dL_part_30 : decode cL_part 30 = .ok (.lload_n 0, 1) := by decide +kernel
theorem dL_part_31 : decode cL_part 31 = .ok (.iload 6, 2) := by decide +kernel
theorem dL_part_33 : decode cL_part 33 = .ok (.invokestatic 31, 3) := by decide +kernel
theorem dL_part_36 : decode cL_part 36 = .ok (.invokestatic 35, 3) := by decide +kernel
theorem dL_part_39 : decode cL_part 39 = .ok (.lstore_n 3, 1) := by decide +kernel
theorem dL_part_40 : decode cL_part 40 = .ok (.iconst 0, 1) := by decide +kernel
theorem dL_part_41 : decode cL_part 41 = .ok (.istore 7, 2) := by decide +kernel
theorem dL_part_43 : decode cL_part 43 = .ok (.iconst 0, 1) := by decide +kernel
theorem dL_part_44 : decode cL_part 44 = .ok (.istore 8, 2) := by decide +kernel
theorem dL_part_46 : decode cL_part 46 = .ok (.iload 8, 2) := by decide +kernel
theorem dL_part_48 : decode cL_part 48 = .ok (.iload 6, 2) := by decide +kernel
theorem dL_part_50 : decode cL_part 50 = .ok (.if_icmp .ge 73, 3) := by decide +kernel
theorem dL_part_53 : decode cL_part 53 = .ok (.iload_n 2, 1) := by decide +kernel
theorem dL_part_54 : decode cL_part 54 = .ok (.iload 8, 2) := by decide +kernel
theorem dL_part_56 : decode cL_part 56 = .ok (.ishr, 1) := by decide +kernel
theorem dL_part_57 : decode cL_part 57 = .ok (.iconst 1, 1) := by decide +kernel
theorem dL_part_58 : decode cL_part 58 = .ok (.iand, 1) := by decide +kernel
theorem dL_part_59 : decode cL_part 59 = .ok (.iconst 1, 1) := by decide +kernel
theorem dL_part_60 : decode cL_part 60 = .ok (.if_icmp .ne 7, 3) := by decide +kernel
theorem dL_part_63 : decode cL_part 63 = .ok (.iconst 1, 1) := by decide +kernel
theorem dL_part_64 : decode cL_part 64 = .ok (.goto 4, 3) := by decide +kernel
theorem dL_part_67 : decode cL_part 67 = .ok (.iconst 0, 1) := by decide +kernel
theorem dL_part_68 : decode cL_part 68 = .ok (.istore 9, 2) := by decide +kernel
theorem dL_part_70 : decode cL_part 70 = .ok (.lload_n 3, 1) := by decide +kernel
theorem dL_part_71 : decode cL_part 71 = .ok (.iload 9, 2) := by decide +kernel
theorem dL_part_73 : decode cL_part 73 = .ok (.ifCond .eq 26, 3) := by decide +kernel
theorem dL_part_76 : decode cL_part 76 = .ok (.lload_n 0, 1) := by decide +kernel
theorem dL_part_77 : decode cL_part 77 = .ok (.iload 6, 2) := by decide +kernel
theorem dL_part_79 : decode cL_part 79 = .ok (.iload 8, 2) := by decide +kernel
theorem dL_part_81 : decode cL_part 81 = .ok (.invokestatic 39, 3) := by decide +kernel
theorem dL_part_84 : decode cL_part 84 = .ok (.ifCond .eq 15, 3) := by decide +kernel
theorem dL_part_87 : decode cL_part 87 = .ok (.lconst 1, 1) := by decide +kernel
theorem dL_part_88 : decode cL_part 88 = .ok (.iload 5, 2) := by decide +kernel
theorem dL_part_90 : decode cL_part 90 = .ok (.iload 7, 2) := by decide +kernel
theorem dL_part_92 : decode cL_part 92 = .ok (.invokestatic 9, 3) := by decide +kernel
theorem dL_part_95 : decode cL_part 95 = .ok (.lshl, 1) := by decide +kernel
theorem dL_part_96 : decode cL_part 96 = .ok (.goto 4, 3) := by decide +kernel
theorem dL_part_99 : decode cL_part 99 = .ok (.lconst 0, 1) := by decide +kernel
theorem dL_part_100 : decode cL_part 100 = .ok (.lor, 1) := by decide +kernel
theorem dL_part_101 : decode cL_part 101 = .ok (.lstore_n 3, 1) := by decide +kernel
theorem dL_part_102 : decode cL_part 102 = .ok (.iload 7, 2) := by decide +kernel
theorem dL_part_104 : decode cL_part 104 = .ok (.iload 9, 2) := by decide +kernel
theorem dL_part_106 : decode cL_part 106 = .ok (.ifCond .eq 7, 3) := by decide +kernel
theorem dL_part_109 : decode cL_part 109 = .ok (.iconst 1, 1) := by decide +kernel
theorem dL_part_110 : decode cL_part 110 = .ok (.goto 4, 3) := by decide +kernel
theorem dL_part_113 : decode cL_part 113 = .ok (.iconst 0, 1) := by decide +kernel
theorem dL_part_114 : decode cL_part 114 = .ok (.iadd, 1) := by decide +kernel
theorem dL_part_115 : decode cL_part 115 = .ok (.istore 7, 2) := by decide +kernel
theorem dL_part_117 : decode cL_part 117 = .ok (.iinc 8 1, 3) := by decide +kernel
theorem dL_part_120 : decode cL_part 120 = .ok (.goto (-74), 3) := by decide +kernel
theorem dL_part_123 : decode cL_part 123 = .ok (.iinc 5 1, 3) := by decide +kernel
theorem dL_part_126 : decode cL_part 126 = .ok (.iinc 6 1, 3) := by decide +kernel
theorem dL_part_129 : decode cL_part 129 = .ok (.goto (-121), 3) := by decide +kernel
theorem dL_part_132 : decode cL_part 132 = .ok (.lload_n 3, 1) := by decide +kernel
theorem dL_part_133 : decode cL_part 133 = .ok (.iload 5, 2) := by decide +kernel
theorem dL_part_135 : decode cL_part 135 = .ok (.i2l, 1) := by decide +kernel
theorem dL_part_136 : decode cL_part 136 = .ok (.bipush 52, 2) := by decide +kernel
theorem dL_part_138 : decode cL_part 138 = .ok (.lshl, 1) := by decide +kernel
theorem dL_part_139 : decode cL_part 139 = .ok (.lor, 1) := by decide +kernel
theorem dL_part_140 : decode cL_part 140 = .ok (.lreturn, 1) := by decide +kernel
set_option maxRecDepth 20000 in
theorem ggL_part_L_size : GoodIn wsL_part wsL_size := goodIn_r _ [4] (by decide +kernel) (by decide +kernel)
set_option maxRecDepth 20000 in
theorem gL_part_L_size : GoodIn wsL_part (va_wsS RL 23 yL_size wsL_size) := goodIn_app (goodIn_of _ (by decide +kernel)) ggL_part_L_size
set_option maxRecDepth 20000 in
theorem ggL_part_L_colour : GoodIn wsL_part wsL_colour := goodIn_r _ [7, 8] (by decide +kernel) (by decide +kernel)
set_option maxRecDepth 20000 in
theorem gL_part_L_colour : GoodIn wsL_part (va_wsS RL 31 yL_colour wsL_colour) := goodIn_app (goodIn_of _ (by decide +kernel)) ggL_part_L_colour
set_option maxRecDepth 20000 in
theorem ggL_part_L_coloured : GoodIn wsL_part wsL_coloured := goodIn_r _ [11, 8, 12] (by decide +kernel) (by decide +kernel)
set_option maxRecDepth 20000 in
theorem gL_part_L_coloured : GoodIn wsL_part (va_wsS RL 35 yL_coloured wsL_coloured) := goodIn_app (goodIn_of _ (by decide +kernel)) ggL_part_L_coloured
set_option maxRecDepth 20000 in
theorem ggL_part_L_edge : GoodIn wsL_part wsL_edge := goodIn_r _ [15, 16, 17, 3, 18] (by decide +kernel) (by decide +kernel)
set_option maxRecDepth 20000 in
theorem gL_part_L_edge : GoodIn wsL_part (va_wsS RL 39 yL_edge wsL_edge) := goodIn_app (goodIn_of _ (by decide +kernel)) ggL_part_L_edge
set_option maxRecDepth 20000 in
theorem ggL_part_L_bit : GoodIn wsL_part wsL_bit := goodIn_r _ [18] (by decide +kernel) (by decide +kernel)
set_option maxRecDepth 20000 in
theorem gL_part_L_bit : GoodIn wsL_part (va_wsS RL 9 yL_bit wsL_bit) := goodIn_app (goodIn_of _ (by decide +kernel)) ggL_part_L_bit
def r_L_part : Room := { frames := 3, cells := 0, slots := 0, locals := 59 }
set_option maxRecDepth 100000 in
set_option maxHeartbeats 4000000 in
theorem w_L_part_114 {K : zK} (hk : zIs K RL cL_part 10 wsL_part (some .long) r_L_part) {r0 : Int64} {τ0 : zST} (hq : zQ K (some (.long r0)) τ0) (F : Nat) (k8 : Int64 → Int32 → Int64 → Int32 → Int32 → zST → Option (Int64 × zST)) (hk8 : ∀ (a0 : Int64) (a2 : Int32) (a3 : Int64) (a5 : Int32) (a6 : Int32) (σ : zST), k8 a0 a2 a3 a5 a6 σ = some (r0, τ0) → Z K 0 0 8 [(0, .long a0), (2, .int a2), (3, .long a3), (5, .int a5), (6, .int a6)] [] σ) (k46 : Int64 → Int32 → Int64 → Int32 → Int32 → Int32 → Int32 → zST → Option (Int64 × zST)) (hk46 : ∀ (a0 : Int64) (a2 : Int32) (a3 : Int64) (a5 : Int32) (a6 : Int32) (a7 : Int32) (a8 : Int32) (σ : zST), k46 a0 a2 a3 a5 a6 a7 a8 σ = some (r0, τ0) → Z K 0 0 46 [(0, .long a0), (2, .int a2), (3, .long a3), (5, .int a5), (6, .int a6), (7, .int a7), (8, .int a8)] [] σ) (a0 : Int64) (a2 : Int32) (a3 : Int64) (a5 : Int32) (a6 : Int32) (a8 : Int32) (t0 : Int32) (t1 : Int32) (σ : zST) (h : m_L_part_114 F k8 k46 a0 a2 a3 a5 a6 a8 t0 t1 σ = some (r0, τ0)) : Z K 0 0 114 [(0, .long a0), (2, .int a2), (3, .long a3), (5, .int a5), (6, .int a6), (8, .int a8)] [.int t0, .int t1] σ := by
  unfold m_L_part_114 at h
  refine Z_iadd hk dL_part_114 ?_
  obtain ⟨x29, e30, h⟩ := nm_get h
  refine Z_eqI e30 ?_
  refine Z_istore hk (lv' := [(7, .int x29), (0, .long a0), (2, .int a2), (3, .long a3), (5, .int a5), (6, .int a6), (8, .int a8)]) dL_part_115 (by decide) rfl ?_
  obtain ⟨x31, e32, h⟩ := nm_get h
  refine Z_iinc hk 6 (v := x31) (lv' := [(8, .int x31), (7, .int x29), (0, .long a0), (2, .int a2), (3, .long a3), (5, .int a5), (6, .int a6)]) dL_part_117 rfl (by rw [zc_iinc_1]; exact e32) (by decide) rfl ?_
  refine Z_goto hk (tgt := 46) dL_part_120 (by decide) ?_
  refine Z_sub [2, 3, 4, 5, 6, 1, 0] rfl ?_
  exact hk46 a0 a2 a3 a5 a6 x29 x31 σ h
set_option maxRecDepth 100000 in
set_option maxHeartbeats 4000000 in
theorem w_L_part_100 {K : zK} (hk : zIs K RL cL_part 10 wsL_part (some .long) r_L_part) {r0 : Int64} {τ0 : zST} (hq : zQ K (some (.long r0)) τ0) (F : Nat) (k8 : Int64 → Int32 → Int64 → Int32 → Int32 → zST → Option (Int64 × zST)) (hk8 : ∀ (a0 : Int64) (a2 : Int32) (a3 : Int64) (a5 : Int32) (a6 : Int32) (σ : zST), k8 a0 a2 a3 a5 a6 σ = some (r0, τ0) → Z K 0 0 8 [(0, .long a0), (2, .int a2), (3, .long a3), (5, .int a5), (6, .int a6)] [] σ) (k46 : Int64 → Int32 → Int64 → Int32 → Int32 → Int32 → Int32 → zST → Option (Int64 × zST)) (hk46 : ∀ (a0 : Int64) (a2 : Int32) (a3 : Int64) (a5 : Int32) (a6 : Int32) (a7 : Int32) (a8 : Int32) (σ : zST), k46 a0 a2 a3 a5 a6 a7 a8 σ = some (r0, τ0) → Z K 0 0 46 [(0, .long a0), (2, .int a2), (3, .long a3), (5, .int a5), (6, .int a6), (7, .int a7), (8, .int a8)] [] σ) (a0 : Int64) (a2 : Int32) (a5 : Int32) (a6 : Int32) (a7 : Int32) (a8 : Int32) (a9 : Int32) (t0 : Int64) (t1 : Int64) (σ : zST) (h : m_L_part_100 F k8 k46 a0 a2 a5 a6 a7 a8 a9 t0 t1 σ = some (r0, τ0)) : Z K 0 0 100 [(0, .long a0), (2, .int a2), (5, .int a5), (6, .int a6), (7, .int a7), (8, .int a8), (9, .int a9)] [.long t0, .long t1] σ := by
  unfold m_L_part_100 at h
  refine Z_lor hk dL_part_100 ?_
  obtain ⟨x26, e27, h⟩ := nm_get h
  refine Z_eqL e27 ?_
  refine Z_lstore_n hk (lv' := [(3, .long x26), (0, .long a0), (2, .int a2), (5, .int a5), (6, .int a6), (7, .int a7), (8, .int a8), (9, .int a9)]) dL_part_101 rfl (by decide) rfl ?_
  refine Z_iload hk 5 dL_part_102 rfl ?_
  refine Z_iload hk 7 dL_part_104 rfl ?_
  refine Z_if_eq hk (tgt := 113) dL_part_106 (by decide) (fun c28 => ?_) (fun c28 => ?_)
  · have h := if_yes h c28
    refine Z_iconst hk dL_part_113 zc_iconst_0 ?_
    refine Z_sub [1, 2, 0, 3, 4, 6] rfl ?_
    exact w_L_part_114 hk hq F k8 hk8 k46 hk46 a0 a2 x26 a5 a6 a8 0 a7 σ h
  · have h := if_no h c28
    refine Z_iconst hk dL_part_109 zc_iconst_1 ?_
    refine Z_goto hk (tgt := 114) dL_part_110 (by decide) ?_
    refine Z_sub [1, 2, 0, 3, 4, 6] rfl ?_
    exact w_L_part_114 hk hq F k8 hk8 k46 hk46 a0 a2 x26 a5 a6 a8 1 a7 σ h
set_option maxRecDepth 100000 in
set_option maxHeartbeats 4000000 in
theorem w_L_part_99 {K : zK} (hk : zIs K RL cL_part 10 wsL_part (some .long) r_L_part) {r0 : Int64} {τ0 : zST} (hq : zQ K (some (.long r0)) τ0) (F : Nat) (k8 : Int64 → Int32 → Int64 → Int32 → Int32 → zST → Option (Int64 × zST)) (hk8 : ∀ (a0 : Int64) (a2 : Int32) (a3 : Int64) (a5 : Int32) (a6 : Int32) (σ : zST), k8 a0 a2 a3 a5 a6 σ = some (r0, τ0) → Z K 0 0 8 [(0, .long a0), (2, .int a2), (3, .long a3), (5, .int a5), (6, .int a6)] [] σ) (k46 : Int64 → Int32 → Int64 → Int32 → Int32 → Int32 → Int32 → zST → Option (Int64 × zST)) (hk46 : ∀ (a0 : Int64) (a2 : Int32) (a3 : Int64) (a5 : Int32) (a6 : Int32) (a7 : Int32) (a8 : Int32) (σ : zST), k46 a0 a2 a3 a5 a6 a7 a8 σ = some (r0, τ0) → Z K 0 0 46 [(0, .long a0), (2, .int a2), (3, .long a3), (5, .int a5), (6, .int a6), (7, .int a7), (8, .int a8)] [] σ) (a0 : Int64) (a2 : Int32) (a5 : Int32) (a6 : Int32) (a7 : Int32) (a8 : Int32) (a9 : Int32) (t0 : Int64) (σ : zST) (h : m_L_part_99 F k8 k46 a0 a2 a5 a6 a7 a8 a9 t0 σ = some (r0, τ0)) : Z K 0 0 99 [(0, .long a0), (2, .int a2), (5, .int a5), (6, .int a6), (7, .int a7), (8, .int a8), (9, .int a9)] [.long t0] σ := by
  unfold m_L_part_99 at h
  refine Z_lconst hk dL_part_99 (v := 0) rfl ?_
  refine Z_sub [0, 1, 2, 3, 4, 5, 6] rfl ?_
  exact w_L_part_100 hk hq F k8 hk8 k46 hk46 a0 a2 a5 a6 a7 a8 a9 0 t0 σ h
set_option maxRecDepth 100000 in
set_option maxHeartbeats 4000000 in
theorem w_L_part_68 {K : zK} (hk : zIs K RL cL_part 10 wsL_part (some .long) r_L_part) {r0 : Int64} {τ0 : zST} (hq : zQ K (some (.long r0)) τ0) (F : Nat) (k8 : Int64 → Int32 → Int64 → Int32 → Int32 → zST → Option (Int64 × zST)) (hk8 : ∀ (a0 : Int64) (a2 : Int32) (a3 : Int64) (a5 : Int32) (a6 : Int32) (σ : zST), k8 a0 a2 a3 a5 a6 σ = some (r0, τ0) → Z K 0 0 8 [(0, .long a0), (2, .int a2), (3, .long a3), (5, .int a5), (6, .int a6)] [] σ) (k46 : Int64 → Int32 → Int64 → Int32 → Int32 → Int32 → Int32 → zST → Option (Int64 × zST)) (hk46 : ∀ (a0 : Int64) (a2 : Int32) (a3 : Int64) (a5 : Int32) (a6 : Int32) (a7 : Int32) (a8 : Int32) (σ : zST), k46 a0 a2 a3 a5 a6 a7 a8 σ = some (r0, τ0) → Z K 0 0 46 [(0, .long a0), (2, .int a2), (3, .long a3), (5, .int a5), (6, .int a6), (7, .int a7), (8, .int a8)] [] σ) (a0 : Int64) (a2 : Int32) (a3 : Int64) (a5 : Int32) (a6 : Int32) (a7 : Int32) (a8 : Int32) (t0 : Int32) (σ : zST) (h : m_L_part_68 F k8 k46 a0 a2 a3 a5 a6 a7 a8 t0 σ = some (r0, τ0)) : Z K 0 0 68 [(0, .long a0), (2, .int a2), (3, .long a3), (5, .int a5), (6, .int a6), (7, .int a7), (8, .int a8)] [.int t0] σ := by
  unfold m_L_part_68 at h
  refine Z_istore hk (lv' := [(9, .int t0), (0, .long a0), (2, .int a2), (3, .long a3), (5, .int a5), (6, .int a6), (7, .int a7), (8, .int a8)]) dL_part_68 (by decide) rfl ?_
  refine Z_lload_n hk 3 dL_part_70 rfl rfl ?_
  refine Z_iload hk 0 dL_part_71 rfl ?_
  refine Z_if_eq hk (tgt := 99) dL_part_73 (by decide) (fun c18 => ?_) (fun c18 => ?_)
  · have h := if_yes h c18
    refine Z_sub [1, 2, 4, 5, 6, 7, 0] rfl ?_
    exact w_L_part_99 hk hq F k8 hk8 k46 hk46 a0 a2 a5 a6 a7 a8 t0 a3 σ h
  · have h := if_no h c18
    refine Z_lload_n hk 1 dL_part_76 rfl rfl ?_
    refine Z_iload hk 5 dL_part_77 rfl ?_
    refine Z_iload hk 7 dL_part_79 rfl ?_
    obtain ⟨x19, s20, h21, h⟩ := bd_ok h
    refine Z_callT 3 hk [.long a0, .int a6, .int a8] (c_L_edge hk.loc hk.inj F a0 a6 a8 σ h21) gL_part_L_edge rfl ⟨rfl, rfl⟩ (by decide +kernel) ⟨Nat.le_of_ble_eq_true rfl, Nat.le_of_ble_eq_true rfl⟩ rfl rfl (Nat.le_of_ble_eq_true rfl) ⟨Nat.zero_le _, Nat.zero_le _⟩ dL_part_81 ?_
    show Z K 0 0 84 [(9, .int t0), (0, .long a0), (2, .int a2), (3, .long a3), (5, .int a5), (6, .int a6), (7, .int a7), (8, .int a8)] [.int x19, .long a3] s20
    refine Z_if_eq hk (tgt := 99) dL_part_84 (by decide) (fun c22 => ?_) (fun c22 => ?_)
    · have h := if_yes h c22
      refine Z_sub [1, 2, 4, 5, 6, 7, 0] rfl ?_
      exact w_L_part_99 hk hq F k8 hk8 k46 hk46 a0 a2 a5 a6 a7 a8 t0 a3 s20 h
    · have h := if_no h c22
      refine Z_lconst hk dL_part_87 (v := 1) rfl ?_
      refine Z_iload hk 4 dL_part_88 rfl ?_
      refine Z_iload hk 6 dL_part_90 rfl ?_
      obtain ⟨x23, s24, h25, h⟩ := bd_ok h
      refine Z_callT 2 hk [.int a5, .int a7] (c_L_bit hk.loc hk.inj F a5 a7 s20 h25) gL_part_L_bit rfl ⟨rfl, rfl⟩ (by decide +kernel) ⟨Nat.le_of_ble_eq_true rfl, Nat.le_of_ble_eq_true rfl⟩ rfl rfl (Nat.le_of_ble_eq_true rfl) ⟨Nat.zero_le _, Nat.zero_le _⟩ dL_part_92 ?_
      show Z K 0 0 95 [(9, .int t0), (0, .long a0), (2, .int a2), (3, .long a3), (5, .int a5), (6, .int a6), (7, .int a7), (8, .int a8)] [.int x23, .long 1, .long a3] s24
      refine Z_lshl hk dL_part_95 ?_
      refine Z_goto hk (tgt := 100) dL_part_96 (by decide) ?_
      refine Z_sub [1, 2, 4, 5, 6, 7, 0] rfl ?_
      exact w_L_part_100 hk hq F k8 hk8 k46 hk46 a0 a2 a5 a6 a7 a8 t0 (jlshl 1 x23) a3 s24 h
set_option maxRecDepth 100000 in
set_option maxHeartbeats 4000000 in
theorem w_L_part_126 {K : zK} (hk : zIs K RL cL_part 10 wsL_part (some .long) r_L_part) {r0 : Int64} {τ0 : zST} (hq : zQ K (some (.long r0)) τ0) (F : Nat) (k8 : Int64 → Int32 → Int64 → Int32 → Int32 → zST → Option (Int64 × zST)) (hk8 : ∀ (a0 : Int64) (a2 : Int32) (a3 : Int64) (a5 : Int32) (a6 : Int32) (σ : zST), k8 a0 a2 a3 a5 a6 σ = some (r0, τ0) → Z K 0 0 8 [(0, .long a0), (2, .int a2), (3, .long a3), (5, .int a5), (6, .int a6)] [] σ) (a0 : Int64) (a2 : Int32) (a3 : Int64) (a5 : Int32) (a6 : Int32) (σ : zST) (h : m_L_part_126 F k8 a0 a2 a3 a5 a6 σ = some (r0, τ0)) : Z K 0 0 126 [(0, .long a0), (2, .int a2), (3, .long a3), (5, .int a5), (6, .int a6)] [] σ := by
  unfold m_L_part_126 at h
  obtain ⟨x16, e17, h⟩ := nm_get h
  refine Z_iinc hk 4 (v := x16) (lv' := [(6, .int x16), (0, .long a0), (2, .int a2), (3, .long a3), (5, .int a5)]) dL_part_126 rfl (by rw [zc_iinc_1]; exact e17) (by decide) rfl ?_
  refine Z_goto hk (tgt := 8) dL_part_129 (by decide) ?_
  refine Z_sub [1, 2, 3, 4, 0] rfl ?_
  exact hk8 a0 a2 a3 a5 x16 σ h
set_option maxRecDepth 100000 in
set_option maxHeartbeats 4000000 in
theorem w_L_part_46 {K : zK} (hk : zIs K RL cL_part 10 wsL_part (some .long) r_L_part) {r0 : Int64} {τ0 : zST} (hq : zQ K (some (.long r0)) τ0) (F : Nat) (k8 : Int64 → Int32 → Int64 → Int32 → Int32 → zST → Option (Int64 × zST)) (hk8 : ∀ (a0 : Int64) (a2 : Int32) (a3 : Int64) (a5 : Int32) (a6 : Int32) (σ : zST), k8 a0 a2 a3 a5 a6 σ = some (r0, τ0) → Z K 0 0 8 [(0, .long a0), (2, .int a2), (3, .long a3), (5, .int a5), (6, .int a6)] [] σ) : ∀ (n : Nat) (a0 : Int64) (a2 : Int32) (a3 : Int64) (a5 : Int32) (a6 : Int32) (a7 : Int32) (a8 : Int32) (σ : zST), m_L_part_46 F k8 n a0 a2 a3 a5 a6 a7 a8 σ = some (r0, τ0) → Z K 0 0 46 [(0, .long a0), (2, .int a2), (3, .long a3), (5, .int a5), (6, .int a6), (7, .int a7), (8, .int a8)] [] σ := by
  intro n
  induction n with
  | zero => intro a0 a2 a3 a5 a6 a7 a8 σ h; cases h
  | succ n ih =>
    intro a0 a2 a3 a5 a6 a7 a8 σ h
    rw [m_L_part_46] at h
    refine Z_iload hk 6 dL_part_46 rfl ?_
    refine Z_iload hk 4 dL_part_48 rfl ?_
    refine Z_icmp_ge hk (tgt := 123) dL_part_50 (by decide) (fun c12 => ?_) (fun c12 => ?_)
    · have h := if_yes h c12
      obtain ⟨x13, e14, h⟩ := nm_get h
      refine Z_iinc hk 3 (v := x13) (lv' := [(5, .int x13), (0, .long a0), (2, .int a2), (3, .long a3), (6, .int a6), (7, .int a7), (8, .int a8)]) dL_part_123 rfl (by rw [zc_iinc_1]; exact e14) (by decide) rfl ?_
      refine Z_sub [1, 2, 3, 0, 4] rfl ?_
      exact w_L_part_126 hk hq F k8 hk8 a0 a2 a3 x13 a6 σ h
    · have h := if_no h c12
      refine Z_iload_n hk 1 dL_part_53 rfl rfl ?_
      refine Z_iload hk 6 dL_part_54 rfl ?_
      refine Z_ishr hk dL_part_56 ?_
      refine Z_iconst hk dL_part_57 zc_iconst_1 ?_
      refine Z_iand hk dL_part_58 ?_
      refine Z_iconst hk dL_part_59 zc_iconst_1 ?_
      refine Z_icmp_ne hk (tgt := 67) dL_part_60 (by decide) (fun c15 => ?_) (fun c15 => ?_)
      · have h := if_yes h c15
        refine Z_iconst hk dL_part_63 zc_iconst_1 ?_
        refine Z_goto hk (tgt := 68) dL_part_64 (by decide) ?_
        refine Z_sub [0, 1, 2, 3, 4, 5, 6] rfl ?_
        exact w_L_part_68 hk hq F k8 hk8 (m_L_part_46 F k8 n) ih a0 a2 a3 a5 a6 a7 a8 1 σ h
      · have h := if_no h c15
        refine Z_iconst hk dL_part_67 zc_iconst_0 ?_
        refine Z_sub [0, 1, 2, 3, 4, 5, 6] rfl ?_
        exact w_L_part_68 hk hq F k8 hk8 (m_L_part_46 F k8 n) ih a0 a2 a3 a5 a6 a7 a8 0 σ h
set_option maxRecDepth 100000 in
set_option maxHeartbeats 4000000 in
theorem w_L_part_8 {K : zK} (hk : zIs K RL cL_part 10 wsL_part (some .long) r_L_part) {r0 : Int64} {τ0 : zST} (hq : zQ K (some (.long r0)) τ0) (F : Nat) : ∀ (n : Nat) (a0 : Int64) (a2 : Int32) (a3 : Int64) (a5 : Int32) (a6 : Int32) (σ : zST), m_L_part_8 F n a0 a2 a3 a5 a6 σ = some (r0, τ0) → Z K 0 0 8 [(0, .long a0), (2, .int a2), (3, .long a3), (5, .int a5), (6, .int a6)] [] σ := by
  intro n
  induction n with
  | zero => intro a0 a2 a3 a5 a6 σ h; cases h
  | succ n ih =>
    intro a0 a2 a3 a5 a6 σ h
    rw [m_L_part_8] at h
    refine Z_iload hk 4 dL_part_8 rfl ?_
    refine Z_lload_n hk 0 dL_part_10 rfl rfl ?_
    obtain ⟨x1, s2, h3, h⟩ := bd_ok h
    refine Z_callT 1 hk [.long a0] (c_L_size hk.loc hk.inj F a0 σ h3) gL_part_L_size rfl ⟨rfl, rfl⟩ (by decide +kernel) ⟨Nat.le_of_ble_eq_true rfl, Nat.le_of_ble_eq_true rfl⟩ rfl rfl (Nat.le_of_ble_eq_true rfl) ⟨Nat.zero_le _, Nat.zero_le _⟩ dL_part_11 ?_
    show Z K 0 0 14 [(0, .long a0), (2, .int a2), (3, .long a3), (5, .int a5), (6, .int a6)] [.int x1, .int a6] s2
    refine Z_icmp_ge hk (tgt := 132) dL_part_14 (by decide) (fun c4 => ?_) (fun c4 => ?_)
    · have h := if_yes h c4
      refine Z_lload_n hk 2 dL_part_132 rfl rfl ?_
      refine Z_iload hk 3 dL_part_133 rfl ?_
      refine Z_i2l hk dL_part_135 ?_
      refine Z_bipush hk dL_part_136 zc_bipush_52 ?_
      refine Z_lshl hk dL_part_138 ?_
      refine Z_lor hk dL_part_139 ?_
      cases h
      exact Z_lret hk hq dL_part_140
    · have h := if_no h c4
      refine Z_iload_n hk 1 dL_part_17 rfl rfl ?_
      refine Z_iload hk 4 dL_part_18 rfl ?_
      refine Z_ishr hk dL_part_20 ?_
      refine Z_iconst hk dL_part_21 zc_iconst_1 ?_
      refine Z_iand hk dL_part_22 ?_
      refine Z_iconst hk dL_part_23 zc_iconst_1 ?_
      refine Z_icmp_ne hk (tgt := 126) dL_part_24 (by decide) (fun c5 => ?_) (fun c5 => ?_)
      · have h := if_yes h c5
        refine Z_lload_n hk 2 dL_part_27 rfl rfl ?_
        refine Z_iload hk 3 dL_part_28 rfl ?_
        refine Z_lload_n hk 0 dL_part_30 rfl rfl ?_
        refine Z_iload hk 4 dL_part_31 rfl ?_
        obtain ⟨x6, s7, h8, h⟩ := bd_ok h
        refine Z_callT 2 hk [.long a0, .int a6] (c_L_colour hk.loc hk.inj F a0 a6 s2 h8) gL_part_L_colour rfl ⟨rfl, rfl⟩ (by decide +kernel) ⟨Nat.le_of_ble_eq_true rfl, Nat.le_of_ble_eq_true rfl⟩ rfl rfl (Nat.le_of_ble_eq_true rfl) ⟨Nat.zero_le _, Nat.zero_le _⟩ dL_part_33 ?_
        show Z K 0 0 36 [(0, .long a0), (2, .int a2), (3, .long a3), (5, .int a5), (6, .int a6)] [.int x6, .int a5, .long a3] s7
        obtain ⟨x9, s10, h11, h⟩ := bd_ok h
        refine Z_callT 3 hk [.long a3, .int a5, .int x6] (c_L_coloured hk.loc hk.inj F a3 a5 x6 s7 h11) gL_part_L_coloured rfl ⟨rfl, rfl⟩ (by decide +kernel) ⟨Nat.le_of_ble_eq_true rfl, Nat.le_of_ble_eq_true rfl⟩ rfl rfl (Nat.le_of_ble_eq_true rfl) ⟨Nat.zero_le _, Nat.zero_le _⟩ dL_part_36 ?_
        show Z K 0 0 39 [(0, .long a0), (2, .int a2), (3, .long a3), (5, .int a5), (6, .int a6)] [.long x9] s10
        refine Z_lstore_n hk (lv' := [(3, .long x9), (0, .long a0), (2, .int a2), (5, .int a5), (6, .int a6)]) dL_part_39 rfl (by decide) rfl ?_
        refine Z_iconst hk dL_part_40 zc_iconst_0 ?_
        refine Z_istore hk (lv' := [(7, .int 0), (3, .long x9), (0, .long a0), (2, .int a2), (5, .int a5), (6, .int a6)]) dL_part_41 (by decide) rfl ?_
        refine Z_iconst hk dL_part_43 zc_iconst_0 ?_
        refine Z_istore hk (lv' := [(8, .int 0), (7, .int 0), (3, .long x9), (0, .long a0), (2, .int a2), (5, .int a5), (6, .int a6)]) dL_part_44 (by decide) rfl ?_
        refine Z_sub [3, 4, 2, 5, 6, 1, 0] rfl ?_
        exact w_L_part_46 hk hq F (m_L_part_8 F n) ih F a0 a2 x9 a5 a6 0 0 s10 h
      · have h := if_no h c5
        refine Z_sub [0, 1, 2, 3, 4] rfl ?_
        exact w_L_part_126 hk hq F (m_L_part_8 F n) ih a0 a2 a3 a5 a6 s2 h
set_option maxRecDepth 100000 in
set_option maxHeartbeats 4000000 in
theorem w_L_part {K : zK} (hk : zIs K RL cL_part 10 wsL_part (some .long) r_L_part) {r0 : Int64} {τ0 : zST} (hq : zQ K (some (.long r0)) τ0) (F : Nat) (a0 : Int64) (a2 : Int32) (σ : zST) (h : m_L_part F a0 a2 σ = some (r0, τ0)) : Z K 0 0 0 [(0, .long a0), (2, .int a2)] [] σ := by
  unfold m_L_part at h
  refine Z_lconst hk dL_part_0 (v := 0) rfl ?_
  refine Z_lstore_n hk (lv' := [(3, .long 0), (0, .long a0), (2, .int a2)]) dL_part_1 rfl (by decide) rfl ?_
  refine Z_iconst hk dL_part_2 zc_iconst_0 ?_
  refine Z_istore hk (lv' := [(5, .int 0), (3, .long 0), (0, .long a0), (2, .int a2)]) dL_part_3 (by decide) rfl ?_
  refine Z_iconst hk dL_part_5 zc_iconst_0 ?_
  refine Z_istore hk (lv' := [(6, .int 0), (5, .int 0), (3, .long 0), (0, .long a0), (2, .int a2)]) dL_part_6 (by decide) rfl ?_
  refine Z_sub [3, 4, 2, 1, 0] rfl ?_
  exact w_L_part_8 hk hq F F a0 a2 0 0 0 σ h
theorem c_L_part {l : Launch} {E : zE} (hL : eL E) (hJ : eJ E) (F : Nat) (a0 : Int64) (a2 : Int32) (σ : zST) {r0 : Int64} {τ0 : zST} (h : m_L_part F a0 a2 σ = some (r0, τ0)) : Ct l yL_part wsL_part r_L_part E [.long a0, .int a2] σ (some (.long r0)) τ0 := by
  refine Ct_of (by decide) rfl hL hJ (Nat.le_of_ble_eq_true rfl) (fun K hE hl hk hq => ?_)
  subst hE
  exact w_L_part hk hq F a0 a2 σ h
end

-- CanonCoteLaw.told (I)J
section
theorem dL_told_0 : decode cL_told 0 = .ok (.iload_n 0, 1) := by decide +kernel
theorem dL_told_1 : decode cL_told 1 = .ok (.iconst 2, 1) := by decide +kernel
theorem dL_told_2 : decode cL_told 2 = .ok (.irem, 1) := by decide +kernel
theorem dL_told_3 : decode cL_told 3 = .ok (.ifCond .ne 9, 3) := by decide +kernel
theorem dL_told_6 : decode cL_told 6 = .ok (.ldc2_w 130, 3) := by decide +kernel
theorem dL_told_9 : decode cL_told 9 = .ok (.goto 6, 3) := by decide +kernel
theorem dL_told_12 : decode cL_told 12 = .ok (.ldc2_w 132, 3) := by decide +kernel
theorem dL_told_15 : decode cL_told 15 = .ok (.lstore_n 1, 1) := by decide +kernel
theorem dL_told_16 : decode cL_told 16 = .ok (.iconst 0, 1) := by decide +kernel
theorem dL_told_17 : decode cL_told 17 = .ok (.istore_n 3, 1) := by decide +kernel
theorem dL_told_18 : decode cL_told 18 = .ok (.iload_n 3, 1) := by decide +kernel
theorem dL_told_19 : decode cL_told 19 = .ok (.iconst 4, 1) := by decide +kernel
theorem dL_told_20 : decode cL_told 20 = .ok (.if_icmp .ge 28, 3) := by decide +kernel
theorem dL_told_23 : decode cL_told 23 = .ok (.lload_n 1, 1) := by decide +kernel
theorem dL_told_24 : decode cL_told 24 = .ok (.iconst 4, 1) := by decide +kernel
theorem dL_told_25 : decode cL_told 25 = .ok (.iload_n 0, 1) := by decide +kernel
theorem dL_told_26 : decode cL_told 26 = .ok (.iconst 2, 1) := by decide +kernel
theorem dL_told_27 : decode cL_told 27 = .ok (.idiv, 1) := by decide +kernel
theorem dL_told_28 : decode cL_told 28 = .ok (.bipush 24, 2) := by decide +kernel
theorem dL_told_30 : decode cL_told 30 = .ok (.irem, 1) := by decide +kernel
theorem dL_told_31 : decode cL_told 31 = .ok (.iload_n 3, 1) := by decide +kernel
theorem dL_told_32 : decode cL_told 32 = .ok (.invokestatic 27, 3) := by decide +kernel
theorem dL_told_35 : decode cL_told 35 = .ok (.i2l, 1) := by decide +kernel
theorem dL_told_36 : decode cL_told 36 = .ok (.iconst 4, 1) := by decide +kernel
theorem dL_told_37 : decode cL_told 37 = .ok (.iload_n 3, 1) := by decide +kernel
theorem dL_told_38 : decode cL_told 38 = .ok (.imul, 1) := by decide +kernel
theorem dL_told_39 : decode cL_told 39 = .ok (.lshl, 1) := by decide +kernel
theorem dL_told_40 : decode cL_told 40 = .ok (.lor, 1) := by decide +kernel
theorem dL_told_41 : decode cL_told 41 = .ok (.lstore_n 1, 1) := by decide +kernel
theorem dL_told_42 : decode cL_told 42 = .ok (.iinc 3 1, 3) := by decide +kernel
theorem dL_told_45 : decode cL_told 45 = .ok (.goto (-27), 3) := by decide +kernel
theorem dL_told_48 : decode cL_told 48 = .ok (.lload_n 1, 1) := by decide +kernel
theorem dL_told_49 : decode cL_told 49 = .ok (.lreturn, 1) := by decide +kernel
set_option maxRecDepth 20000 in
theorem ggL_told_L_image : GoodIn wsL_told wsL_image := goodIn_r _ [6, 7, 8, 5, 9] (by decide +kernel) (by decide +kernel)
set_option maxRecDepth 20000 in
theorem gL_told_L_image : GoodIn wsL_told (va_wsS RL 27 yL_image wsL_image) := goodIn_app (goodIn_of _ (by decide +kernel)) ggL_told_L_image
theorem wd_L_told_0 : Cond.constantLong RL 130 1985216512 ∈ wsL_told := by decide +kernel
theorem wd_L_told_1 : Cond.constantLong RL 132 1984233472 ∈ wsL_told := by decide +kernel
def r_L_told : Room := { frames := 3, cells := 0, slots := 0, locals := 62 }
set_option maxRecDepth 100000 in
set_option maxHeartbeats 4000000 in
theorem w_L_told_18 {K : zK} (hk : zIs K RL cL_told 4 wsL_told (some .long) r_L_told) {r0 : Int64} {τ0 : zST} (hq : zQ K (some (.long r0)) τ0) (F : Nat) : ∀ (n : Nat) (a0 : Int32) (a1 : Int64) (a3 : Int32) (σ : zST), m_L_told_18 F n a0 a1 a3 σ = some (r0, τ0) → Z K 0 0 18 [(0, .int a0), (1, .long a1), (3, .int a3)] [] σ := by
  intro n
  induction n with
  | zero => intro a0 a1 a3 σ h; cases h
  | succ n ih =>
    intro a0 a1 a3 σ h
    rw [m_L_told_18] at h
    refine Z_iload_n hk 2 dL_told_18 rfl rfl ?_
    refine Z_iconst hk dL_told_19 zc_iconst_4 ?_
    refine Z_icmp_ge hk (tgt := 48) dL_told_20 (by decide) (fun c2 => ?_) (fun c2 => ?_)
    · have h := if_yes h c2
      refine Z_lload_n hk 1 dL_told_48 rfl rfl ?_
      cases h
      exact Z_lret hk hq dL_told_49
    · have h := if_no h c2
      refine Z_lload_n hk 1 dL_told_23 rfl rfl ?_
      refine Z_iconst hk dL_told_24 zc_iconst_4 ?_
      refine Z_iload_n hk 0 dL_told_25 rfl rfl ?_
      refine Z_iconst hk dL_told_26 zc_iconst_2 ?_
      refine Z_idiv hk dL_told_27 (by decide) ?_
      refine Z_bipush hk dL_told_28 zc_bipush_24 ?_
      refine Z_irem hk dL_told_30 (by decide) ?_
      refine Z_iload_n hk 2 dL_told_31 rfl rfl ?_
      obtain ⟨x3, s4, h5, h⟩ := bd_ok h
      refine Z_callT 3 hk [.int 4, .int ((a0 / 2) - (a0 / 2) / 24 * 24), .int a3] (c_L_image hk.loc hk.inj F 4 ((a0 / 2) - (a0 / 2) / 24 * 24) a3 σ h5) gL_told_L_image rfl ⟨rfl, rfl⟩ (by decide +kernel) ⟨Nat.le_of_ble_eq_true rfl, Nat.le_of_ble_eq_true rfl⟩ rfl rfl (Nat.le_of_ble_eq_true rfl) ⟨Nat.zero_le _, Nat.zero_le _⟩ dL_told_32 ?_
      show Z K 0 0 35 [(0, .int a0), (1, .long a1), (3, .int a3)] [.int x3, .long a1] s4
      refine Z_i2l hk dL_told_35 ?_
      refine Z_iconst hk dL_told_36 zc_iconst_4 ?_
      refine Z_iload_n hk 2 dL_told_37 rfl rfl ?_
      refine Z_imul hk dL_told_38 ?_
      refine Z_lshl hk dL_told_39 ?_
      refine Z_lor hk dL_told_40 ?_
      obtain ⟨x6, e7, h⟩ := nm_get h
      refine Z_eqL e7 ?_
      refine Z_lstore_n hk (lv' := [(1, .long x6), (0, .int a0), (3, .int a3)]) dL_told_41 rfl (by decide) rfl ?_
      obtain ⟨x8, e9, h⟩ := nm_get h
      refine Z_iinc hk 2 (v := x8) (lv' := [(3, .int x8), (1, .long x6), (0, .int a0)]) dL_told_42 rfl (by rw [zc_iinc_1]; exact e9) (by decide) rfl ?_
      refine Z_goto hk (tgt := 18) dL_told_45 (by decide) ?_
      refine Z_sub [2, 1, 0] rfl ?_
      exact ih a0 x6 x8 s4 h
set_option maxRecDepth 100000 in
set_option maxHeartbeats 4000000 in
theorem w_L_told_15 {K : zK} (hk : zIs K RL cL_told 4 wsL_told (some .long) r_L_told) {r0 : Int64} {τ0 : zST} (hq : zQ K (some (.long r0)) τ0) (F : Nat) (a0 : Int32) (t0 : Int64) (σ : zST) (h : m_L_told_15 F a0 t0 σ = some (r0, τ0)) : Z K 0 0 15 [(0, .int a0)] [.long t0] σ := by
  unfold m_L_told_15 at h
  refine Z_lstore_n hk (lv' := [(1, .long t0), (0, .int a0)]) dL_told_15 rfl (by decide) rfl ?_
  refine Z_iconst hk dL_told_16 zc_iconst_0 ?_
  refine Z_istore_n hk (lv' := [(3, .int 0), (1, .long t0), (0, .int a0)]) dL_told_17 rfl (by decide) rfl ?_
  refine Z_sub [2, 1, 0] rfl ?_
  exact w_L_told_18 hk hq F F a0 t0 0 σ h
set_option maxRecDepth 100000 in
set_option maxHeartbeats 4000000 in
theorem w_L_told {K : zK} (hk : zIs K RL cL_told 4 wsL_told (some .long) r_L_told) {r0 : Int64} {τ0 : zST} (hq : zQ K (some (.long r0)) τ0) (F : Nat) (a0 : Int32) (σ : zST) (h : m_L_told F a0 σ = some (r0, τ0)) : Z K 0 0 0 [(0, .int a0)] [] σ := by
  unfold m_L_told at h
  refine Z_iload_n hk 0 dL_told_0 rfl rfl ?_
  refine Z_iconst hk dL_told_1 zc_iconst_2 ?_
  refine Z_irem hk dL_told_2 (by decide) ?_
  refine Z_if_ne hk (tgt := 12) dL_told_3 (by decide) (fun c1 => ?_) (fun c1 => ?_)
  · have h := if_yes h c1
    refine Z_ldc2 hk (v := 1985216512) dL_told_6 wd_L_told_0 ?_
    refine Z_goto hk (tgt := 15) dL_told_9 (by decide) ?_
    refine Z_sub [0] rfl ?_
    exact w_L_told_15 hk hq F a0 1985216512 σ h
  · have h := if_no h c1
    refine Z_ldc2 hk (v := 1984233472) dL_told_12 wd_L_told_1 ?_
    refine Z_sub [0] rfl ?_
    exact w_L_told_15 hk hq F a0 1984233472 σ h
theorem c_L_told {l : Launch} {E : zE} (hL : eL E) (hJ : eJ E) (F : Nat) (a0 : Int32) (σ : zST) {r0 : Int64} {τ0 : zST} (h : m_L_told F a0 σ = some (r0, τ0)) : Ct l yL_told wsL_told r_L_told E [.int a0] σ (some (.long r0)) τ0 := by
  refine Ct_of (by decide) rfl hL hJ (Nat.le_of_ble_eq_true rfl) (fun K hE hl hk hq => ?_)
  subst hE
  exact w_L_told hk hq F a0 σ h
end

-- CanonCoteLaw.behind (JJ)J
section
theorem dL_behind_0 : decode cL_behind 0 = .ok (.lconst 0, 1) := by decide +kernel
theorem dL_behind_1 : decode cL_behind 1 = .ok (.lstore 4, 2) := by decide +kernel
theorem dL_behind_3 : decode cL_behind 3 = .ok (.iconst 0, 1) := by decide +kernel
theorem dL_behind_4 : decode cL_behind 4 = .ok (.istore 6, 2) := by decide +kernel
theorem dL_behind_6 : decode cL_behind 6 = .ok (.iload 6, 2) := by decide +kernel
theorem dL_behind_8 : decode cL_behind 8 = .ok (.bipush 8, 2) := by decide +kernel
theorem dL_behind_10 : decode cL_behind 10 = .ok (.if_icmp .ge 38, 3) := by decide +kernel
theorem dL_behind_13 : decode cL_behind 13 = .ok (.lload 4, 2) := by decide +kernel
theorem dL_behind_15 : decode cL_behind 15 = .ok (.lload_n 2, 1) := by decide +kernel
theorem dL_behind_16 : decode cL_behind 16 = .ok (.iconst 4, 1) := by decide +kernel
theorem dL_behind_17 : decode cL_behind 17 = .ok (.lload_n 0, 1) := by decide +kernel
theorem dL_behind_18 : decode cL_behind 18 = .ok (.iconst 4, 1) := by decide +kernel
theorem dL_behind_19 : decode cL_behind 19 = .ok (.iload 6, 2) := by decide +kernel
theorem dL_behind_21 : decode cL_behind 21 = .ok (.imul, 1) := by decide +kernel
theorem dL_behind_22 : decode cL_behind 22 = .ok (.lshr, 1) := by decide +kernel
theorem dL_behind_23 : decode cL_behind 23 = .ok (.ldc2_w 134, 3) := by decide +kernel
theorem dL_behind_26 : decode cL_behind 26 = .ok (.land, 1) := by decide +kernel
theorem dL_behind_27 : decode cL_behind 27 = .ok (.l2i, 1) := by decide +kernel
theorem dL_behind_28 : decode cL_behind 28 = .ok (.imul, 1) := by decide +kernel
theorem dL_behind_29 : decode cL_behind 29 = .ok (.lshr, 1) := by decide +kernel
theorem dL_behind_30 : decode cL_behind 30 = .ok (.ldc2_w 134, 3) := by decide +kernel
theorem dL_behind_33 : decode cL_behind 33 = .ok (.land, 1) := by decide +kernel
theorem dL_behind_34 : decode cL_behind 34 = .ok (.iconst 4, 1) := by decide +kernel
theorem dL_behind_35 : decode cL_behind 35 = .ok (.iload 6, 2) := by decide +kernel
theorem dL_behind_37 : decode cL_behind 37 = .ok (.imul, 1) := by decide +kernel
theorem dL_behind_38 : decode cL_behind 38 = .ok (.lshl, 1) := by decide +kernel
theorem dL_behind_39 : decode cL_behind 39 = .ok (.lor, 1) := by decide +kernel
theorem dL_behind_40 : decode cL_behind 40 = .ok (.lstore 4, 2) := by decide +kernel
theorem dL_behind_42 : decode cL_behind 42 = .ok (.iinc 6 1, 3) := by decide +kernel
theorem dL_behind_45 : decode cL_behind 45 = .ok (.goto (-39), 3) := by decide +kernel
theorem dL_behind_48 : decode cL_behind 48 = .ok (.lload 4, 2) := by decide +kernel
theorem dL_behind_50 : decode cL_behind 50 = .ok (.lreturn, 1) := by decide +kernel
theorem wd_L_behind_0 : Cond.constantLong RL 134 15 ∈ wsL_behind := by decide +kernel
def r_L_behind : Room := { frames := 1, cells := 0, slots := 0, locals := 12 }
set_option maxRecDepth 100000 in
set_option maxHeartbeats 4000000 in
theorem w_L_behind_6 {K : zK} (hk : zIs K RL cL_behind 7 wsL_behind (some .long) r_L_behind) {r0 : Int64} {τ0 : zST} (hq : zQ K (some (.long r0)) τ0) (F : Nat) : ∀ (n : Nat) (a0 : Int64) (a2 : Int64) (a4 : Int64) (a6 : Int32) (σ : zST), m_L_behind_6 F n a0 a2 a4 a6 σ = some (r0, τ0) → Z K 0 0 6 [(0, .long a0), (2, .long a2), (4, .long a4), (6, .int a6)] [] σ := by
  intro n
  induction n with
  | zero => intro a0 a2 a4 a6 σ h; cases h
  | succ n ih =>
    intro a0 a2 a4 a6 σ h
    rw [m_L_behind_6] at h
    refine Z_iload hk 3 dL_behind_6 rfl ?_
    refine Z_bipush hk dL_behind_8 zc_bipush_8 ?_
    refine Z_icmp_ge hk (tgt := 48) dL_behind_10 (by decide) (fun c1 => ?_) (fun c1 => ?_)
    · have h := if_yes h c1
      refine Z_lload hk 2 dL_behind_48 rfl ?_
      cases h
      exact Z_lret hk hq dL_behind_50
    · have h := if_no h c1
      refine Z_lload hk 2 dL_behind_13 rfl ?_
      refine Z_lload_n hk 1 dL_behind_15 rfl rfl ?_
      refine Z_iconst hk dL_behind_16 zc_iconst_4 ?_
      refine Z_lload_n hk 0 dL_behind_17 rfl rfl ?_
      refine Z_iconst hk dL_behind_18 zc_iconst_4 ?_
      refine Z_iload hk 3 dL_behind_19 rfl ?_
      refine Z_imul hk dL_behind_21 ?_
      refine Z_lshr hk dL_behind_22 ?_
      refine Z_ldc2 hk (v := 15) dL_behind_23 wd_L_behind_0 ?_
      refine Z_land hk dL_behind_26 ?_
      refine Z_l2i hk dL_behind_27 ?_
      refine Z_imul hk dL_behind_28 ?_
      refine Z_lshr hk dL_behind_29 ?_
      refine Z_ldc2 hk (v := 15) dL_behind_30 wd_L_behind_0 ?_
      refine Z_land hk dL_behind_33 ?_
      refine Z_iconst hk dL_behind_34 zc_iconst_4 ?_
      refine Z_iload hk 3 dL_behind_35 rfl ?_
      refine Z_imul hk dL_behind_37 ?_
      refine Z_lshl hk dL_behind_38 ?_
      refine Z_lor hk dL_behind_39 ?_
      obtain ⟨x2, e3, h⟩ := nm_get h
      refine Z_eqL e3 ?_
      refine Z_lstore hk (lv' := [(4, .long x2), (0, .long a0), (2, .long a2), (6, .int a6)]) dL_behind_40 (by decide) rfl ?_
      obtain ⟨x4, e5, h⟩ := nm_get h
      refine Z_iinc hk 3 (v := x4) (lv' := [(6, .int x4), (4, .long x2), (0, .long a0), (2, .long a2)]) dL_behind_42 rfl (by rw [zc_iinc_1]; exact e5) (by decide) rfl ?_
      refine Z_goto hk (tgt := 6) dL_behind_45 (by decide) ?_
      refine Z_sub [2, 3, 1, 0] rfl ?_
      exact ih a0 a2 x2 x4 σ h
set_option maxRecDepth 100000 in
set_option maxHeartbeats 4000000 in
theorem w_L_behind {K : zK} (hk : zIs K RL cL_behind 7 wsL_behind (some .long) r_L_behind) {r0 : Int64} {τ0 : zST} (hq : zQ K (some (.long r0)) τ0) (F : Nat) (a0 : Int64) (a2 : Int64) (σ : zST) (h : m_L_behind F a0 a2 σ = some (r0, τ0)) : Z K 0 0 0 [(0, .long a0), (2, .long a2)] [] σ := by
  unfold m_L_behind at h
  refine Z_lconst hk dL_behind_0 (v := 0) rfl ?_
  refine Z_lstore hk (lv' := [(4, .long 0), (0, .long a0), (2, .long a2)]) dL_behind_1 (by decide) rfl ?_
  refine Z_iconst hk dL_behind_3 zc_iconst_0 ?_
  refine Z_istore hk (lv' := [(6, .int 0), (4, .long 0), (0, .long a0), (2, .long a2)]) dL_behind_4 (by decide) rfl ?_
  refine Z_sub [2, 3, 1, 0] rfl ?_
  exact w_L_behind_6 hk hq F F a0 a2 0 0 σ h
theorem c_L_behind {l : Launch} {E : zE} (hL : eL E) (hJ : eJ E) (F : Nat) (a0 : Int64) (a2 : Int64) (σ : zST) {r0 : Int64} {τ0 : zST} (h : m_L_behind F a0 a2 σ = some (r0, τ0)) : Ct l yL_behind wsL_behind r_L_behind E [.long a0, .long a2] σ (some (.long r0)) τ0 := by
  refine Ct_of (by decide) rfl hL hJ (Nat.le_of_ble_eq_true rfl) (fun K hE hl hk hq => ?_)
  subst hE
  exact w_L_behind hk hq F a0 a2 σ h
end

-- CanonCoteLaw.close ([J[I)I
section
theorem dL_close_0 : decode cL_close 0 = .ok (.iconst 1, 1) := by decide +kernel
theorem dL_close_1 : decode cL_close 1 = .ok (.istore_n 2, 1) := by decide +kernel
theorem dL_close_2 : decode cL_close 2 = .ok (.aload_n 0, 1) := by decide +kernel
theorem dL_close_3 : decode cL_close 3 = .ok (.iconst 0, 1) := by decide +kernel
theorem dL_close_4 : decode cL_close 4 = .ok (.ldc2_w 136, 3) := by decide +kernel
theorem dL_close_7 : decode cL_close 7 = .ok (.lastore, 1) := by decide +kernel
theorem dL_close_8 : decode cL_close 8 = .ok (.iconst 0, 1) := by decide +kernel
theorem dL_close_9 : decode cL_close 9 = .ok (.istore_n 3, 1) := by decide +kernel
theorem dL_close_10 : decode cL_close 10 = .ok (.iload_n 3, 1) := by decide +kernel
theorem dL_close_11 : decode cL_close 11 = .ok (.iload_n 2, 1) := by decide +kernel
theorem dL_close_12 : decode cL_close 12 = .ok (.if_icmp .ge 109, 3) := by decide +kernel
theorem dL_close_15 : decode cL_close 15 = .ok (.iconst 1, 1) := by decide +kernel
theorem dL_close_16 : decode cL_close 16 = .ok (.istore 4, 2) := by decide +kernel
theorem dL_close_18 : decode cL_close 18 = .ok (.iload 4, 2) := by decide +kernel
theorem dL_close_20 : decode cL_close 20 = .ok (.aload_n 1, 1) := by decide +kernel
theorem dL_close_21 : decode cL_close 21 = .ok (.iconst 0, 1) := by decide +kernel
theorem dL_close_22 : decode cL_close 22 = .ok (.iaload, 1) := by decide +kernel
theorem dL_close_23 : decode cL_close 23 = .ok (.if_icmp .gt 92, 3) := by decide +kernel
theorem dL_close_26 : decode cL_close 26 = .ok (.aload_n 0, 1) := by decide +kernel
theorem dL_close_27 : decode cL_close 27 = .ok (.iload_n 3, 1) := by decide +kernel
theorem dL_close_28 : decode cL_close 28 = .ok (.laload, 1) := by decide +kernel
theorem dL_close_29 : decode cL_close 29 = .ok (.aload_n 1, 1) := by decide +kernel
theorem dL_close_30 : decode cL_close 30 = .ok (.iload 4, 2) := by decide +kernel
theorem dL_close_32 : decode cL_close 32 = .ok (.iaload, 1) := by decide +kernel
theorem dL_close_33 : decode cL_close 33 = .ok (.invokestatic 138, 3) := by decide +kernel
theorem dL_close_36 : decode cL_close 36 = .ok (.invokestatic 141, 3) := by decide +kernel
theorem dL_close_39 : decode cL_close 39 = .ok (.lstore 5, 2) := by decide +kernel
theorem dL_close_41 : decode cL_close 41 = .ok (.iconst 1, 1) := by decide +kernel
theorem dL_close_42 : decode cL_close 42 = .ok (.istore 7, 2) := by decide +kernel
theorem dL_close_44 : decode cL_close 44 = .ok (.iconst 0, 1) := by decide +kernel
theorem dL_close_45 : decode cL_close 45 = .ok (.istore 8, 2) := by decide +kernel
theorem dL_close_47 : decode cL_close 47 = .ok (.iload 8, 2) := by decide +kernel
theorem dL_close_49 : decode cL_close 49 = .ok (.iload_n 2, 1) := by decide +kernel
theorem dL_close_50 : decode cL_close 50 = .ok (.if_icmp .ge 31, 3) := by decide +kernel
theorem dL_close_53 : decode cL_close 53 = .ok (.iload 7, 2) := by decide +kernel
theorem dL_close_55 : decode cL_close 55 = .ok (.ifCond .eq 17, 3) := by decide +kernel
theorem dL_close_58 : decode cL_close 58 = .ok (.aload_n 0, 1) := by decide +kernel
theorem dL_close_59 : decode cL_close 59 = .ok (.iload 8, 2) := by decide +kernel
theorem dL_close_61 : decode cL_close 61 = .ok (.laload, 1) := by decide +kernel
theorem dL_close_62 : decode cL_close 62 = .ok (.lload 5, 2) := by decide +kernel
theorem dL_close_64 : decode cL_close 64 = .ok (.lcmp, 1) := by decide +kernel
theorem dL_close_65 : decode cL_close 65 = .ok (.ifCond .eq 7, 3) := by decide +kernel
theorem dL_close_68 : decode cL_close 68 = .ok (.iconst 1, 1) := by decide +kernel
theorem dL_close_69 : decode cL_close 69 = .ok (.goto 4, 3) := by decide +kernel
theorem dL_close_72 : decode cL_close 72 = .ok (.iconst 0, 1) := by decide +kernel
theorem dL_close_73 : decode cL_close 73 = .ok (.istore 7, 2) := by decide +kernel
theorem dL_close_75 : decode cL_close 75 = .ok (.iinc 8 1, 3) := by decide +kernel
theorem dL_close_78 : decode cL_close 78 = .ok (.goto (-31), 3) := by decide +kernel
theorem dL_close_81 : decode cL_close 81 = .ok (.aload_n 0, 1) := by decide +kernel
theorem dL_close_82 : decode cL_close 82 = .ok (.iload 7, 2) := by decide +kernel
theorem dL_close_84 : decode cL_close 84 = .ok (.ifCond .eq 7, 3) := by decide +kernel
theorem dL_close_87 : decode cL_close 87 = .ok (.iload_n 2, 1) := by decide +kernel
theorem dL_close_88 : decode cL_close 88 = .ok (.goto 5, 3) := by decide +kernel
theorem dL_close_91 : decode cL_close 91 = .ok (.bipush 63, 2) := by decide +kernel
theorem dL_close_93 : decode cL_close 93 = .ok (.lload 5, 2) := by decide +kernel
theorem dL_close_95 : decode cL_close 95 = .ok (.lastore, 1) := by decide +kernel
theorem dL_close_96 : decode cL_close 96 = .ok (.iload_n 2, 1) := by decide +kernel
theorem dL_close_97 : decode cL_close 97 = .ok (.iload 7, 2) := by decide +kernel
theorem dL_close_99 : decode cL_close 99 = .ok (.ifCond .eq 7, 3) := by decide +kernel
theorem dL_close_102 : decode cL_close 102 = .ok (.iconst 1, 1) := by decide +kernel
theorem dL_close_103 : decode cL_close 103 = .ok (.goto 4, 3) := by decide +kernel
theorem dL_close_106 : decode cL_close 106 = .ok (.iconst 0, 1) := by decide +kernel
theorem dL_close_107 : decode cL_close 107 = .ok (.iadd, 1) := by decide +kernel
theorem dL_close_108 : decode cL_close 108 = .ok (.istore_n 2, 1) := by decide +kernel
theorem dL_close_109 : decode cL_close 109 = .ok (.iinc 4 1, 3) := by decide +kernel
theorem dL_close_112 : decode cL_close 112 = .ok (.goto (-94), 3) := by decide +kernel
theorem dL_close_115 : decode cL_close 115 = .ok (.iinc 3 1, 3) := by decide +kernel
theorem dL_close_118 : decode cL_close 118 = .ok (.goto (-108), 3) := by decide +kernel
theorem dL_close_121 : decode cL_close 121 = .ok (.iload_n 2, 1) := by decide +kernel
theorem dL_close_122 : decode cL_close 122 = .ok (.ireturn, 1) := by decide +kernel
set_option maxRecDepth 20000 in
theorem ggL_close_L_told : GoodIn wsL_close wsL_told := goodIn_r _ [5, 6, 7, 8, 9, 4, 10, 11, 12, 13] (by decide +kernel) (by decide +kernel)
set_option maxRecDepth 20000 in
theorem gL_close_L_told : GoodIn wsL_close (va_wsS RL 138 yL_told wsL_told) := goodIn_app (goodIn_of _ (by decide +kernel)) ggL_close_L_told
set_option maxRecDepth 20000 in
theorem ggL_close_L_behind : GoodIn wsL_close wsL_behind := goodIn_r _ [16, 17] (by decide +kernel) (by decide +kernel)
set_option maxRecDepth 20000 in
theorem gL_close_L_behind : GoodIn wsL_close (va_wsS RL 141 yL_behind wsL_behind) := goodIn_app (goodIn_of _ (by decide +kernel)) ggL_close_L_behind
theorem wd_L_close_0 : Cond.constantLong RL 136 1985229328 ∈ wsL_close := by decide +kernel
def r_L_close : Room := { frames := 4, cells := 0, slots := 0, locals := 85 }
set_option maxRecDepth 100000 in
set_option maxHeartbeats 4000000 in
theorem w_L_close_73 {K : zK} (hk : zIs K RL cL_close 9 wsL_close (some .int) r_L_close) {r0 : Int32} {τ0 : zST} (hq : zQ K (some (.int r0)) τ0) (F : Nat) (k10 : Nat → Nat → Int32 → Int32 → zST → Option (Int32 × zST)) (hk10 : ∀ (a0 : Nat) (a1 : Nat) (a2 : Int32) (a3 : Int32) (ha0 : aJ (kZ K) a0 64) (ha1 : aI (kZ K) a1 8) (σ : zST), k10 a0 a1 a2 a3 σ = some (r0, τ0) → Z K 0 0 10 [(0, .ref (eA (kZ K) a0)), (1, .ref (eA (kZ K) a1)), (2, .int a2), (3, .int a3)] [] σ) (k18 : Nat → Nat → Int32 → Int32 → Int32 → zST → Option (Int32 × zST)) (hk18 : ∀ (a0 : Nat) (a1 : Nat) (a2 : Int32) (a3 : Int32) (a4 : Int32) (ha0 : aJ (kZ K) a0 64) (ha1 : aI (kZ K) a1 8) (σ : zST), k18 a0 a1 a2 a3 a4 σ = some (r0, τ0) → Z K 0 0 18 [(0, .ref (eA (kZ K) a0)), (1, .ref (eA (kZ K) a1)), (2, .int a2), (3, .int a3), (4, .int a4)] [] σ) (k47 : Nat → Nat → Int32 → Int32 → Int32 → Int64 → Int32 → Int32 → zST → Option (Int32 × zST)) (hk47 : ∀ (a0 : Nat) (a1 : Nat) (a2 : Int32) (a3 : Int32) (a4 : Int32) (a5 : Int64) (a7 : Int32) (a8 : Int32) (ha0 : aJ (kZ K) a0 64) (ha1 : aI (kZ K) a1 8) (σ : zST), k47 a0 a1 a2 a3 a4 a5 a7 a8 σ = some (r0, τ0) → Z K 0 0 47 [(0, .ref (eA (kZ K) a0)), (1, .ref (eA (kZ K) a1)), (2, .int a2), (3, .int a3), (4, .int a4), (5, .long a5), (7, .int a7), (8, .int a8)] [] σ) (a0 : Nat) (a1 : Nat) (a2 : Int32) (a3 : Int32) (a4 : Int32) (a5 : Int64) (a8 : Int32) (t0 : Int32) (ha0 : aJ (kZ K) a0 64) (ha1 : aI (kZ K) a1 8) (σ : zST) (h : m_L_close_73 F k10 k18 k47 a0 a1 a2 a3 a4 a5 a8 t0 σ = some (r0, τ0)) : Z K 0 0 73 [(0, .ref (eA (kZ K) a0)), (1, .ref (eA (kZ K) a1)), (2, .int a2), (3, .int a3), (4, .int a4), (5, .long a5), (8, .int a8)] [.int t0] σ := by
  unfold m_L_close_73 at h
  refine Z_istore hk (lv' := [(7, .int t0), (0, .ref (eA (kZ K) a0)), (1, .ref (eA (kZ K) a1)), (2, .int a2), (3, .int a3), (4, .int a4), (5, .long a5), (8, .int a8)]) dL_close_73 (by decide) rfl ?_
  obtain ⟨x34, e35, h⟩ := nm_get h
  refine Z_iinc hk 7 (v := x34) (lv' := [(8, .int x34), (7, .int t0), (0, .ref (eA (kZ K) a0)), (1, .ref (eA (kZ K) a1)), (2, .int a2), (3, .int a3), (4, .int a4), (5, .long a5)]) dL_close_75 rfl (by rw [zc_iinc_1]; exact e35) (by decide) rfl ?_
  refine Z_goto hk (tgt := 47) dL_close_78 (by decide) ?_
  refine Z_sub [2, 3, 4, 5, 6, 7, 1, 0] rfl ?_
  exact hk47 a0 a1 a2 a3 a4 a5 t0 x34 ha0 ha1 σ h
set_option maxRecDepth 100000 in
set_option maxHeartbeats 4000000 in
theorem w_L_close_72 {K : zK} (hk : zIs K RL cL_close 9 wsL_close (some .int) r_L_close) {r0 : Int32} {τ0 : zST} (hq : zQ K (some (.int r0)) τ0) (F : Nat) (k10 : Nat → Nat → Int32 → Int32 → zST → Option (Int32 × zST)) (hk10 : ∀ (a0 : Nat) (a1 : Nat) (a2 : Int32) (a3 : Int32) (ha0 : aJ (kZ K) a0 64) (ha1 : aI (kZ K) a1 8) (σ : zST), k10 a0 a1 a2 a3 σ = some (r0, τ0) → Z K 0 0 10 [(0, .ref (eA (kZ K) a0)), (1, .ref (eA (kZ K) a1)), (2, .int a2), (3, .int a3)] [] σ) (k18 : Nat → Nat → Int32 → Int32 → Int32 → zST → Option (Int32 × zST)) (hk18 : ∀ (a0 : Nat) (a1 : Nat) (a2 : Int32) (a3 : Int32) (a4 : Int32) (ha0 : aJ (kZ K) a0 64) (ha1 : aI (kZ K) a1 8) (σ : zST), k18 a0 a1 a2 a3 a4 σ = some (r0, τ0) → Z K 0 0 18 [(0, .ref (eA (kZ K) a0)), (1, .ref (eA (kZ K) a1)), (2, .int a2), (3, .int a3), (4, .int a4)] [] σ) (k47 : Nat → Nat → Int32 → Int32 → Int32 → Int64 → Int32 → Int32 → zST → Option (Int32 × zST)) (hk47 : ∀ (a0 : Nat) (a1 : Nat) (a2 : Int32) (a3 : Int32) (a4 : Int32) (a5 : Int64) (a7 : Int32) (a8 : Int32) (ha0 : aJ (kZ K) a0 64) (ha1 : aI (kZ K) a1 8) (σ : zST), k47 a0 a1 a2 a3 a4 a5 a7 a8 σ = some (r0, τ0) → Z K 0 0 47 [(0, .ref (eA (kZ K) a0)), (1, .ref (eA (kZ K) a1)), (2, .int a2), (3, .int a3), (4, .int a4), (5, .long a5), (7, .int a7), (8, .int a8)] [] σ) (a0 : Nat) (a1 : Nat) (a2 : Int32) (a3 : Int32) (a4 : Int32) (a5 : Int64) (a8 : Int32) (ha0 : aJ (kZ K) a0 64) (ha1 : aI (kZ K) a1 8) (σ : zST) (h : m_L_close_72 F k10 k18 k47 a0 a1 a2 a3 a4 a5 a8 σ = some (r0, τ0)) : Z K 0 0 72 [(0, .ref (eA (kZ K) a0)), (1, .ref (eA (kZ K) a1)), (2, .int a2), (3, .int a3), (4, .int a4), (5, .long a5), (8, .int a8)] [] σ := by
  unfold m_L_close_72 at h
  refine Z_iconst hk dL_close_72 zc_iconst_0 ?_
  refine Z_sub [0, 1, 2, 3, 4, 5, 6] rfl ?_
  exact w_L_close_73 hk hq F k10 hk10 k18 hk18 k47 hk47 a0 a1 a2 a3 a4 a5 a8 0 ha0 ha1 σ h
set_option maxRecDepth 100000 in
set_option maxHeartbeats 4000000 in
theorem w_L_close_107 {K : zK} (hk : zIs K RL cL_close 9 wsL_close (some .int) r_L_close) {r0 : Int32} {τ0 : zST} (hq : zQ K (some (.int r0)) τ0) (F : Nat) (k10 : Nat → Nat → Int32 → Int32 → zST → Option (Int32 × zST)) (hk10 : ∀ (a0 : Nat) (a1 : Nat) (a2 : Int32) (a3 : Int32) (ha0 : aJ (kZ K) a0 64) (ha1 : aI (kZ K) a1 8) (σ : zST), k10 a0 a1 a2 a3 σ = some (r0, τ0) → Z K 0 0 10 [(0, .ref (eA (kZ K) a0)), (1, .ref (eA (kZ K) a1)), (2, .int a2), (3, .int a3)] [] σ) (k18 : Nat → Nat → Int32 → Int32 → Int32 → zST → Option (Int32 × zST)) (hk18 : ∀ (a0 : Nat) (a1 : Nat) (a2 : Int32) (a3 : Int32) (a4 : Int32) (ha0 : aJ (kZ K) a0 64) (ha1 : aI (kZ K) a1 8) (σ : zST), k18 a0 a1 a2 a3 a4 σ = some (r0, τ0) → Z K 0 0 18 [(0, .ref (eA (kZ K) a0)), (1, .ref (eA (kZ K) a1)), (2, .int a2), (3, .int a3), (4, .int a4)] [] σ) (a0 : Nat) (a1 : Nat) (a3 : Int32) (a4 : Int32) (t0 : Int32) (t1 : Int32) (ha0 : aJ (kZ K) a0 64) (ha1 : aI (kZ K) a1 8) (σ : zST) (h : m_L_close_107 F k10 k18 a0 a1 a3 a4 t0 t1 σ = some (r0, τ0)) : Z K 0 0 107 [(0, .ref (eA (kZ K) a0)), (1, .ref (eA (kZ K) a1)), (3, .int a3), (4, .int a4)] [.int t0, .int t1] σ := by
  unfold m_L_close_107 at h
  refine Z_iadd hk dL_close_107 ?_
  obtain ⟨x36, e37, h⟩ := nm_get h
  refine Z_eqI e37 ?_
  refine Z_istore_n hk (lv' := [(2, .int x36), (0, .ref (eA (kZ K) a0)), (1, .ref (eA (kZ K) a1)), (3, .int a3), (4, .int a4)]) dL_close_108 rfl (by decide) rfl ?_
  obtain ⟨x38, e39, h⟩ := nm_get h
  refine Z_iinc hk 4 (v := x38) (lv' := [(4, .int x38), (2, .int x36), (0, .ref (eA (kZ K) a0)), (1, .ref (eA (kZ K) a1)), (3, .int a3)]) dL_close_109 rfl (by rw [zc_iinc_1]; exact e39) (by decide) rfl ?_
  refine Z_goto hk (tgt := 18) dL_close_112 (by decide) ?_
  refine Z_sub [2, 3, 1, 4, 0] rfl ?_
  exact hk18 a0 a1 x36 a3 x38 ha0 ha1 σ h
set_option maxRecDepth 100000 in
set_option maxHeartbeats 4000000 in
theorem w_L_close_93 {K : zK} (hk : zIs K RL cL_close 9 wsL_close (some .int) r_L_close) {r0 : Int32} {τ0 : zST} (hq : zQ K (some (.int r0)) τ0) (F : Nat) (k10 : Nat → Nat → Int32 → Int32 → zST → Option (Int32 × zST)) (hk10 : ∀ (a0 : Nat) (a1 : Nat) (a2 : Int32) (a3 : Int32) (ha0 : aJ (kZ K) a0 64) (ha1 : aI (kZ K) a1 8) (σ : zST), k10 a0 a1 a2 a3 σ = some (r0, τ0) → Z K 0 0 10 [(0, .ref (eA (kZ K) a0)), (1, .ref (eA (kZ K) a1)), (2, .int a2), (3, .int a3)] [] σ) (k18 : Nat → Nat → Int32 → Int32 → Int32 → zST → Option (Int32 × zST)) (hk18 : ∀ (a0 : Nat) (a1 : Nat) (a2 : Int32) (a3 : Int32) (a4 : Int32) (ha0 : aJ (kZ K) a0 64) (ha1 : aI (kZ K) a1 8) (σ : zST), k18 a0 a1 a2 a3 a4 σ = some (r0, τ0) → Z K 0 0 18 [(0, .ref (eA (kZ K) a0)), (1, .ref (eA (kZ K) a1)), (2, .int a2), (3, .int a3), (4, .int a4)] [] σ) (a0 : Nat) (a1 : Nat) (a2 : Int32) (a3 : Int32) (a4 : Int32) (a5 : Int64) (a7 : Int32) (t0 : Int32) (t1 : Nat) (ha0 : aJ (kZ K) a0 64) (ha1 : aI (kZ K) a1 8) (ht1 : aJ (kZ K) t1 64) (σ : zST) (h : m_L_close_93 F k10 k18 a0 a1 a2 a3 a4 a5 a7 t0 t1 σ = some (r0, τ0)) : Z K 0 0 93 [(0, .ref (eA (kZ K) a0)), (1, .ref (eA (kZ K) a1)), (2, .int a2), (3, .int a3), (4, .int a4), (5, .long a5), (7, .int a7)] [.int t0, .ref (eA (kZ K) t1)] σ := by
  unfold m_L_close_93 at h
  refine Z_lload hk 5 dL_close_93 rfl ?_
  obtain ⟨i32, s30, e31, h⟩ := stL_get h
  refine Z_last hk ht1 i32 dL_close_95 ?_
  refine Z_eqS e31 ?_
  refine Z_iload_n hk 2 dL_close_96 rfl rfl ?_
  refine Z_iload hk 6 dL_close_97 rfl ?_
  refine Z_if_eq hk (tgt := 106) dL_close_99 (by decide) (fun c33 => ?_) (fun c33 => ?_)
  · have h := if_yes h c33
    refine Z_iconst hk dL_close_106 zc_iconst_0 ?_
    refine Z_sub [0, 1, 3, 4] rfl ?_
    exact w_L_close_107 hk hq F k10 hk10 k18 hk18 a0 a1 a3 a4 0 a2 ha0 ha1 s30 h
  · have h := if_no h c33
    refine Z_iconst hk dL_close_102 zc_iconst_1 ?_
    refine Z_goto hk (tgt := 107) dL_close_103 (by decide) ?_
    refine Z_sub [0, 1, 3, 4] rfl ?_
    exact w_L_close_107 hk hq F k10 hk10 k18 hk18 a0 a1 a3 a4 1 a2 ha0 ha1 s30 h
set_option maxRecDepth 100000 in
set_option maxHeartbeats 4000000 in
theorem w_L_close_47 {K : zK} (hk : zIs K RL cL_close 9 wsL_close (some .int) r_L_close) {r0 : Int32} {τ0 : zST} (hq : zQ K (some (.int r0)) τ0) (F : Nat) (k10 : Nat → Nat → Int32 → Int32 → zST → Option (Int32 × zST)) (hk10 : ∀ (a0 : Nat) (a1 : Nat) (a2 : Int32) (a3 : Int32) (ha0 : aJ (kZ K) a0 64) (ha1 : aI (kZ K) a1 8) (σ : zST), k10 a0 a1 a2 a3 σ = some (r0, τ0) → Z K 0 0 10 [(0, .ref (eA (kZ K) a0)), (1, .ref (eA (kZ K) a1)), (2, .int a2), (3, .int a3)] [] σ) (k18 : Nat → Nat → Int32 → Int32 → Int32 → zST → Option (Int32 × zST)) (hk18 : ∀ (a0 : Nat) (a1 : Nat) (a2 : Int32) (a3 : Int32) (a4 : Int32) (ha0 : aJ (kZ K) a0 64) (ha1 : aI (kZ K) a1 8) (σ : zST), k18 a0 a1 a2 a3 a4 σ = some (r0, τ0) → Z K 0 0 18 [(0, .ref (eA (kZ K) a0)), (1, .ref (eA (kZ K) a1)), (2, .int a2), (3, .int a3), (4, .int a4)] [] σ) : ∀ (n : Nat) (a0 : Nat) (a1 : Nat) (a2 : Int32) (a3 : Int32) (a4 : Int32) (a5 : Int64) (a7 : Int32) (a8 : Int32) (ha0 : aJ (kZ K) a0 64) (ha1 : aI (kZ K) a1 8) (σ : zST), m_L_close_47 F k10 k18 n a0 a1 a2 a3 a4 a5 a7 a8 σ = some (r0, τ0) → Z K 0 0 47 [(0, .ref (eA (kZ K) a0)), (1, .ref (eA (kZ K) a1)), (2, .int a2), (3, .int a3), (4, .int a4), (5, .long a5), (7, .int a7), (8, .int a8)] [] σ := by
  intro n
  induction n with
  | zero => intro a0 a1 a2 a3 a4 a5 a7 a8 ha0 ha1 σ h; cases h
  | succ n ih =>
    intro a0 a1 a2 a3 a4 a5 a7 a8 ha0 ha1 σ h
    rw [m_L_close_47] at h
    refine Z_iload hk 7 dL_close_47 rfl ?_
    refine Z_iload_n hk 2 dL_close_49 rfl rfl ?_
    refine Z_icmp_ge hk (tgt := 81) dL_close_50 (by decide) (fun c23 => ?_) (fun c23 => ?_)
    · have h := if_yes h c23
      refine Z_aload_n hk 0 dL_close_81 rfl rfl ?_
      refine Z_iload hk 6 dL_close_82 rfl ?_
      refine Z_if_eq hk (tgt := 91) dL_close_84 (by decide) (fun c24 => ?_) (fun c24 => ?_)
      · have h := if_yes h c24
        refine Z_bipush hk dL_close_91 zc_bipush_63 ?_
        refine Z_sub [0, 1, 2, 3, 4, 5, 6] rfl ?_
        exact w_L_close_93 hk hq F k10 hk10 k18 hk18 a0 a1 a2 a3 a4 a5 a7 63 a0 ha0 ha1 ha0 σ h
      · have h := if_no h c24
        refine Z_iload_n hk 2 dL_close_87 rfl rfl ?_
        refine Z_goto hk (tgt := 93) dL_close_88 (by decide) ?_
        refine Z_sub [0, 1, 2, 3, 4, 5, 6] rfl ?_
        exact w_L_close_93 hk hq F k10 hk10 k18 hk18 a0 a1 a2 a3 a4 a5 a7 a2 a0 ha0 ha1 ha0 σ h
    · have h := if_no h c23
      refine Z_iload hk 6 dL_close_53 rfl ?_
      refine Z_if_eq hk (tgt := 72) dL_close_55 (by decide) (fun c25 => ?_) (fun c25 => ?_)
      · have h := if_yes h c25
        refine Z_sub [0, 1, 2, 3, 4, 5, 7] rfl ?_
        exact w_L_close_72 hk hq F k10 hk10 k18 hk18 (m_L_close_47 F k10 k18 n) ih a0 a1 a2 a3 a4 a5 a8 ha0 ha1 σ h
      · have h := if_no h c25
        refine Z_aload_n hk 0 dL_close_58 rfl rfl ?_
        refine Z_iload hk 7 dL_close_59 rfl ?_
        obtain ⟨i28, x26, e27, h⟩ := ldL_get h
        refine Z_lald hk ha0 i28 dL_close_61 ?_
        refine Z_eqL e27 ?_
        refine Z_lload hk 5 dL_close_62 rfl ?_
        refine Z_lcmp hk dL_close_64 ?_
        refine Z_if_eq hk (tgt := 72) dL_close_65 (by decide) (fun c29 => ?_) (fun c29 => ?_)
        · have h := if_yes h c29
          refine Z_sub [0, 1, 2, 3, 4, 5, 7] rfl ?_
          exact w_L_close_72 hk hq F k10 hk10 k18 hk18 (m_L_close_47 F k10 k18 n) ih a0 a1 a2 a3 a4 a5 a8 ha0 ha1 σ h
        · have h := if_no h c29
          refine Z_iconst hk dL_close_68 zc_iconst_1 ?_
          refine Z_goto hk (tgt := 73) dL_close_69 (by decide) ?_
          refine Z_sub [0, 1, 2, 3, 4, 5, 7] rfl ?_
          exact w_L_close_73 hk hq F k10 hk10 k18 hk18 (m_L_close_47 F k10 k18 n) ih a0 a1 a2 a3 a4 a5 a8 1 ha0 ha1 σ h
set_option maxRecDepth 100000 in
set_option maxHeartbeats 4000000 in
theorem w_L_close_18 {K : zK} (hk : zIs K RL cL_close 9 wsL_close (some .int) r_L_close) {r0 : Int32} {τ0 : zST} (hq : zQ K (some (.int r0)) τ0) (F : Nat) (k10 : Nat → Nat → Int32 → Int32 → zST → Option (Int32 × zST)) (hk10 : ∀ (a0 : Nat) (a1 : Nat) (a2 : Int32) (a3 : Int32) (ha0 : aJ (kZ K) a0 64) (ha1 : aI (kZ K) a1 8) (σ : zST), k10 a0 a1 a2 a3 σ = some (r0, τ0) → Z K 0 0 10 [(0, .ref (eA (kZ K) a0)), (1, .ref (eA (kZ K) a1)), (2, .int a2), (3, .int a3)] [] σ) : ∀ (n : Nat) (a0 : Nat) (a1 : Nat) (a2 : Int32) (a3 : Int32) (a4 : Int32) (ha0 : aJ (kZ K) a0 64) (ha1 : aI (kZ K) a1 8) (σ : zST), m_L_close_18 F k10 n a0 a1 a2 a3 a4 σ = some (r0, τ0) → Z K 0 0 18 [(0, .ref (eA (kZ K) a0)), (1, .ref (eA (kZ K) a1)), (2, .int a2), (3, .int a3), (4, .int a4)] [] σ := by
  intro n
  induction n with
  | zero => intro a0 a1 a2 a3 a4 ha0 ha1 σ h; cases h
  | succ n ih =>
    intro a0 a1 a2 a3 a4 ha0 ha1 σ h
    rw [m_L_close_18] at h
    refine Z_iload hk 4 dL_close_18 rfl ?_
    refine Z_aload_n hk 1 dL_close_20 rfl rfl ?_
    refine Z_iconst hk dL_close_21 zc_iconst_0 ?_
    obtain ⟨i7, x5, e6, h⟩ := ldI_get h
    refine Z_iald hk ha1 i7 dL_close_22 ?_
    refine Z_eqI e6 ?_
    refine Z_icmp_gt hk (tgt := 115) dL_close_23 (by decide) (fun c8 => ?_) (fun c8 => ?_)
    · have h := if_yes h c8
      obtain ⟨x9, e10, h⟩ := nm_get h
      refine Z_iinc hk 3 (v := x9) (lv' := [(3, .int x9), (0, .ref (eA (kZ K) a0)), (1, .ref (eA (kZ K) a1)), (2, .int a2), (4, .int a4)]) dL_close_115 rfl (by rw [zc_iinc_1]; exact e10) (by decide) rfl ?_
      refine Z_goto hk (tgt := 10) dL_close_118 (by decide) ?_
      refine Z_sub [1, 2, 3, 0] rfl ?_
      exact hk10 a0 a1 a2 x9 ha0 ha1 σ h
    · have h := if_no h c8
      refine Z_aload_n hk 0 dL_close_26 rfl rfl ?_
      refine Z_iload_n hk 3 dL_close_27 rfl rfl ?_
      obtain ⟨i13, x11, e12, h⟩ := ldL_get h
      refine Z_lald hk ha0 i13 dL_close_28 ?_
      refine Z_eqL e12 ?_
      refine Z_aload_n hk 1 dL_close_29 rfl rfl ?_
      refine Z_iload hk 4 dL_close_30 rfl ?_
      obtain ⟨i16, x14, e15, h⟩ := ldI_get h
      refine Z_iald hk ha1 i16 dL_close_32 ?_
      refine Z_eqI e15 ?_
      obtain ⟨x17, s18, h19, h⟩ := bd_ok h
      refine Z_callT 1 hk [.int x14] (c_L_told hk.loc hk.inj F x14 σ h19) gL_close_L_told rfl ⟨rfl, rfl⟩ (by decide +kernel) ⟨Nat.le_of_ble_eq_true rfl, Nat.le_of_ble_eq_true rfl⟩ rfl rfl (Nat.le_of_ble_eq_true rfl) ⟨Nat.zero_le _, Nat.zero_le _⟩ dL_close_33 ?_
      show Z K 0 0 36 [(0, .ref (eA (kZ K) a0)), (1, .ref (eA (kZ K) a1)), (2, .int a2), (3, .int a3), (4, .int a4)] [.long x17, .long x11] s18
      obtain ⟨x20, s21, h22, h⟩ := bd_ok h
      refine Z_callT 2 hk [.long x11, .long x17] (c_L_behind hk.loc hk.inj F x11 x17 s18 h22) gL_close_L_behind rfl ⟨rfl, rfl⟩ (by decide +kernel) ⟨Nat.le_of_ble_eq_true rfl, Nat.le_of_ble_eq_true rfl⟩ rfl rfl (Nat.le_of_ble_eq_true rfl) ⟨Nat.zero_le _, Nat.zero_le _⟩ dL_close_36 ?_
      show Z K 0 0 39 [(0, .ref (eA (kZ K) a0)), (1, .ref (eA (kZ K) a1)), (2, .int a2), (3, .int a3), (4, .int a4)] [.long x20] s21
      refine Z_lstore hk (lv' := [(5, .long x20), (0, .ref (eA (kZ K) a0)), (1, .ref (eA (kZ K) a1)), (2, .int a2), (3, .int a3), (4, .int a4)]) dL_close_39 (by decide) rfl ?_
      refine Z_iconst hk dL_close_41 zc_iconst_1 ?_
      refine Z_istore hk (lv' := [(7, .int 1), (5, .long x20), (0, .ref (eA (kZ K) a0)), (1, .ref (eA (kZ K) a1)), (2, .int a2), (3, .int a3), (4, .int a4)]) dL_close_42 (by decide) rfl ?_
      refine Z_iconst hk dL_close_44 zc_iconst_0 ?_
      refine Z_istore hk (lv' := [(8, .int 0), (7, .int 1), (5, .long x20), (0, .ref (eA (kZ K) a0)), (1, .ref (eA (kZ K) a1)), (2, .int a2), (3, .int a3), (4, .int a4)]) dL_close_45 (by decide) rfl ?_
      refine Z_sub [3, 4, 5, 6, 7, 2, 1, 0] rfl ?_
      exact w_L_close_47 hk hq F k10 hk10 (m_L_close_18 F k10 n) ih F a0 a1 a2 a3 a4 x20 1 0 ha0 ha1 s21 h
set_option maxRecDepth 100000 in
set_option maxHeartbeats 4000000 in
theorem w_L_close_10 {K : zK} (hk : zIs K RL cL_close 9 wsL_close (some .int) r_L_close) {r0 : Int32} {τ0 : zST} (hq : zQ K (some (.int r0)) τ0) (F : Nat) : ∀ (n : Nat) (a0 : Nat) (a1 : Nat) (a2 : Int32) (a3 : Int32) (ha0 : aJ (kZ K) a0 64) (ha1 : aI (kZ K) a1 8) (σ : zST), m_L_close_10 F n a0 a1 a2 a3 σ = some (r0, τ0) → Z K 0 0 10 [(0, .ref (eA (kZ K) a0)), (1, .ref (eA (kZ K) a1)), (2, .int a2), (3, .int a3)] [] σ := by
  intro n
  induction n with
  | zero => intro a0 a1 a2 a3 ha0 ha1 σ h; cases h
  | succ n ih =>
    intro a0 a1 a2 a3 ha0 ha1 σ h
    rw [m_L_close_10] at h
    refine Z_iload_n hk 3 dL_close_10 rfl rfl ?_
    refine Z_iload_n hk 2 dL_close_11 rfl rfl ?_
    refine Z_icmp_ge hk (tgt := 121) dL_close_12 (by decide) (fun c4 => ?_) (fun c4 => ?_)
    · have h := if_yes h c4
      refine Z_iload_n hk 2 dL_close_121 rfl rfl ?_
      cases h
      exact Z_iret hk hq dL_close_122
    · have h := if_no h c4
      refine Z_iconst hk dL_close_15 zc_iconst_1 ?_
      refine Z_istore hk (lv' := [(4, .int 1), (0, .ref (eA (kZ K) a0)), (1, .ref (eA (kZ K) a1)), (2, .int a2), (3, .int a3)]) dL_close_16 (by decide) rfl ?_
      refine Z_sub [1, 2, 3, 4, 0] rfl ?_
      exact w_L_close_18 hk hq F (m_L_close_10 F n) ih F a0 a1 a2 a3 1 ha0 ha1 σ h
set_option maxRecDepth 100000 in
set_option maxHeartbeats 4000000 in
theorem w_L_close {K : zK} (hk : zIs K RL cL_close 9 wsL_close (some .int) r_L_close) {r0 : Int32} {τ0 : zST} (hq : zQ K (some (.int r0)) τ0) (F : Nat) (a0 : Nat) (a1 : Nat) (ha0 : aJ (kZ K) a0 64) (ha1 : aI (kZ K) a1 8) (σ : zST) (h : m_L_close F a0 a1 σ = some (r0, τ0)) : Z K 0 0 0 [(0, .ref (eA (kZ K) a0)), (1, .ref (eA (kZ K) a1))] [] σ := by
  unfold m_L_close at h
  refine Z_iconst hk dL_close_0 zc_iconst_1 ?_
  refine Z_istore_n hk (lv' := [(2, .int 1), (0, .ref (eA (kZ K) a0)), (1, .ref (eA (kZ K) a1))]) dL_close_1 rfl (by decide) rfl ?_
  refine Z_aload_n hk 1 dL_close_2 rfl rfl ?_
  refine Z_iconst hk dL_close_3 zc_iconst_0 ?_
  refine Z_ldc2 hk (v := 1985229328) dL_close_4 wd_L_close_0 ?_
  obtain ⟨i3, s1, e2, h⟩ := stL_get h
  refine Z_last hk ha0 i3 dL_close_7 ?_
  refine Z_eqS e2 ?_
  refine Z_iconst hk dL_close_8 zc_iconst_0 ?_
  refine Z_istore_n hk (lv' := [(3, .int 0), (2, .int 1), (0, .ref (eA (kZ K) a0)), (1, .ref (eA (kZ K) a1))]) dL_close_9 rfl (by decide) rfl ?_
  refine Z_sub [2, 3, 1, 0] rfl ?_
  exact w_L_close_10 hk hq F F a0 a1 1 0 ha0 ha1 s1 h
theorem c_L_close {l : Launch} {E : zE} (hL : eL E) (hJ : eJ E) (F : Nat) (a0 : Nat) (a1 : Nat) (ha0 : aJ E a0 64) (ha1 : aI E a1 8) (σ : zST) {r0 : Int32} {τ0 : zST} (h : m_L_close F a0 a1 σ = some (r0, τ0)) : Ct l yL_close wsL_close r_L_close E [.ref (eA E a0), .ref (eA E a1)] σ (some (.int r0)) τ0 := by
  refine Ct_of (by decide) rfl hL hJ (Nat.le_of_ble_eq_true rfl) (fun K hE hl hk hq => ?_)
  subst hE
  exact w_L_close hk hq F a0 a1 ha0 ha1 σ h
end
