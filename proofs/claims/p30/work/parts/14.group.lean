-- CanonCote$Chain.restart (I)V
section
theorem dX1_restart_0 : decode cX1_restart 0 = .ok (.aload_n 0, 1) := by decide +kernel
theorem dX1_restart_1 : decode cX1_restart 1 = .ok (.iconst 0, 1) := by decide +kernel
theorem dX1_restart_2 : decode cX1_restart 2 = .ok (.putfield 22, 3) := by decide +kernel
theorem dX1_restart_5 : decode cX1_restart 5 = .ok (.aload_n 0, 1) := by decide +kernel
theorem dX1_restart_6 : decode cX1_restart 6 = .ok (.iconst 0, 1) := by decide +kernel
theorem dX1_restart_7 : decode cX1_restart 7 = .ok (.putfield 26, 3) := by decide +kernel
theorem dX1_restart_10 : decode cX1_restart 10 = .ok (.aload_n 0, 1) := by decide +kernel
theorem dX1_restart_11 : decode cX1_restart 11 = .ok (.getfield 19, 3) := by decide +kernel
theorem dX1_restart_14 : decode cX1_restart 14 = .ok (.lconst 0, 1) := by decide +kernel
theorem dX1_restart_15 : decode cX1_restart 15 = .ok (.invokestatic 29, 3) := by decide +kernel
theorem dX1_restart_18 : decode cX1_restart 18 = .ok (.iconst 0, 1) := by decide +kernel
theorem dX1_restart_19 : decode cX1_restart 19 = .ok (.istore_n 2, 1) := by decide +kernel
theorem dX1_restart_20 : decode cX1_restart 20 = .ok (.iload_n 1, 1) := by decide +kernel
theorem dX1_restart_21 : decode cX1_restart 21 = .ok (.invokestatic 35, 3) := by decide +kernel
theorem dX1_restart_24 : decode cX1_restart 24 = .ok (.istore_n 3, 1) := by decide +kernel
theorem dX1_restart_25 : decode cX1_restart 25 = .ok (.iconst 0, 1) := by decide +kernel
theorem dX1_restart_26 : decode cX1_restart 26 = .ok (.istore 4, 2) := by decide +kernel
theorem dX1_restart_28 : decode cX1_restart 28 = .ok (.iload 4, 2) := by decide +kernel
theorem dX1_restart_30 : decode cX1_restart 30 = .ok (.bipush 8, 2) := by decide +kernel
theorem dX1_restart_32 : decode cX1_restart 32 = .ok (.if_icmp .ge 56, 3) := by decide +kernel
theorem dX1_restart_35 : decode cX1_restart 35 = .ok (.iload_n 1, 1) := by decide +kernel
theorem dX1_restart_36 : decode cX1_restart 36 = .ok (.iload 4, 2) := by decide +kernel
theorem dX1_restart_38 : decode cX1_restart 38 = .ok (.invokestatic 41, 3) := by decide +kernel
theorem dX1_restart_41 : decode cX1_restart 41 = .ok (.ifCond .eq 10, 3) := by decide +kernel
theorem dX1_restart_44 : decode cX1_restart 44 = .ok (.iload_n 2, 1) := by decide +kernel
theorem dX1_restart_45 : decode cX1_restart 45 = .ok (.iinc 2 1, 3) := by decide +kernel
theorem dX1_restart_48 : decode cX1_restart 48 = .ok (.goto 7, 3) := by decide +kernel
theorem dX1_restart_51 : decode cX1_restart 51 = .ok (.iload_n 3, 1) := by decide +kernel
theorem dX1_restart_52 : decode cX1_restart 52 = .ok (.iinc 3 1, 3) := by decide +kernel
theorem dX1_restart_55 : decode cX1_restart 55 = .ok (.istore 5, 2) := by decide +kernel
theorem dX1_restart_57 : decode cX1_restart 57 = .ok (.aload_n 0, 1) := by decide +kernel
theorem dX1_restart_58 : decode cX1_restart 58 = .ok (.getfield 9, 3) := by decide +kernel
theorem dX1_restart_61 : decode cX1_restart 61 = .ok (.iload 5, 2) := by decide +kernel
theorem dX1_restart_63 : decode cX1_restart 63 = .ok (.iload 4, 2) := by decide +kernel
theorem dX1_restart_65 : decode cX1_restart 65 = .ok (.iastore, 1) := by decide +kernel
theorem dX1_restart_66 : decode cX1_restart 66 = .ok (.aload_n 0, 1) := by decide +kernel
theorem dX1_restart_67 : decode cX1_restart 67 = .ok (.getfield 19, 3) := by decide +kernel
theorem dX1_restart_70 : decode cX1_restart 70 = .ok (.iload 5, 2) := by decide +kernel
theorem dX1_restart_72 : decode cX1_restart 72 = .ok (.bipush 8, 2) := by decide +kernel
theorem dX1_restart_74 : decode cX1_restart 74 = .ok (.imul, 1) := by decide +kernel
theorem dX1_restart_75 : decode cX1_restart 75 = .ok (.iload 4, 2) := by decide +kernel
theorem dX1_restart_77 : decode cX1_restart 77 = .ok (.iadd, 1) := by decide +kernel
theorem dX1_restart_78 : decode cX1_restart 78 = .ok (.ldc2_w 47, 3) := by decide +kernel
theorem dX1_restart_81 : decode cX1_restart 81 = .ok (.lastore, 1) := by decide +kernel
theorem dX1_restart_82 : decode cX1_restart 82 = .ok (.iinc 4 1, 3) := by decide +kernel
theorem dX1_restart_85 : decode cX1_restart 85 = .ok (.goto (-57), 3) := by decide +kernel
theorem dX1_restart_88 : decode cX1_restart 88 = .ok (.aload_n 0, 1) := by decide +kernel
theorem dX1_restart_89 : decode cX1_restart 89 = .ok (.iconst 1, 1) := by decide +kernel
theorem dX1_restart_90 : decode cX1_restart 90 = .ok (.putfield 49, 3) := by decide +kernel
theorem dX1_restart_93 : decode cX1_restart 93 = .ok (.return_, 1) := by decide +kernel
set_option maxRecDepth 20000 in
theorem ggX1_restart_J7_fill_d0a16 : GoodIn wsX1_restart wsJ7_fill_d0a16 := goodIn_r _ [10] (by decide +kernel) (by decide +kernel)
set_option maxRecDepth 20000 in
theorem gX1_restart_J7_fill_d0a16 : GoodIn wsX1_restart (va_wsS RX1 29 yJ7_fill_d0a16 wsJ7_fill_d0a16) := goodIn_app (goodIn_of _ (by decide +kernel)) ggX1_restart_J7_fill_d0a16
set_option maxRecDepth 20000 in
theorem ggX1_restart_J6_bitCount_0f7a4 : GoodIn wsX1_restart wsJ6_bitCount_0f7a4 := goodIn_r _ [14, 15, 16, 17] (by decide +kernel) (by decide +kernel)
set_option maxRecDepth 20000 in
theorem gX1_restart_J6_bitCount_0f7a4 : GoodIn wsX1_restart (va_wsS RX1 35 yJ6_bitCount_0f7a4 wsJ6_bitCount_0f7a4) := goodIn_app (goodIn_of _ (by decide +kernel)) ggX1_restart_J6_bitCount_0f7a4
set_option maxRecDepth 20000 in
theorem ggX1_restart_X7_isIn : GoodIn wsX1_restart wsX7_isIn := goodIn_r _ [20] (by decide +kernel) (by decide +kernel)
set_option maxRecDepth 20000 in
theorem gX1_restart_X7_isIn_n41 : GoodIn wsX1_restart (wsX7_isIn) := ggX1_restart_X7_isIn
theorem in_X1_restart_Chain : ∀ w ∈ u_ws RX1 TX1 6, w ∈ wsX1_restart := by decide +kernel
theorem wd_X1_restart_1 : Cond.fieldLink RX1 22 (TX1 1).1 (TX1 1).2.1 (TX1 1).2.2.1 ∈ wsX1_restart := by decide +kernel
theorem wd_X1_restart_2 : Cond.fieldLink RX1 26 (TX1 2).1 (TX1 2).2.1 (TX1 2).2.2.1 ∈ wsX1_restart := by decide +kernel
theorem wd_X1_restart_3 : Cond.fieldLink RX1 19 (TX1 5).1 (TX1 5).2.1 (TX1 5).2.2.1 ∈ wsX1_restart := by decide +kernel
theorem wd_X1_restart_4 : Cond.fieldLink RX1 49 (TX1 0).1 (TX1 0).2.1 (TX1 0).2.2.1 ∈ wsX1_restart := by decide +kernel
theorem wd_X1_restart_5 : Cond.initialized yX7_isIn.cls ∈ wsX1_restart := by decide +kernel
theorem wd_X1_restart_6 : Cond.static yX7_isIn ∈ wsX1_restart := by decide +kernel
theorem wd_X1_restart_7 : Cond.fieldLink RX1 9 (TX1 3).1 (TX1 3).2.1 (TX1 3).2.2.1 ∈ wsX1_restart := by decide +kernel
theorem wd_X1_restart_8 : Cond.constantLong RX1 47 1985229328 ∈ wsX1_restart := by decide +kernel
def r_X1_restart : Room := { frames := 2, cells := 0, slots := 0, locals := 36 }
set_option maxRecDepth 100000 in
set_option maxHeartbeats 4000000 in
theorem w_X1_restart_55 {K : zK} (hk : zIs K RX1 cX1_restart 6 wsX1_restart none r_X1_restart) {τ0 : zST} (hq : zQ K none τ0) (F : Nat) (k28 : Nat → Int32 → Int32 → Int32 → Int32 → zST → Option zST) (hk28 : ∀ (a0 : Nat) (a1 : Int32) (a2 : Int32) (a3 : Int32) (a4 : Int32) (ha0 : atChain (kZ K) a0) (σ : zST), k28 a0 a1 a2 a3 a4 σ = some τ0 → Z K 0 0 28 [(0, .ref (eA (kZ K) a0)), (1, .int a1), (2, .int a2), (3, .int a3), (4, .int a4)] [] σ) (a0 : Nat) (a1 : Int32) (a2 : Int32) (a3 : Int32) (a4 : Int32) (t0 : Int32) (ha0 : atChain (kZ K) a0) (σ : zST) (h : m_X1_restart_55 F k28 a0 a1 a2 a3 a4 t0 σ = some τ0) : Z K 0 0 55 [(0, .ref (eA (kZ K) a0)), (1, .int a1), (2, .int a2), (3, .int a3), (4, .int a4)] [.int t0] σ := by
  unfold m_X1_restart_55 at h
  refine Z_istore hk (lv' := [(5, .int t0), (0, .ref (eA (kZ K) a0)), (1, .int a1), (2, .int a2), (3, .int a3), (4, .int a4)]) dX1_restart_55 (by decide) rfl ?_
  refine Z_aload_n hk 1 dX1_restart_57 rfl rfl ?_
  refine Z_get hk in_X1_restart_Chain rfl ha0.cell.1 (ha0.cell.2 _) 3 (by decide) wd_X1_restart_7 rfl dX1_restart_58 ?_
  refine Z_iload hk 0 dX1_restart_61 rfl ?_
  refine Z_iload hk 5 dX1_restart_63 rfl ?_
  obtain ⟨i24, s22, e23, h⟩ := stI_get h
  refine Z_iast hk (ha0.base) i24 dX1_restart_65 ?_
  refine Z_eqS e23 ?_
  refine Z_aload_n hk 1 dX1_restart_66 rfl rfl ?_
  refine Z_get hk in_X1_restart_Chain rfl ha0.cell.1 (ha0.cell.2 _) 5 (by decide) wd_X1_restart_3 rfl dX1_restart_67 ?_
  refine Z_iload hk 0 dX1_restart_70 rfl ?_
  refine Z_bipush hk dX1_restart_72 zc_bipush_8 ?_
  refine Z_imul hk dX1_restart_74 ?_
  refine Z_iload hk 5 dX1_restart_75 rfl ?_
  refine Z_iadd hk dX1_restart_77 ?_
  refine Z_ldc2 hk (v := 1985229328) dX1_restart_78 wd_X1_restart_8 ?_
  obtain ⟨i27, s25, e26, h⟩ := stL_get h
  refine Z_last hk (ha0.back) i27 dX1_restart_81 ?_
  refine Z_eqS e26 ?_
  obtain ⟨x28, e29, h⟩ := nm_get h
  refine Z_iinc hk 5 (v := x28) (lv' := [(4, .int x28), (5, .int t0), (0, .ref (eA (kZ K) a0)), (1, .int a1), (2, .int a2), (3, .int a3)]) dX1_restart_82 rfl (by rw [zc_iinc_1]; exact e29) (by decide) rfl ?_
  refine Z_goto hk (tgt := 28) dX1_restart_85 (by decide) ?_
  refine Z_sub [2, 3, 4, 5, 0] rfl ?_
  exact hk28 a0 a1 a2 a3 x28 ha0 s25 h
set_option maxRecDepth 100000 in
set_option maxHeartbeats 4000000 in
theorem w_X1_restart_28 {K : zK} (hk : zIs K RX1 cX1_restart 6 wsX1_restart none r_X1_restart) {τ0 : zST} (hq : zQ K none τ0) (F : Nat) : ∀ (n : Nat) (a0 : Nat) (a1 : Int32) (a2 : Int32) (a3 : Int32) (a4 : Int32) (ha0 : atChain (kZ K) a0) (σ : zST), m_X1_restart_28 F n a0 a1 a2 a3 a4 σ = some τ0 → Z K 0 0 28 [(0, .ref (eA (kZ K) a0)), (1, .int a1), (2, .int a2), (3, .int a3), (4, .int a4)] [] σ := by
  intro n
  induction n with
  | zero => intro a0 a1 a2 a3 a4 ha0 σ h; cases h
  | succ n ih =>
    intro a0 a1 a2 a3 a4 ha0 σ h
    rw [m_X1_restart_28] at h
    refine Z_iload hk 4 dX1_restart_28 rfl ?_
    refine Z_bipush hk dX1_restart_30 zc_bipush_8 ?_
    refine Z_icmp_ge hk (tgt := 88) dX1_restart_32 (by decide) (fun c11 => ?_) (fun c11 => ?_)
    · have h := if_yes h c11
      refine Z_aload_n hk 0 dX1_restart_88 rfl rfl ?_
      refine Z_iconst hk dX1_restart_89 zc_iconst_1 ?_
      obtain ⟨s12, e13, h⟩ := nm_get h
      refine Z_put hk in_X1_restart_Chain tyX1 tok_TX1 tnm_TX1 rfl ha0.cell.1 (ha0.cell.2 _) 0 (by decide) wd_X1_restart_4 rfl (by decide) (Nat.le_of_ble_eq_true rfl) (ha0.put_members _ _) dX1_restart_90 ?_
      refine Z_eqS e13 ?_
      cases h
      exact Z_vret hk hq dX1_restart_93
    · have h := if_no h c11
      refine Z_iload_n hk 1 dX1_restart_35 rfl rfl ?_
      refine Z_iload hk 4 dX1_restart_36 rfl ?_
      obtain ⟨x14, s15, h16, h⟩ := bd_ok h
      refine Z_callSN 2 hk [.int a1, .int a4] (c_X7_isIn hk.loc hk.inj F a1 a4 σ h16) gX1_restart_X7_isIn_n41 nw_5 rfl ⟨rfl, rfl⟩ ⟨wd_X1_restart_5, wd_X1_restart_6⟩ (by decide +kernel) ⟨Nat.le_of_ble_eq_true rfl, Nat.le_of_ble_eq_true rfl⟩ rfl rfl (Nat.le_of_ble_eq_true rfl) ⟨Nat.zero_le _, Nat.zero_le _⟩ dX1_restart_38 ?_
      show Z K 0 0 41 [(0, .ref (eA (kZ K) a0)), (1, .int a1), (2, .int a2), (3, .int a3), (4, .int a4)] [.int x14] s15
      refine Z_if_eq hk (tgt := 51) dX1_restart_41 (by decide) (fun c17 => ?_) (fun c17 => ?_)
      · have h := if_yes h c17
        refine Z_iload_n hk 3 dX1_restart_51 rfl rfl ?_
        obtain ⟨x18, e19, h⟩ := nm_get h
        refine Z_iinc hk 3 (v := x18) (lv' := [(3, .int x18), (0, .ref (eA (kZ K) a0)), (1, .int a1), (2, .int a2), (4, .int a4)]) dX1_restart_52 rfl (by rw [zc_iinc_1]; exact e19) (by decide) rfl ?_
        refine Z_sub [1, 2, 3, 0, 4] rfl ?_
        exact w_X1_restart_55 hk hq F (m_X1_restart_28 F n) ih a0 a1 a2 x18 a4 a3 ha0 s15 h
      · have h := if_no h c17
        refine Z_iload_n hk 2 dX1_restart_44 rfl rfl ?_
        obtain ⟨x20, e21, h⟩ := nm_get h
        refine Z_iinc hk 2 (v := x20) (lv' := [(2, .int x20), (0, .ref (eA (kZ K) a0)), (1, .int a1), (3, .int a3), (4, .int a4)]) dX1_restart_45 rfl (by rw [zc_iinc_1]; exact e21) (by decide) rfl ?_
        refine Z_goto hk (tgt := 55) dX1_restart_48 (by decide) ?_
        refine Z_sub [1, 2, 0, 3, 4] rfl ?_
        exact w_X1_restart_55 hk hq F (m_X1_restart_28 F n) ih a0 a1 x20 a3 a4 a2 ha0 s15 h
set_option maxRecDepth 100000 in
set_option maxHeartbeats 4000000 in
theorem w_X1_restart {K : zK} (hk : zIs K RX1 cX1_restart 6 wsX1_restart none r_X1_restart) {τ0 : zST} (hq : zQ K none τ0) (F : Nat) (a0 : Nat) (a1 : Int32) (ha0 : atChain (kZ K) a0) (σ : zST) (h : m_X1_restart F a0 a1 σ = some τ0) : Z K 0 0 0 [(0, .ref (eA (kZ K) a0)), (1, .int a1)] [] σ := by
  unfold m_X1_restart at h
  refine Z_aload_n hk 0 dX1_restart_0 rfl rfl ?_
  refine Z_iconst hk dX1_restart_1 zc_iconst_0 ?_
  obtain ⟨s1, e2, h⟩ := nm_get h
  refine Z_put hk in_X1_restart_Chain tyX1 tok_TX1 tnm_TX1 rfl ha0.cell.1 (ha0.cell.2 _) 1 (by decide) wd_X1_restart_1 rfl (by decide) (Nat.le_of_ble_eq_true rfl) (ha0.put_keptCount _ _) dX1_restart_2 ?_
  refine Z_eqS e2 ?_
  refine Z_aload_n hk 0 dX1_restart_5 rfl rfl ?_
  refine Z_iconst hk dX1_restart_6 zc_iconst_0 ?_
  obtain ⟨s3, e4, h⟩ := nm_get h
  refine Z_put hk in_X1_restart_Chain tyX1 tok_TX1 tnm_TX1 rfl ha0.cell.1 (ha0.cell.2 _) 2 (by decide) wd_X1_restart_2 rfl (by decide) (Nat.le_of_ble_eq_true rfl) (ha0.put_closedCount _ _) dX1_restart_7 ?_
  refine Z_eqS e4 ?_
  refine Z_aload_n hk 0 dX1_restart_10 rfl rfl ?_
  refine Z_get hk in_X1_restart_Chain rfl ha0.cell.1 (ha0.cell.2 _) 5 (by decide) wd_X1_restart_3 rfl dX1_restart_11 ?_
  refine Z_lconst hk dX1_restart_14 (v := 0) rfl ?_
  obtain ⟨s6, h7, h⟩ := bv_ok h
  refine Z_callT 2 hk [.ref (eA (kZ K) (a0 + 3)), .long 0] (c_J7_fill_d0a16 hk.loc hk.inj F 64 (a0 + 3) 0 (ha0.back) s3 h7) gX1_restart_J7_fill_d0a16 rfl ⟨rfl, rfl⟩ (by decide +kernel) ⟨Nat.le_of_ble_eq_true rfl, Nat.le_of_ble_eq_true rfl⟩ rfl rfl (Nat.le_of_ble_eq_true rfl) ⟨Nat.zero_le _, Nat.zero_le _⟩ dX1_restart_15 ?_
  show Z K 0 0 18 [(0, .ref (eA (kZ K) a0)), (1, .int a1)] [] s6
  refine Z_iconst hk dX1_restart_18 zc_iconst_0 ?_
  refine Z_istore_n hk (lv' := [(2, .int 0), (0, .ref (eA (kZ K) a0)), (1, .int a1)]) dX1_restart_19 rfl (by decide) rfl ?_
  refine Z_iload_n hk 2 dX1_restart_20 rfl rfl ?_
  obtain ⟨x8, s9, h10, h⟩ := bd_ok h
  refine Z_callT 1 hk [.int a1] (c_J6_bitCount_0f7a4 hk.loc hk.inj F a1 s6 h10) gX1_restart_J6_bitCount_0f7a4 rfl ⟨rfl, rfl⟩ (by decide +kernel) ⟨Nat.le_of_ble_eq_true rfl, Nat.le_of_ble_eq_true rfl⟩ rfl rfl (Nat.le_of_ble_eq_true rfl) ⟨Nat.zero_le _, Nat.zero_le _⟩ dX1_restart_21 ?_
  show Z K 0 0 24 [(2, .int 0), (0, .ref (eA (kZ K) a0)), (1, .int a1)] [.int x8] s9
  refine Z_istore_n hk (lv' := [(3, .int x8), (2, .int 0), (0, .ref (eA (kZ K) a0)), (1, .int a1)]) dX1_restart_24 rfl (by decide) rfl ?_
  refine Z_iconst hk dX1_restart_25 zc_iconst_0 ?_
  refine Z_istore hk (lv' := [(4, .int 0), (3, .int x8), (2, .int 0), (0, .ref (eA (kZ K) a0)), (1, .int a1)]) dX1_restart_26 (by decide) rfl ?_
  refine Z_sub [3, 4, 2, 1, 0] rfl ?_
  exact w_X1_restart_28 hk hq F F a0 a1 0 x8 0 ha0 s9 h
theorem c_X1_restart {l : Launch} {E : zE} (hL : eL E) (hJ : eJ E) (F : Nat) (a0 : Nat) (a1 : Int32) (ha0 : atChain E a0) (σ : zST) {τ0 : zST} (h : m_X1_restart F a0 a1 σ = some τ0) : Ct l yX1_restart wsX1_restart r_X1_restart E [.ref (eA E a0), .int a1] σ none τ0 := by
  refine Ct_of (by decide) rfl hL hJ (Nat.le_of_ble_eq_true rfl) (fun K hE hl hk hq => ?_)
  subst hE
  exact w_X1_restart hk hq F a0 a1 ha0 σ h
end

-- CanonCote$Permutation.imageOf (JI)I
section
theorem dX5_imageOf_0 : decode cX5_imageOf 0 = .ok (.lload_n 0, 1) := by decide +kernel
theorem dX5_imageOf_1 : decode cX5_imageOf 1 = .ok (.iconst 4, 1) := by decide +kernel
theorem dX5_imageOf_2 : decode cX5_imageOf 2 = .ok (.iload_n 2, 1) := by decide +kernel
theorem dX5_imageOf_3 : decode cX5_imageOf 3 = .ok (.imul, 1) := by decide +kernel
theorem dX5_imageOf_4 : decode cX5_imageOf 4 = .ok (.lshr, 1) := by decide +kernel
theorem dX5_imageOf_5 : decode cX5_imageOf 5 = .ok (.l2i, 1) := by decide +kernel
theorem dX5_imageOf_6 : decode cX5_imageOf 6 = .ok (.bipush 7, 2) := by decide +kernel
theorem dX5_imageOf_8 : decode cX5_imageOf 8 = .ok (.iand, 1) := by decide +kernel
theorem dX5_imageOf_9 : decode cX5_imageOf 9 = .ok (.ireturn, 1) := by decide +kernel
def r_X5_imageOf : Room := { frames := 1, cells := 0, slots := 0, locals := 12 }
set_option maxRecDepth 100000 in
set_option maxHeartbeats 4000000 in
theorem w_X5_imageOf {K : zK} (hk : zIs K RX5 cX5_imageOf 3 wsX5_imageOf (some .int) r_X5_imageOf) {r0 : Int32} {τ0 : zST} (hq : zQ K (some (.int r0)) τ0) (F : Nat) (a0 : Int64) (a2 : Int32) (σ : zST) (h : m_X5_imageOf F a0 a2 σ = some (r0, τ0)) : Z K 0 0 0 [(0, .long a0), (2, .int a2)] [] σ := by
  unfold m_X5_imageOf at h
  refine Z_lload_n hk 0 dX5_imageOf_0 rfl rfl ?_
  refine Z_iconst hk dX5_imageOf_1 zc_iconst_4 ?_
  refine Z_iload_n hk 1 dX5_imageOf_2 rfl rfl ?_
  refine Z_imul hk dX5_imageOf_3 ?_
  refine Z_lshr hk dX5_imageOf_4 ?_
  refine Z_l2i hk dX5_imageOf_5 ?_
  refine Z_bipush hk dX5_imageOf_6 zc_bipush_7 ?_
  refine Z_iand hk dX5_imageOf_8 ?_
  cases h
  exact Z_iret hk hq dX5_imageOf_9
theorem c_X5_imageOf {l : Launch} {E : zE} (hL : eL E) (hJ : eJ E) (F : Nat) (a0 : Int64) (a2 : Int32) (σ : zST) {r0 : Int32} {τ0 : zST} (h : m_X5_imageOf F a0 a2 σ = some (r0, τ0)) : Ct l yX5_imageOf wsX5_imageOf r_X5_imageOf E [.long a0, .int a2] σ (some (.int r0)) τ0 := by
  refine Ct_of (by decide) rfl hL hJ (Nat.le_of_ble_eq_true rfl) (fun K hE hl hk hq => ?_)
  subst hE
  exact w_X5_imageOf hk hq F a0 a2 σ h
end

-- CanonCote$Permutation.carrying (II)J
section
theorem dX5_carrying_0 : decode cX5_carrying 0 = .ok (.iload_n 1, 1) := by decide +kernel
theorem dX5_carrying_1 : decode cX5_carrying 1 = .ok (.i2l, 1) := by decide +kernel
theorem dX5_carrying_2 : decode cX5_carrying 2 = .ok (.iconst 4, 1) := by decide +kernel
theorem dX5_carrying_3 : decode cX5_carrying 3 = .ok (.iload_n 0, 1) := by decide +kernel
theorem dX5_carrying_4 : decode cX5_carrying 4 = .ok (.imul, 1) := by decide +kernel
theorem dX5_carrying_5 : decode cX5_carrying 5 = .ok (.lshl, 1) := by decide +kernel
theorem dX5_carrying_6 : decode cX5_carrying 6 = .ok (.lreturn, 1) := by decide +kernel
def r_X5_carrying : Room := { frames := 1, cells := 0, slots := 0, locals := 12 }
set_option maxRecDepth 100000 in
set_option maxHeartbeats 4000000 in
theorem w_X5_carrying {K : zK} (hk : zIs K RX5 cX5_carrying 2 wsX5_carrying (some .long) r_X5_carrying) {r0 : Int64} {τ0 : zST} (hq : zQ K (some (.long r0)) τ0) (F : Nat) (a0 : Int32) (a1 : Int32) (σ : zST) (h : m_X5_carrying F a0 a1 σ = some (r0, τ0)) : Z K 0 0 0 [(0, .int a0), (1, .int a1)] [] σ := by
  unfold m_X5_carrying at h
  refine Z_iload_n hk 1 dX5_carrying_0 rfl rfl ?_
  refine Z_i2l hk dX5_carrying_1 ?_
  refine Z_iconst hk dX5_carrying_2 zc_iconst_4 ?_
  refine Z_iload_n hk 0 dX5_carrying_3 rfl rfl ?_
  refine Z_imul hk dX5_carrying_4 ?_
  refine Z_lshl hk dX5_carrying_5 ?_
  cases h
  exact Z_lret hk hq dX5_carrying_6
theorem c_X5_carrying {l : Launch} {E : zE} (hL : eL E) (hJ : eJ E) (F : Nat) (a0 : Int32) (a1 : Int32) (σ : zST) {r0 : Int64} {τ0 : zST} (h : m_X5_carrying F a0 a1 σ = some (r0, τ0)) : Ct l yX5_carrying wsX5_carrying r_X5_carrying E [.int a0, .int a1] σ (some (.long r0)) τ0 := by
  refine Ct_of (by decide) rfl hL hJ (Nat.le_of_ble_eq_true rfl) (fun K hE hl hk hq => ?_)
  subst hE
  exact w_X5_carrying hk hq F a0 a1 σ h
end

-- CanonCote$Permutation.oneThenOther (JJ)J
section
theorem dX5_oneThenOther_0 : decode cX5_oneThenOther 0 = .ok (.lconst 0, 1) := by decide +kernel
theorem dX5_oneThenOther_1 : decode cX5_oneThenOther 1 = .ok (.lstore 4, 2) := by decide +kernel
theorem dX5_oneThenOther_3 : decode cX5_oneThenOther 3 = .ok (.iconst 0, 1) := by decide +kernel
theorem dX5_oneThenOther_4 : decode cX5_oneThenOther 4 = .ok (.istore 6, 2) := by decide +kernel
theorem dX5_oneThenOther_6 : decode cX5_oneThenOther 6 = .ok (.iload 6, 2) := by decide +kernel
theorem dX5_oneThenOther_8 : decode cX5_oneThenOther 8 = .ok (.bipush 8, 2) := by decide +kernel
theorem dX5_oneThenOther_10 : decode cX5_oneThenOther 10 = .ok (.if_icmp .ge 29, 3) := by decide +kernel
theorem dX5_oneThenOther_13 : decode cX5_oneThenOther 13 = .ok (.lload 4, 2) := by decide +kernel
theorem dX5_oneThenOther_15 : decode cX5_oneThenOther 15 = .ok (.iload 6, 2) := by decide +kernel
theorem dX5_oneThenOther_17 : decode cX5_oneThenOther 17 = .ok (.lload_n 2, 1) := by decide +kernel
theorem dX5_oneThenOther_18 : decode cX5_oneThenOther 18 = .ok (.lload_n 0, 1) := by decide +kernel
theorem dX5_oneThenOther_19 : decode cX5_oneThenOther 19 = .ok (.iload 6, 2) := by decide +kernel
theorem dX5_oneThenOther_21 : decode cX5_oneThenOther 21 = .ok (.invokestatic 13, 3) := by decide +kernel
theorem dX5_oneThenOther_24 : decode cX5_oneThenOther 24 = .ok (.invokestatic 13, 3) := by decide +kernel
theorem dX5_oneThenOther_27 : decode cX5_oneThenOther 27 = .ok (.invokestatic 17, 3) := by decide +kernel
theorem dX5_oneThenOther_30 : decode cX5_oneThenOther 30 = .ok (.lor, 1) := by decide +kernel
theorem dX5_oneThenOther_31 : decode cX5_oneThenOther 31 = .ok (.lstore 4, 2) := by decide +kernel
theorem dX5_oneThenOther_33 : decode cX5_oneThenOther 33 = .ok (.iinc 6 1, 3) := by decide +kernel
theorem dX5_oneThenOther_36 : decode cX5_oneThenOther 36 = .ok (.goto (-30), 3) := by decide +kernel
theorem dX5_oneThenOther_39 : decode cX5_oneThenOther 39 = .ok (.lload 4, 2) := by decide +kernel
theorem dX5_oneThenOther_41 : decode cX5_oneThenOther 41 = .ok (.lreturn, 1) := by decide +kernel
set_option maxRecDepth 20000 in
theorem ggX5_oneThenOther_X5_imageOf : GoodIn wsX5_oneThenOther wsX5_imageOf := goodIn_r _ [4] (by decide +kernel) (by decide +kernel)
set_option maxRecDepth 20000 in
theorem gX5_oneThenOther_X5_imageOf : GoodIn wsX5_oneThenOther (va_wsS RX5 13 yX5_imageOf wsX5_imageOf) := goodIn_app (goodIn_of _ (by decide +kernel)) ggX5_oneThenOther_X5_imageOf
set_option maxRecDepth 20000 in
theorem ggX5_oneThenOther_X5_carrying : GoodIn wsX5_oneThenOther wsX5_carrying := goodIn_r _ [7] (by decide +kernel) (by decide +kernel)
set_option maxRecDepth 20000 in
theorem gX5_oneThenOther_X5_carrying : GoodIn wsX5_oneThenOther (va_wsS RX5 17 yX5_carrying wsX5_carrying) := goodIn_app (goodIn_of _ (by decide +kernel)) ggX5_oneThenOther_X5_carrying
def r_X5_oneThenOther : Room := { frames := 2, cells := 0, slots := 0, locals := 34 }
set_option maxRecDepth 100000 in
set_option maxHeartbeats 4000000 in
theorem w_X5_oneThenOther_6 {K : zK} (hk : zIs K RX5 cX5_oneThenOther 7 wsX5_oneThenOther (some .long) r_X5_oneThenOther) {r0 : Int64} {τ0 : zST} (hq : zQ K (some (.long r0)) τ0) (F : Nat) : ∀ (n : Nat) (a0 : Int64) (a2 : Int64) (a4 : Int64) (a6 : Int32) (σ : zST), m_X5_oneThenOther_6 F n a0 a2 a4 a6 σ = some (r0, τ0) → Z K 0 0 6 [(0, .long a0), (2, .long a2), (4, .long a4), (6, .int a6)] [] σ := by
  intro n
  induction n with
  | zero => intro a0 a2 a4 a6 σ h; cases h
  | succ n ih =>
    intro a0 a2 a4 a6 σ h
    rw [m_X5_oneThenOther_6] at h
    refine Z_iload hk 3 dX5_oneThenOther_6 rfl ?_
    refine Z_bipush hk dX5_oneThenOther_8 zc_bipush_8 ?_
    refine Z_icmp_ge hk (tgt := 39) dX5_oneThenOther_10 (by decide) (fun c1 => ?_) (fun c1 => ?_)
    · have h := if_yes h c1
      refine Z_lload hk 2 dX5_oneThenOther_39 rfl ?_
      cases h
      exact Z_lret hk hq dX5_oneThenOther_41
    · have h := if_no h c1
      refine Z_lload hk 2 dX5_oneThenOther_13 rfl ?_
      refine Z_iload hk 3 dX5_oneThenOther_15 rfl ?_
      refine Z_lload_n hk 1 dX5_oneThenOther_17 rfl rfl ?_
      refine Z_lload_n hk 0 dX5_oneThenOther_18 rfl rfl ?_
      refine Z_iload hk 3 dX5_oneThenOther_19 rfl ?_
      obtain ⟨x2, s3, h4, h⟩ := bd_ok h
      refine Z_callT 2 hk [.long a0, .int a6] (c_X5_imageOf hk.loc hk.inj F a0 a6 σ h4) gX5_oneThenOther_X5_imageOf rfl ⟨rfl, rfl⟩ (by decide +kernel) ⟨Nat.le_of_ble_eq_true rfl, Nat.le_of_ble_eq_true rfl⟩ rfl rfl (Nat.le_of_ble_eq_true rfl) ⟨Nat.zero_le _, Nat.zero_le _⟩ dX5_oneThenOther_21 ?_
      show Z K 0 0 24 [(0, .long a0), (2, .long a2), (4, .long a4), (6, .int a6)] [.int x2, .long a2, .int a6, .long a4] s3
      obtain ⟨x5, s6, h7, h⟩ := bd_ok h
      refine Z_callT 2 hk [.long a2, .int x2] (c_X5_imageOf hk.loc hk.inj F a2 x2 s3 h7) gX5_oneThenOther_X5_imageOf rfl ⟨rfl, rfl⟩ (by decide +kernel) ⟨Nat.le_of_ble_eq_true rfl, Nat.le_of_ble_eq_true rfl⟩ rfl rfl (Nat.le_of_ble_eq_true rfl) ⟨Nat.zero_le _, Nat.zero_le _⟩ dX5_oneThenOther_24 ?_
      show Z K 0 0 27 [(0, .long a0), (2, .long a2), (4, .long a4), (6, .int a6)] [.int x5, .int a6, .long a4] s6
      obtain ⟨x8, s9, h10, h⟩ := bd_ok h
      refine Z_callT 2 hk [.int a6, .int x5] (c_X5_carrying hk.loc hk.inj F a6 x5 s6 h10) gX5_oneThenOther_X5_carrying rfl ⟨rfl, rfl⟩ (by decide +kernel) ⟨Nat.le_of_ble_eq_true rfl, Nat.le_of_ble_eq_true rfl⟩ rfl rfl (Nat.le_of_ble_eq_true rfl) ⟨Nat.zero_le _, Nat.zero_le _⟩ dX5_oneThenOther_27 ?_
      show Z K 0 0 30 [(0, .long a0), (2, .long a2), (4, .long a4), (6, .int a6)] [.long x8, .long a4] s9
      refine Z_lor hk dX5_oneThenOther_30 ?_
      obtain ⟨x11, e12, h⟩ := nm_get h
      refine Z_eqL e12 ?_
      refine Z_lstore hk (lv' := [(4, .long x11), (0, .long a0), (2, .long a2), (6, .int a6)]) dX5_oneThenOther_31 (by decide) rfl ?_
      obtain ⟨x13, e14, h⟩ := nm_get h
      refine Z_iinc hk 3 (v := x13) (lv' := [(6, .int x13), (4, .long x11), (0, .long a0), (2, .long a2)]) dX5_oneThenOther_33 rfl (by rw [zc_iinc_1]; exact e14) (by decide) rfl ?_
      refine Z_goto hk (tgt := 6) dX5_oneThenOther_36 (by decide) ?_
      refine Z_sub [2, 3, 1, 0] rfl ?_
      exact ih a0 a2 x11 x13 s9 h
set_option maxRecDepth 100000 in
set_option maxHeartbeats 4000000 in
theorem w_X5_oneThenOther {K : zK} (hk : zIs K RX5 cX5_oneThenOther 7 wsX5_oneThenOther (some .long) r_X5_oneThenOther) {r0 : Int64} {τ0 : zST} (hq : zQ K (some (.long r0)) τ0) (F : Nat) (a0 : Int64) (a2 : Int64) (σ : zST) (h : m_X5_oneThenOther F a0 a2 σ = some (r0, τ0)) : Z K 0 0 0 [(0, .long a0), (2, .long a2)] [] σ := by
  unfold m_X5_oneThenOther at h
  refine Z_lconst hk dX5_oneThenOther_0 (v := 0) rfl ?_
  refine Z_lstore hk (lv' := [(4, .long 0), (0, .long a0), (2, .long a2)]) dX5_oneThenOther_1 (by decide) rfl ?_
  refine Z_iconst hk dX5_oneThenOther_3 zc_iconst_0 ?_
  refine Z_istore hk (lv' := [(6, .int 0), (4, .long 0), (0, .long a0), (2, .long a2)]) dX5_oneThenOther_4 (by decide) rfl ?_
  refine Z_sub [2, 3, 1, 0] rfl ?_
  exact w_X5_oneThenOther_6 hk hq F F a0 a2 0 0 σ h
theorem c_X5_oneThenOther {l : Launch} {E : zE} (hL : eL E) (hJ : eJ E) (F : Nat) (a0 : Int64) (a2 : Int64) (σ : zST) {r0 : Int64} {τ0 : zST} (h : m_X5_oneThenOther F a0 a2 σ = some (r0, τ0)) : Ct l yX5_oneThenOther wsX5_oneThenOther r_X5_oneThenOther E [.long a0, .long a2] σ (some (.long r0)) τ0 := by
  refine Ct_of (by decide) rfl hL hJ (Nat.le_of_ble_eq_true rfl) (fun K hE hl hk hq => ?_)
  subst hE
  exact w_X5_oneThenOther hk hq F a0 a2 σ h
end

-- CanonCote$Chain.restOf (J)J
section
theorem dX1_restOf_0 : decode cX1_restOf 0 = .ok (.lload_n 1, 1) := by decide +kernel
theorem dX1_restOf_1 : decode cX1_restOf 1 = .ok (.lstore_n 3, 1) := by decide +kernel
theorem dX1_restOf_2 : decode cX1_restOf 2 = .ok (.iconst 0, 1) := by decide +kernel
theorem dX1_restOf_3 : decode cX1_restOf 3 = .ok (.istore 5, 2) := by decide +kernel
theorem dX1_restOf_5 : decode cX1_restOf 5 = .ok (.iload 5, 2) := by decide +kernel
theorem dX1_restOf_7 : decode cX1_restOf 7 = .ok (.bipush 8, 2) := by decide +kernel
theorem dX1_restOf_9 : decode cX1_restOf 9 = .ok (.if_icmp .ge 65, 3) := by decide +kernel
theorem dX1_restOf_12 : decode cX1_restOf 12 = .ok (.lload_n 3, 1) := by decide +kernel
theorem dX1_restOf_13 : decode cX1_restOf 13 = .ok (.aload_n 0, 1) := by decide +kernel
theorem dX1_restOf_14 : decode cX1_restOf 14 = .ok (.getfield 9, 3) := by decide +kernel
theorem dX1_restOf_17 : decode cX1_restOf 17 = .ok (.iload 5, 2) := by decide +kernel
theorem dX1_restOf_19 : decode cX1_restOf 19 = .ok (.iaload, 1) := by decide +kernel
theorem dX1_restOf_20 : decode cX1_restOf 20 = .ok (.invokestatic 68, 3) := by decide +kernel
theorem dX1_restOf_23 : decode cX1_restOf 23 = .ok (.istore 6, 2) := by decide +kernel
theorem dX1_restOf_25 : decode cX1_restOf 25 = .ok (.aload_n 0, 1) := by decide +kernel
theorem dX1_restOf_26 : decode cX1_restOf 26 = .ok (.getfield 19, 3) := by decide +kernel
theorem dX1_restOf_29 : decode cX1_restOf 29 = .ok (.iload 5, 2) := by decide +kernel
theorem dX1_restOf_31 : decode cX1_restOf 31 = .ok (.bipush 8, 2) := by decide +kernel
theorem dX1_restOf_33 : decode cX1_restOf 33 = .ok (.imul, 1) := by decide +kernel
theorem dX1_restOf_34 : decode cX1_restOf 34 = .ok (.iload 6, 2) := by decide +kernel
theorem dX1_restOf_36 : decode cX1_restOf 36 = .ok (.iadd, 1) := by decide +kernel
theorem dX1_restOf_37 : decode cX1_restOf 37 = .ok (.laload, 1) := by decide +kernel
theorem dX1_restOf_38 : decode cX1_restOf 38 = .ok (.lstore 7, 2) := by decide +kernel
theorem dX1_restOf_40 : decode cX1_restOf 40 = .ok (.lload 7, 2) := by decide +kernel
theorem dX1_restOf_42 : decode cX1_restOf 42 = .ok (.lconst 0, 1) := by decide +kernel
theorem dX1_restOf_43 : decode cX1_restOf 43 = .ok (.lcmp, 1) := by decide +kernel
theorem dX1_restOf_44 : decode cX1_restOf 44 = .ok (.ifCond .ne 5, 3) := by decide +kernel
theorem dX1_restOf_47 : decode cX1_restOf 47 = .ok (.lload_n 3, 1) := by decide +kernel
theorem dX1_restOf_48 : decode cX1_restOf 48 = .ok (.lreturn, 1) := by decide +kernel
theorem dX1_restOf_49 : decode cX1_restOf 49 = .ok (.iload 6, 2) := by decide +kernel
theorem dX1_restOf_51 : decode cX1_restOf 51 = .ok (.aload_n 0, 1) := by decide +kernel
theorem dX1_restOf_52 : decode cX1_restOf 52 = .ok (.getfield 9, 3) := by decide +kernel
theorem dX1_restOf_55 : decode cX1_restOf 55 = .ok (.iload 5, 2) := by decide +kernel
theorem dX1_restOf_57 : decode cX1_restOf 57 = .ok (.iaload, 1) := by decide +kernel
theorem dX1_restOf_58 : decode cX1_restOf 58 = .ok (.if_icmp .eq 10, 3) := by decide +kernel
theorem dX1_restOf_61 : decode cX1_restOf 61 = .ok (.lload_n 3, 1) := by decide +kernel
theorem dX1_restOf_62 : decode cX1_restOf 62 = .ok (.lload 7, 2) := by decide +kernel
theorem dX1_restOf_64 : decode cX1_restOf 64 = .ok (.invokestatic 56, 3) := by decide +kernel
theorem dX1_restOf_67 : decode cX1_restOf 67 = .ok (.lstore_n 3, 1) := by decide +kernel
theorem dX1_restOf_68 : decode cX1_restOf 68 = .ok (.iinc 5 1, 3) := by decide +kernel
theorem dX1_restOf_71 : decode cX1_restOf 71 = .ok (.goto (-66), 3) := by decide +kernel
theorem dX1_restOf_74 : decode cX1_restOf 74 = .ok (.lload_n 3, 1) := by decide +kernel
theorem dX1_restOf_75 : decode cX1_restOf 75 = .ok (.lreturn, 1) := by decide +kernel
set_option maxRecDepth 20000 in
theorem ggX1_restOf_X5_imageOf : GoodIn wsX1_restOf wsX5_imageOf := goodIn_r _ [5] (by decide +kernel) (by decide +kernel)
set_option maxRecDepth 20000 in
theorem gX1_restOf_X5_imageOf_n68 : GoodIn wsX1_restOf (wsX5_imageOf) := ggX1_restOf_X5_imageOf
set_option maxRecDepth 20000 in
theorem ggX1_restOf_X5_oneThenOther : GoodIn wsX1_restOf wsX5_oneThenOther := goodIn_r _ [7, 8, 3, 4, 5, 9, 10, 11] (by decide +kernel) (by decide +kernel)
set_option maxRecDepth 20000 in
theorem gX1_restOf_X5_oneThenOther_n56 : GoodIn wsX1_restOf (wsX5_oneThenOther) := ggX1_restOf_X5_oneThenOther
theorem in_X1_restOf_Chain : ∀ w ∈ u_ws RX1 TX1 6, w ∈ wsX1_restOf := by decide +kernel
theorem wd_X1_restOf_1 : Cond.fieldLink RX1 9 (TX1 3).1 (TX1 3).2.1 (TX1 3).2.2.1 ∈ wsX1_restOf := by decide +kernel
theorem wd_X1_restOf_2 : Cond.initialized yX5_imageOf.cls ∈ wsX1_restOf := by decide +kernel
theorem wd_X1_restOf_3 : Cond.static yX5_imageOf ∈ wsX1_restOf := by decide +kernel
theorem wd_X1_restOf_4 : Cond.fieldLink RX1 19 (TX1 5).1 (TX1 5).2.1 (TX1 5).2.2.1 ∈ wsX1_restOf := by decide +kernel
theorem wd_X1_restOf_5 : Cond.initialized yX5_oneThenOther.cls ∈ wsX1_restOf := by decide +kernel
theorem wd_X1_restOf_6 : Cond.static yX5_oneThenOther ∈ wsX1_restOf := by decide +kernel
def r_X1_restOf : Room := { frames := 3, cells := 0, slots := 0, locals := 60 }
set_option maxRecDepth 100000 in
set_option maxHeartbeats 4000000 in
theorem w_X1_restOf_68 {K : zK} (hk : zIs K RX1 cX1_restOf 9 wsX1_restOf (some .long) r_X1_restOf) {r0 : Int64} {τ0 : zST} (hq : zQ K (some (.long r0)) τ0) (F : Nat) (k5 : Nat → Int64 → Int32 → zST → Option (Int64 × zST)) (hk5 : ∀ (a0 : Nat) (a3 : Int64) (a5 : Int32) (ha0 : atChain (kZ K) a0) (σ : zST), k5 a0 a3 a5 σ = some (r0, τ0) → Z K 0 0 5 [(0, .ref (eA (kZ K) a0)), (3, .long a3), (5, .int a5)] [] σ) (a0 : Nat) (a3 : Int64) (a5 : Int32) (ha0 : atChain (kZ K) a0) (σ : zST) (h : m_X1_restOf_68 F k5 a0 a3 a5 σ = some (r0, τ0)) : Z K 0 0 68 [(0, .ref (eA (kZ K) a0)), (3, .long a3), (5, .int a5)] [] σ := by
  unfold m_X1_restOf_68 at h
  obtain ⟨x19, e20, h⟩ := nm_get h
  refine Z_iinc hk 2 (v := x19) (lv' := [(5, .int x19), (0, .ref (eA (kZ K) a0)), (3, .long a3)]) dX1_restOf_68 rfl (by rw [zc_iinc_1]; exact e20) (by decide) rfl ?_
  refine Z_goto hk (tgt := 5) dX1_restOf_71 (by decide) ?_
  refine Z_sub [1, 2, 0] rfl ?_
  exact hk5 a0 a3 x19 ha0 σ h
set_option maxRecDepth 100000 in
set_option maxHeartbeats 4000000 in
theorem w_X1_restOf_5 {K : zK} (hk : zIs K RX1 cX1_restOf 9 wsX1_restOf (some .long) r_X1_restOf) {r0 : Int64} {τ0 : zST} (hq : zQ K (some (.long r0)) τ0) (F : Nat) : ∀ (n : Nat) (a0 : Nat) (a3 : Int64) (a5 : Int32) (ha0 : atChain (kZ K) a0) (σ : zST), m_X1_restOf_5 F n a0 a3 a5 σ = some (r0, τ0) → Z K 0 0 5 [(0, .ref (eA (kZ K) a0)), (3, .long a3), (5, .int a5)] [] σ := by
  intro n
  induction n with
  | zero => intro a0 a3 a5 ha0 σ h; cases h
  | succ n ih =>
    intro a0 a3 a5 ha0 σ h
    rw [m_X1_restOf_5] at h
    refine Z_iload hk 2 dX1_restOf_5 rfl ?_
    refine Z_bipush hk dX1_restOf_7 zc_bipush_8 ?_
    refine Z_icmp_ge hk (tgt := 74) dX1_restOf_9 (by decide) (fun c1 => ?_) (fun c1 => ?_)
    · have h := if_yes h c1
      refine Z_lload_n hk 1 dX1_restOf_74 rfl rfl ?_
      cases h
      exact Z_lret hk hq dX1_restOf_75
    · have h := if_no h c1
      refine Z_lload_n hk 1 dX1_restOf_12 rfl rfl ?_
      refine Z_aload_n hk 0 dX1_restOf_13 rfl rfl ?_
      refine Z_get hk in_X1_restOf_Chain rfl ha0.cell.1 (ha0.cell.2 _) 3 (by decide) wd_X1_restOf_1 rfl dX1_restOf_14 ?_
      refine Z_iload hk 2 dX1_restOf_17 rfl ?_
      obtain ⟨i4, x2, e3, h⟩ := ldI_get h
      refine Z_iald hk (ha0.base) i4 dX1_restOf_19 ?_
      refine Z_eqI e3 ?_
      obtain ⟨x5, s6, h7, h⟩ := bd_ok h
      refine Z_callSN 2 hk [.long a3, .int x2] (c_X5_imageOf hk.loc hk.inj F a3 x2 σ h7) gX1_restOf_X5_imageOf_n68 nw_6 rfl ⟨rfl, rfl⟩ ⟨wd_X1_restOf_2, wd_X1_restOf_3⟩ (by decide +kernel) ⟨Nat.le_of_ble_eq_true rfl, Nat.le_of_ble_eq_true rfl⟩ rfl rfl (Nat.le_of_ble_eq_true rfl) ⟨Nat.zero_le _, Nat.zero_le _⟩ dX1_restOf_20 ?_
      show Z K 0 0 23 [(0, .ref (eA (kZ K) a0)), (3, .long a3), (5, .int a5)] [.int x5] s6
      refine Z_istore hk (lv' := [(6, .int x5), (0, .ref (eA (kZ K) a0)), (3, .long a3), (5, .int a5)]) dX1_restOf_23 (by decide) rfl ?_
      refine Z_aload_n hk 1 dX1_restOf_25 rfl rfl ?_
      refine Z_get hk in_X1_restOf_Chain rfl ha0.cell.1 (ha0.cell.2 _) 5 (by decide) wd_X1_restOf_4 rfl dX1_restOf_26 ?_
      refine Z_iload hk 3 dX1_restOf_29 rfl ?_
      refine Z_bipush hk dX1_restOf_31 zc_bipush_8 ?_
      refine Z_imul hk dX1_restOf_33 ?_
      refine Z_iload hk 0 dX1_restOf_34 rfl ?_
      refine Z_iadd hk dX1_restOf_36 ?_
      obtain ⟨i10, x8, e9, h⟩ := ldL_get h
      refine Z_lald hk (ha0.back) i10 dX1_restOf_37 ?_
      refine Z_eqL e9 ?_
      refine Z_lstore hk (lv' := [(7, .long x8), (6, .int x5), (0, .ref (eA (kZ K) a0)), (3, .long a3), (5, .int a5)]) dX1_restOf_38 (by decide) rfl ?_
      refine Z_lload hk 0 dX1_restOf_40 rfl ?_
      refine Z_lconst hk dX1_restOf_42 (v := 0) rfl ?_
      refine Z_lcmp hk dX1_restOf_43 ?_
      refine Z_if_ne hk (tgt := 49) dX1_restOf_44 (by decide) (fun c11 => ?_) (fun c11 => ?_)
      · have h := if_yes h c11
        refine Z_lload_n hk 3 dX1_restOf_47 rfl rfl ?_
        cases h
        exact Z_lret hk hq dX1_restOf_48
      · have h := if_no h c11
        refine Z_iload hk 1 dX1_restOf_49 rfl ?_
        refine Z_aload_n hk 2 dX1_restOf_51 rfl rfl ?_
        refine Z_get hk in_X1_restOf_Chain rfl ha0.cell.1 (ha0.cell.2 _) 3 (by decide) wd_X1_restOf_1 rfl dX1_restOf_52 ?_
        refine Z_iload hk 4 dX1_restOf_55 rfl ?_
        obtain ⟨i14, x12, e13, h⟩ := ldI_get h
        refine Z_iald hk (ha0.base) i14 dX1_restOf_57 ?_
        refine Z_eqI e13 ?_
        refine Z_icmp_eq hk (tgt := 68) dX1_restOf_58 (by decide) (fun c15 => ?_) (fun c15 => ?_)
        · have h := if_yes h c15
          refine Z_sub [2, 3, 4] rfl ?_
          exact w_X1_restOf_68 hk hq F (m_X1_restOf_5 F n) ih a0 a3 a5 ha0 s6 h
        · have h := if_no h c15
          refine Z_lload_n hk 3 dX1_restOf_61 rfl rfl ?_
          refine Z_lload hk 0 dX1_restOf_62 rfl ?_
          obtain ⟨x16, s17, h18, h⟩ := bd_ok h
          refine Z_callSN 2 hk [.long a3, .long x8] (c_X5_oneThenOther hk.loc hk.inj F a3 x8 s6 h18) gX1_restOf_X5_oneThenOther_n56 nw_7 rfl ⟨rfl, rfl⟩ ⟨wd_X1_restOf_5, wd_X1_restOf_6⟩ (by decide +kernel) ⟨Nat.le_of_ble_eq_true rfl, Nat.le_of_ble_eq_true rfl⟩ rfl rfl (Nat.le_of_ble_eq_true rfl) ⟨Nat.zero_le _, Nat.zero_le _⟩ dX1_restOf_64 ?_
          show Z K 0 0 67 [(7, .long x8), (6, .int x5), (0, .ref (eA (kZ K) a0)), (3, .long a3), (5, .int a5)] [.long x16] s17
          refine Z_lstore_n hk (lv' := [(3, .long x16), (7, .long x8), (6, .int x5), (0, .ref (eA (kZ K) a0)), (5, .int a5)]) dX1_restOf_67 rfl (by decide) rfl ?_
          refine Z_sub [3, 0, 4] rfl ?_
          exact w_X1_restOf_68 hk hq F (m_X1_restOf_5 F n) ih a0 x16 a5 ha0 s17 h
set_option maxRecDepth 100000 in
set_option maxHeartbeats 4000000 in
theorem w_X1_restOf {K : zK} (hk : zIs K RX1 cX1_restOf 9 wsX1_restOf (some .long) r_X1_restOf) {r0 : Int64} {τ0 : zST} (hq : zQ K (some (.long r0)) τ0) (F : Nat) (a0 : Nat) (a1 : Int64) (ha0 : atChain (kZ K) a0) (σ : zST) (h : m_X1_restOf F a0 a1 σ = some (r0, τ0)) : Z K 0 0 0 [(0, .ref (eA (kZ K) a0)), (1, .long a1)] [] σ := by
  unfold m_X1_restOf at h
  refine Z_lload_n hk 1 dX1_restOf_0 rfl rfl ?_
  refine Z_lstore_n hk (lv' := [(3, .long a1), (0, .ref (eA (kZ K) a0)), (1, .long a1)]) dX1_restOf_1 rfl (by decide) rfl ?_
  refine Z_iconst hk dX1_restOf_2 zc_iconst_0 ?_
  refine Z_istore hk (lv' := [(5, .int 0), (3, .long a1), (0, .ref (eA (kZ K) a0)), (1, .long a1)]) dX1_restOf_3 (by decide) rfl ?_
  refine Z_sub [2, 1, 0] rfl ?_
  exact w_X1_restOf_5 hk hq F F a0 a1 0 ha0 σ h
theorem c_X1_restOf {l : Launch} {E : zE} (hL : eL E) (hJ : eJ E) (F : Nat) (a0 : Nat) (a1 : Int64) (ha0 : atChain E a0) (σ : zST) {r0 : Int64} {τ0 : zST} (h : m_X1_restOf F a0 a1 σ = some (r0, τ0)) : Ct l yX1_restOf wsX1_restOf r_X1_restOf E [.ref (eA E a0), .long a1] σ (some (.long r0)) τ0 := by
  refine Ct_of (by decide) rfl hL hJ (Nat.le_of_ble_eq_true rfl) (fun K hE hl hk hq => ?_)
  subst hE
  exact w_X1_restOf hk hq F a0 a1 ha0 σ h
end

-- CanonCote$Chain.firstMoved (J)I
section
theorem dX1_firstMoved_0 : decode cX1_firstMoved 0 = .ok (.iconst 0, 1) := by decide +kernel
theorem dX1_firstMoved_1 : decode cX1_firstMoved 1 = .ok (.istore_n 3, 1) := by decide +kernel
theorem dX1_firstMoved_2 : decode cX1_firstMoved 2 = .ok (.iload_n 3, 1) := by decide +kernel
theorem dX1_firstMoved_3 : decode cX1_firstMoved 3 = .ok (.bipush 8, 2) := by decide +kernel
theorem dX1_firstMoved_5 : decode cX1_firstMoved 5 = .ok (.if_icmp .ge 30, 3) := by decide +kernel
theorem dX1_firstMoved_8 : decode cX1_firstMoved 8 = .ok (.lload_n 1, 1) := by decide +kernel
theorem dX1_firstMoved_9 : decode cX1_firstMoved 9 = .ok (.aload_n 0, 1) := by decide +kernel
theorem dX1_firstMoved_10 : decode cX1_firstMoved 10 = .ok (.getfield 9, 3) := by decide +kernel
theorem dX1_firstMoved_13 : decode cX1_firstMoved 13 = .ok (.iload_n 3, 1) := by decide +kernel
theorem dX1_firstMoved_14 : decode cX1_firstMoved 14 = .ok (.iaload, 1) := by decide +kernel
theorem dX1_firstMoved_15 : decode cX1_firstMoved 15 = .ok (.invokestatic 68, 3) := by decide +kernel
theorem dX1_firstMoved_18 : decode cX1_firstMoved 18 = .ok (.aload_n 0, 1) := by decide +kernel
theorem dX1_firstMoved_19 : decode cX1_firstMoved 19 = .ok (.getfield 9, 3) := by decide +kernel
theorem dX1_firstMoved_22 : decode cX1_firstMoved 22 = .ok (.iload_n 3, 1) := by decide +kernel
theorem dX1_firstMoved_23 : decode cX1_firstMoved 23 = .ok (.iaload, 1) := by decide +kernel
theorem dX1_firstMoved_24 : decode cX1_firstMoved 24 = .ok (.if_icmp .eq 5, 3) := by decide +kernel
theorem dX1_firstMoved_27 : decode cX1_firstMoved 27 = .ok (.iload_n 3, 1) := by decide +kernel
theorem dX1_firstMoved_28 : decode cX1_firstMoved 28 = .ok (.ireturn, 1) := by decide +kernel
theorem dX1_firstMoved_29 : decode cX1_firstMoved 29 = .ok (.iinc 3 1, 3) := by decide +kernel
theorem dX1_firstMoved_32 : decode cX1_firstMoved 32 = .ok (.goto (-30), 3) := by decide +kernel
theorem dX1_firstMoved_35 : decode cX1_firstMoved 35 = .ok (.bipush 7, 2) := by decide +kernel
theorem dX1_firstMoved_37 : decode cX1_firstMoved 37 = .ok (.ireturn, 1) := by decide +kernel
set_option maxRecDepth 20000 in
theorem ggX1_firstMoved_X5_imageOf : GoodIn wsX1_firstMoved wsX5_imageOf := goodIn_r _ [4] (by decide +kernel) (by decide +kernel)
set_option maxRecDepth 20000 in
theorem gX1_firstMoved_X5_imageOf_n68 : GoodIn wsX1_firstMoved (wsX5_imageOf) := ggX1_firstMoved_X5_imageOf
theorem in_X1_firstMoved_Chain : ∀ w ∈ u_ws RX1 TX1 6, w ∈ wsX1_firstMoved := by decide +kernel
theorem wd_X1_firstMoved_1 : Cond.fieldLink RX1 9 (TX1 3).1 (TX1 3).2.1 (TX1 3).2.2.1 ∈ wsX1_firstMoved := by decide +kernel
theorem wd_X1_firstMoved_2 : Cond.initialized yX5_imageOf.cls ∈ wsX1_firstMoved := by decide +kernel
theorem wd_X1_firstMoved_3 : Cond.static yX5_imageOf ∈ wsX1_firstMoved := by decide +kernel
def r_X1_firstMoved : Room := { frames := 2, cells := 0, slots := 0, locals := 34 }
set_option maxRecDepth 100000 in
set_option maxHeartbeats 4000000 in
theorem w_X1_firstMoved_2 {K : zK} (hk : zIs K RX1 cX1_firstMoved 4 wsX1_firstMoved (some .int) r_X1_firstMoved) {r0 : Int32} {τ0 : zST} (hq : zQ K (some (.int r0)) τ0) (F : Nat) : ∀ (n : Nat) (a0 : Nat) (a1 : Int64) (a3 : Int32) (ha0 : atChain (kZ K) a0) (σ : zST), m_X1_firstMoved_2 F n a0 a1 a3 σ = some (r0, τ0) → Z K 0 0 2 [(0, .ref (eA (kZ K) a0)), (1, .long a1), (3, .int a3)] [] σ := by
  intro n
  induction n with
  | zero => intro a0 a1 a3 ha0 σ h; cases h
  | succ n ih =>
    intro a0 a1 a3 ha0 σ h
    rw [m_X1_firstMoved_2] at h
    refine Z_iload_n hk 2 dX1_firstMoved_2 rfl rfl ?_
    refine Z_bipush hk dX1_firstMoved_3 zc_bipush_8 ?_
    refine Z_icmp_ge hk (tgt := 35) dX1_firstMoved_5 (by decide) (fun c1 => ?_) (fun c1 => ?_)
    · have h := if_yes h c1
      refine Z_bipush hk dX1_firstMoved_35 zc_bipush_7 ?_
      cases h
      exact Z_iret hk hq dX1_firstMoved_37
    · have h := if_no h c1
      refine Z_lload_n hk 1 dX1_firstMoved_8 rfl rfl ?_
      refine Z_aload_n hk 0 dX1_firstMoved_9 rfl rfl ?_
      refine Z_get hk in_X1_firstMoved_Chain rfl ha0.cell.1 (ha0.cell.2 _) 3 (by decide) wd_X1_firstMoved_1 rfl dX1_firstMoved_10 ?_
      refine Z_iload_n hk 2 dX1_firstMoved_13 rfl rfl ?_
      obtain ⟨i4, x2, e3, h⟩ := ldI_get h
      refine Z_iald hk (ha0.base) i4 dX1_firstMoved_14 ?_
      refine Z_eqI e3 ?_
      obtain ⟨x5, s6, h7, h⟩ := bd_ok h
      refine Z_callSN 2 hk [.long a1, .int x2] (c_X5_imageOf hk.loc hk.inj F a1 x2 σ h7) gX1_firstMoved_X5_imageOf_n68 nw_6 rfl ⟨rfl, rfl⟩ ⟨wd_X1_firstMoved_2, wd_X1_firstMoved_3⟩ (by decide +kernel) ⟨Nat.le_of_ble_eq_true rfl, Nat.le_of_ble_eq_true rfl⟩ rfl rfl (Nat.le_of_ble_eq_true rfl) ⟨Nat.zero_le _, Nat.zero_le _⟩ dX1_firstMoved_15 ?_
      show Z K 0 0 18 [(0, .ref (eA (kZ K) a0)), (1, .long a1), (3, .int a3)] [.int x5] s6
      refine Z_aload_n hk 0 dX1_firstMoved_18 rfl rfl ?_
      refine Z_get hk in_X1_firstMoved_Chain rfl ha0.cell.1 (ha0.cell.2 _) 3 (by decide) wd_X1_firstMoved_1 rfl dX1_firstMoved_19 ?_
      refine Z_iload_n hk 2 dX1_firstMoved_22 rfl rfl ?_
      obtain ⟨i10, x8, e9, h⟩ := ldI_get h
      refine Z_iald hk (ha0.base) i10 dX1_firstMoved_23 ?_
      refine Z_eqI e9 ?_
      refine Z_icmp_eq hk (tgt := 29) dX1_firstMoved_24 (by decide) (fun c11 => ?_) (fun c11 => ?_)
      · have h := if_yes h c11
        obtain ⟨x12, e13, h⟩ := nm_get h
        refine Z_iinc hk 2 (v := x12) (lv' := [(3, .int x12), (0, .ref (eA (kZ K) a0)), (1, .long a1)]) dX1_firstMoved_29 rfl (by rw [zc_iinc_1]; exact e13) (by decide) rfl ?_
        refine Z_goto hk (tgt := 2) dX1_firstMoved_32 (by decide) ?_
        refine Z_sub [1, 2, 0] rfl ?_
        exact ih a0 a1 x12 ha0 s6 h
      · have h := if_no h c11
        refine Z_iload_n hk 2 dX1_firstMoved_27 rfl rfl ?_
        cases h
        exact Z_iret hk hq dX1_firstMoved_28
set_option maxRecDepth 100000 in
set_option maxHeartbeats 4000000 in
theorem w_X1_firstMoved {K : zK} (hk : zIs K RX1 cX1_firstMoved 4 wsX1_firstMoved (some .int) r_X1_firstMoved) {r0 : Int32} {τ0 : zST} (hq : zQ K (some (.int r0)) τ0) (F : Nat) (a0 : Nat) (a1 : Int64) (ha0 : atChain (kZ K) a0) (σ : zST) (h : m_X1_firstMoved F a0 a1 σ = some (r0, τ0)) : Z K 0 0 0 [(0, .ref (eA (kZ K) a0)), (1, .long a1)] [] σ := by
  unfold m_X1_firstMoved at h
  refine Z_iconst hk dX1_firstMoved_0 zc_iconst_0 ?_
  refine Z_istore_n hk (lv' := [(3, .int 0), (0, .ref (eA (kZ K) a0)), (1, .long a1)]) dX1_firstMoved_1 rfl (by decide) rfl ?_
  refine Z_sub [1, 2, 0] rfl ?_
  exact w_X1_firstMoved_2 hk hq F F a0 a1 0 ha0 σ h
theorem c_X1_firstMoved {l : Launch} {E : zE} (hL : eL E) (hJ : eJ E) (F : Nat) (a0 : Nat) (a1 : Int64) (ha0 : atChain E a0) (σ : zST) {r0 : Int32} {τ0 : zST} (h : m_X1_firstMoved F a0 a1 σ = some (r0, τ0)) : Ct l yX1_firstMoved wsX1_firstMoved r_X1_firstMoved E [.ref (eA E a0), .long a1] σ (some (.int r0)) τ0 := by
  refine Ct_of (by decide) rfl hL hJ (Nat.le_of_ble_eq_true rfl) (fun K hE hl hk hq => ?_)
  subst hE
  exact w_X1_firstMoved hk hq F a0 a1 ha0 σ h
end

-- CanonCote$Permutation.inverse (J)J
section
theorem dX5_inverse_0 : decode cX5_inverse 0 = .ok (.lconst 0, 1) := by decide +kernel
theorem dX5_inverse_1 : decode cX5_inverse 1 = .ok (.lstore_n 2, 1) := by decide +kernel
theorem dX5_inverse_2 : decode cX5_inverse 2 = .ok (.iconst 0, 1) := by decide +kernel
theorem dX5_inverse_3 : decode cX5_inverse 3 = .ok (.istore 4, 2) := by decide +kernel
theorem dX5_inverse_5 : decode cX5_inverse 5 = .ok (.iload 4, 2) := by decide +kernel
theorem dX5_inverse_7 : decode cX5_inverse 7 = .ok (.bipush 8, 2) := by decide +kernel
theorem dX5_inverse_9 : decode cX5_inverse 9 = .ok (.if_icmp .ge 23, 3) := by decide +kernel
theorem dX5_inverse_12 : decode cX5_inverse 12 = .ok (.lload_n 2, 1) := by decide +kernel
theorem dX5_inverse_13 : decode cX5_inverse 13 = .ok (.lload_n 0, 1) := by decide +kernel
theorem dX5_inverse_14 : decode cX5_inverse 14 = .ok (.iload 4, 2) := by decide +kernel
theorem dX5_inverse_16 : decode cX5_inverse 16 = .ok (.invokestatic 13, 3) := by decide +kernel
theorem dX5_inverse_19 : decode cX5_inverse 19 = .ok (.iload 4, 2) := by decide +kernel
theorem dX5_inverse_21 : decode cX5_inverse 21 = .ok (.invokestatic 17, 3) := by decide +kernel
theorem dX5_inverse_24 : decode cX5_inverse 24 = .ok (.lor, 1) := by decide +kernel
theorem dX5_inverse_25 : decode cX5_inverse 25 = .ok (.lstore_n 2, 1) := by decide +kernel
theorem dX5_inverse_26 : decode cX5_inverse 26 = .ok (.iinc 4 1, 3) := by decide +kernel
theorem dX5_inverse_29 : decode cX5_inverse 29 = .ok (.goto (-24), 3) := by decide +kernel
theorem dX5_inverse_32 : decode cX5_inverse 32 = .ok (.lload_n 2, 1) := by decide +kernel
theorem dX5_inverse_33 : decode cX5_inverse 33 = .ok (.lreturn, 1) := by decide +kernel
set_option maxRecDepth 20000 in
theorem ggX5_inverse_X5_imageOf : GoodIn wsX5_inverse wsX5_imageOf := goodIn_r _ [4] (by decide +kernel) (by decide +kernel)
set_option maxRecDepth 20000 in
theorem gX5_inverse_X5_imageOf : GoodIn wsX5_inverse (va_wsS RX5 13 yX5_imageOf wsX5_imageOf) := goodIn_app (goodIn_of _ (by decide +kernel)) ggX5_inverse_X5_imageOf
set_option maxRecDepth 20000 in
theorem ggX5_inverse_X5_carrying : GoodIn wsX5_inverse wsX5_carrying := goodIn_r _ [7] (by decide +kernel) (by decide +kernel)
set_option maxRecDepth 20000 in
theorem gX5_inverse_X5_carrying : GoodIn wsX5_inverse (va_wsS RX5 17 yX5_carrying wsX5_carrying) := goodIn_app (goodIn_of _ (by decide +kernel)) ggX5_inverse_X5_carrying
def r_X5_inverse : Room := { frames := 2, cells := 0, slots := 0, locals := 34 }
set_option maxRecDepth 100000 in
set_option maxHeartbeats 4000000 in
theorem w_X5_inverse_5 {K : zK} (hk : zIs K RX5 cX5_inverse 5 wsX5_inverse (some .long) r_X5_inverse) {r0 : Int64} {τ0 : zST} (hq : zQ K (some (.long r0)) τ0) (F : Nat) : ∀ (n : Nat) (a0 : Int64) (a2 : Int64) (a4 : Int32) (σ : zST), m_X5_inverse_5 F n a0 a2 a4 σ = some (r0, τ0) → Z K 0 0 5 [(0, .long a0), (2, .long a2), (4, .int a4)] [] σ := by
  intro n
  induction n with
  | zero => intro a0 a2 a4 σ h; cases h
  | succ n ih =>
    intro a0 a2 a4 σ h
    rw [m_X5_inverse_5] at h
    refine Z_iload hk 2 dX5_inverse_5 rfl ?_
    refine Z_bipush hk dX5_inverse_7 zc_bipush_8 ?_
    refine Z_icmp_ge hk (tgt := 32) dX5_inverse_9 (by decide) (fun c1 => ?_) (fun c1 => ?_)
    · have h := if_yes h c1
      refine Z_lload_n hk 1 dX5_inverse_32 rfl rfl ?_
      cases h
      exact Z_lret hk hq dX5_inverse_33
    · have h := if_no h c1
      refine Z_lload_n hk 1 dX5_inverse_12 rfl rfl ?_
      refine Z_lload_n hk 0 dX5_inverse_13 rfl rfl ?_
      refine Z_iload hk 2 dX5_inverse_14 rfl ?_
      obtain ⟨x2, s3, h4, h⟩ := bd_ok h
      refine Z_callT 2 hk [.long a0, .int a4] (c_X5_imageOf hk.loc hk.inj F a0 a4 σ h4) gX5_inverse_X5_imageOf rfl ⟨rfl, rfl⟩ (by decide +kernel) ⟨Nat.le_of_ble_eq_true rfl, Nat.le_of_ble_eq_true rfl⟩ rfl rfl (Nat.le_of_ble_eq_true rfl) ⟨Nat.zero_le _, Nat.zero_le _⟩ dX5_inverse_16 ?_
      show Z K 0 0 19 [(0, .long a0), (2, .long a2), (4, .int a4)] [.int x2, .long a2] s3
      refine Z_iload hk 2 dX5_inverse_19 rfl ?_
      obtain ⟨x5, s6, h7, h⟩ := bd_ok h
      refine Z_callT 2 hk [.int x2, .int a4] (c_X5_carrying hk.loc hk.inj F x2 a4 s3 h7) gX5_inverse_X5_carrying rfl ⟨rfl, rfl⟩ (by decide +kernel) ⟨Nat.le_of_ble_eq_true rfl, Nat.le_of_ble_eq_true rfl⟩ rfl rfl (Nat.le_of_ble_eq_true rfl) ⟨Nat.zero_le _, Nat.zero_le _⟩ dX5_inverse_21 ?_
      show Z K 0 0 24 [(0, .long a0), (2, .long a2), (4, .int a4)] [.long x5, .long a2] s6
      refine Z_lor hk dX5_inverse_24 ?_
      obtain ⟨x8, e9, h⟩ := nm_get h
      refine Z_eqL e9 ?_
      refine Z_lstore_n hk (lv' := [(2, .long x8), (0, .long a0), (4, .int a4)]) dX5_inverse_25 rfl (by decide) rfl ?_
      obtain ⟨x10, e11, h⟩ := nm_get h
      refine Z_iinc hk 2 (v := x10) (lv' := [(4, .int x10), (2, .long x8), (0, .long a0)]) dX5_inverse_26 rfl (by rw [zc_iinc_1]; exact e11) (by decide) rfl ?_
      refine Z_goto hk (tgt := 5) dX5_inverse_29 (by decide) ?_
      refine Z_sub [2, 1, 0] rfl ?_
      exact ih a0 x8 x10 s6 h
set_option maxRecDepth 100000 in
set_option maxHeartbeats 4000000 in
theorem w_X5_inverse {K : zK} (hk : zIs K RX5 cX5_inverse 5 wsX5_inverse (some .long) r_X5_inverse) {r0 : Int64} {τ0 : zST} (hq : zQ K (some (.long r0)) τ0) (F : Nat) (a0 : Int64) (σ : zST) (h : m_X5_inverse F a0 σ = some (r0, τ0)) : Z K 0 0 0 [(0, .long a0)] [] σ := by
  unfold m_X5_inverse at h
  refine Z_lconst hk dX5_inverse_0 (v := 0) rfl ?_
  refine Z_lstore_n hk (lv' := [(2, .long 0), (0, .long a0)]) dX5_inverse_1 rfl (by decide) rfl ?_
  refine Z_iconst hk dX5_inverse_2 zc_iconst_0 ?_
  refine Z_istore hk (lv' := [(4, .int 0), (2, .long 0), (0, .long a0)]) dX5_inverse_3 (by decide) rfl ?_
  refine Z_sub [2, 1, 0] rfl ?_
  exact w_X5_inverse_5 hk hq F F a0 0 0 σ h
theorem c_X5_inverse {l : Launch} {E : zE} (hL : eL E) (hJ : eJ E) (F : Nat) (a0 : Int64) (σ : zST) {r0 : Int64} {τ0 : zST} (h : m_X5_inverse F a0 σ = some (r0, τ0)) : Ct l yX5_inverse wsX5_inverse r_X5_inverse E [.long a0] σ (some (.long r0)) τ0 := by
  refine Ct_of (by decide) rfl hL hJ (Nat.le_of_ble_eq_true rfl) (fun K hE hl hk hq => ?_)
  subst hE
  exact w_X5_inverse hk hq F a0 σ h
end

-- CanonCote$Chain.countFrom (I)I
section
theorem dX1_countFrom_0 : decode cX1_countFrom 0 = .ok (.iconst 1, 1) := by decide +kernel
theorem dX1_countFrom_1 : decode cX1_countFrom 1 = .ok (.istore_n 2, 1) := by decide +kernel
theorem dX1_countFrom_2 : decode cX1_countFrom 2 = .ok (.iload_n 1, 1) := by decide +kernel
theorem dX1_countFrom_3 : decode cX1_countFrom 3 = .ok (.istore_n 3, 1) := by decide +kernel
theorem dX1_countFrom_4 : decode cX1_countFrom 4 = .ok (.iload_n 3, 1) := by decide +kernel
theorem dX1_countFrom_5 : decode cX1_countFrom 5 = .ok (.bipush 8, 2) := by decide +kernel
theorem dX1_countFrom_7 : decode cX1_countFrom 7 = .ok (.if_icmp .ge 53, 3) := by decide +kernel
theorem dX1_countFrom_10 : decode cX1_countFrom 10 = .ok (.iconst 0, 1) := by decide +kernel
theorem dX1_countFrom_11 : decode cX1_countFrom 11 = .ok (.istore 4, 2) := by decide +kernel
theorem dX1_countFrom_13 : decode cX1_countFrom 13 = .ok (.iconst 0, 1) := by decide +kernel
theorem dX1_countFrom_14 : decode cX1_countFrom 14 = .ok (.istore 5, 2) := by decide +kernel
theorem dX1_countFrom_16 : decode cX1_countFrom 16 = .ok (.iload 5, 2) := by decide +kernel
theorem dX1_countFrom_18 : decode cX1_countFrom 18 = .ok (.bipush 8, 2) := by decide +kernel
theorem dX1_countFrom_20 : decode cX1_countFrom 20 = .ok (.if_icmp .ge 29, 3) := by decide +kernel
theorem dX1_countFrom_23 : decode cX1_countFrom 23 = .ok (.aload_n 0, 1) := by decide +kernel
theorem dX1_countFrom_24 : decode cX1_countFrom 24 = .ok (.getfield 19, 3) := by decide +kernel
theorem dX1_countFrom_27 : decode cX1_countFrom 27 = .ok (.iload_n 3, 1) := by decide +kernel
theorem dX1_countFrom_28 : decode cX1_countFrom 28 = .ok (.bipush 8, 2) := by decide +kernel
theorem dX1_countFrom_30 : decode cX1_countFrom 30 = .ok (.imul, 1) := by decide +kernel
theorem dX1_countFrom_31 : decode cX1_countFrom 31 = .ok (.iload 5, 2) := by decide +kernel
theorem dX1_countFrom_33 : decode cX1_countFrom 33 = .ok (.iadd, 1) := by decide +kernel
theorem dX1_countFrom_34 : decode cX1_countFrom 34 = .ok (.laload, 1) := by decide +kernel
theorem dX1_countFrom_35 : decode cX1_countFrom 35 = .ok (.lconst 0, 1) := by decide +kernel
theorem dX1_countFrom_36 : decode cX1_countFrom 36 = .ok (.lcmp, 1) := by decide +kernel
theorem dX1_countFrom_37 : decode cX1_countFrom 37 = .ok (.ifCond .eq 6, 3) := by decide +kernel
theorem dX1_countFrom_40 : decode cX1_countFrom 40 = .ok (.iinc 4 1, 3) := by decide +kernel
theorem dX1_countFrom_43 : decode cX1_countFrom 43 = .ok (.iinc 5 1, 3) := by decide +kernel
theorem dX1_countFrom_46 : decode cX1_countFrom 46 = .ok (.goto (-30), 3) := by decide +kernel
theorem dX1_countFrom_49 : decode cX1_countFrom 49 = .ok (.iload_n 2, 1) := by decide +kernel
theorem dX1_countFrom_50 : decode cX1_countFrom 50 = .ok (.iload 4, 2) := by decide +kernel
theorem dX1_countFrom_52 : decode cX1_countFrom 52 = .ok (.imul, 1) := by decide +kernel
theorem dX1_countFrom_53 : decode cX1_countFrom 53 = .ok (.istore_n 2, 1) := by decide +kernel
theorem dX1_countFrom_54 : decode cX1_countFrom 54 = .ok (.iinc 3 1, 3) := by decide +kernel
theorem dX1_countFrom_57 : decode cX1_countFrom 57 = .ok (.goto (-53), 3) := by decide +kernel
theorem dX1_countFrom_60 : decode cX1_countFrom 60 = .ok (.iload_n 2, 1) := by decide +kernel
theorem dX1_countFrom_61 : decode cX1_countFrom 61 = .ok (.ireturn, 1) := by decide +kernel
theorem in_X1_countFrom_Chain : ∀ w ∈ u_ws RX1 TX1 6, w ∈ wsX1_countFrom := by decide +kernel
theorem wd_X1_countFrom_1 : Cond.fieldLink RX1 19 (TX1 5).1 (TX1 5).2.1 (TX1 5).2.2.1 ∈ wsX1_countFrom := by decide +kernel
def r_X1_countFrom : Room := { frames := 1, cells := 0, slots := 0, locals := 12 }
set_option maxRecDepth 100000 in
set_option maxHeartbeats 4000000 in
theorem w_X1_countFrom_43 {K : zK} (hk : zIs K RX1 cX1_countFrom 6 wsX1_countFrom (some .int) r_X1_countFrom) {r0 : Int32} {τ0 : zST} (hq : zQ K (some (.int r0)) τ0) (F : Nat) (k4 : Nat → Int32 → Int32 → zST → Option (Int32 × zST)) (hk4 : ∀ (a0 : Nat) (a2 : Int32) (a3 : Int32) (ha0 : atChain (kZ K) a0) (σ : zST), k4 a0 a2 a3 σ = some (r0, τ0) → Z K 0 0 4 [(0, .ref (eA (kZ K) a0)), (2, .int a2), (3, .int a3)] [] σ) (k16 : Nat → Int32 → Int32 → Int32 → Int32 → zST → Option (Int32 × zST)) (hk16 : ∀ (a0 : Nat) (a2 : Int32) (a3 : Int32) (a4 : Int32) (a5 : Int32) (ha0 : atChain (kZ K) a0) (σ : zST), k16 a0 a2 a3 a4 a5 σ = some (r0, τ0) → Z K 0 0 16 [(0, .ref (eA (kZ K) a0)), (2, .int a2), (3, .int a3), (4, .int a4), (5, .int a5)] [] σ) (a0 : Nat) (a2 : Int32) (a3 : Int32) (a4 : Int32) (a5 : Int32) (ha0 : atChain (kZ K) a0) (σ : zST) (h : m_X1_countFrom_43 F k4 k16 a0 a2 a3 a4 a5 σ = some (r0, τ0)) : Z K 0 0 43 [(0, .ref (eA (kZ K) a0)), (2, .int a2), (3, .int a3), (4, .int a4), (5, .int a5)] [] σ := by
  unfold m_X1_countFrom_43 at h
  obtain ⟨x13, e14, h⟩ := nm_get h
  refine Z_iinc hk 4 (v := x13) (lv' := [(5, .int x13), (0, .ref (eA (kZ K) a0)), (2, .int a2), (3, .int a3), (4, .int a4)]) dX1_countFrom_43 rfl (by rw [zc_iinc_1]; exact e14) (by decide) rfl ?_
  refine Z_goto hk (tgt := 16) dX1_countFrom_46 (by decide) ?_
  refine Z_sub [1, 2, 3, 4, 0] rfl ?_
  exact hk16 a0 a2 a3 a4 x13 ha0 σ h
set_option maxRecDepth 100000 in
set_option maxHeartbeats 4000000 in
theorem w_X1_countFrom_16 {K : zK} (hk : zIs K RX1 cX1_countFrom 6 wsX1_countFrom (some .int) r_X1_countFrom) {r0 : Int32} {τ0 : zST} (hq : zQ K (some (.int r0)) τ0) (F : Nat) (k4 : Nat → Int32 → Int32 → zST → Option (Int32 × zST)) (hk4 : ∀ (a0 : Nat) (a2 : Int32) (a3 : Int32) (ha0 : atChain (kZ K) a0) (σ : zST), k4 a0 a2 a3 σ = some (r0, τ0) → Z K 0 0 4 [(0, .ref (eA (kZ K) a0)), (2, .int a2), (3, .int a3)] [] σ) : ∀ (n : Nat) (a0 : Nat) (a2 : Int32) (a3 : Int32) (a4 : Int32) (a5 : Int32) (ha0 : atChain (kZ K) a0) (σ : zST), m_X1_countFrom_16 F k4 n a0 a2 a3 a4 a5 σ = some (r0, τ0) → Z K 0 0 16 [(0, .ref (eA (kZ K) a0)), (2, .int a2), (3, .int a3), (4, .int a4), (5, .int a5)] [] σ := by
  intro n
  induction n with
  | zero => intro a0 a2 a3 a4 a5 ha0 σ h; cases h
  | succ n ih =>
    intro a0 a2 a3 a4 a5 ha0 σ h
    rw [m_X1_countFrom_16] at h
    refine Z_iload hk 4 dX1_countFrom_16 rfl ?_
    refine Z_bipush hk dX1_countFrom_18 zc_bipush_8 ?_
    refine Z_icmp_ge hk (tgt := 49) dX1_countFrom_20 (by decide) (fun c2 => ?_) (fun c2 => ?_)
    · have h := if_yes h c2
      refine Z_iload_n hk 1 dX1_countFrom_49 rfl rfl ?_
      refine Z_iload hk 3 dX1_countFrom_50 rfl ?_
      refine Z_imul hk dX1_countFrom_52 ?_
      obtain ⟨x3, e4, h⟩ := nm_get h
      refine Z_eqI e4 ?_
      refine Z_istore_n hk (lv' := [(2, .int x3), (0, .ref (eA (kZ K) a0)), (3, .int a3), (4, .int a4), (5, .int a5)]) dX1_countFrom_53 rfl (by decide) rfl ?_
      obtain ⟨x5, e6, h⟩ := nm_get h
      refine Z_iinc hk 2 (v := x5) (lv' := [(3, .int x5), (2, .int x3), (0, .ref (eA (kZ K) a0)), (4, .int a4), (5, .int a5)]) dX1_countFrom_54 rfl (by rw [zc_iinc_1]; exact e6) (by decide) rfl ?_
      refine Z_goto hk (tgt := 4) dX1_countFrom_57 (by decide) ?_
      refine Z_sub [2, 1, 0] rfl ?_
      exact hk4 a0 x3 x5 ha0 σ h
    · have h := if_no h c2
      refine Z_aload_n hk 0 dX1_countFrom_23 rfl rfl ?_
      refine Z_get hk in_X1_countFrom_Chain rfl ha0.cell.1 (ha0.cell.2 _) 5 (by decide) wd_X1_countFrom_1 rfl dX1_countFrom_24 ?_
      refine Z_iload_n hk 2 dX1_countFrom_27 rfl rfl ?_
      refine Z_bipush hk dX1_countFrom_28 zc_bipush_8 ?_
      refine Z_imul hk dX1_countFrom_30 ?_
      refine Z_iload hk 4 dX1_countFrom_31 rfl ?_
      refine Z_iadd hk dX1_countFrom_33 ?_
      obtain ⟨i9, x7, e8, h⟩ := ldL_get h
      refine Z_lald hk (ha0.back) i9 dX1_countFrom_34 ?_
      refine Z_eqL e8 ?_
      refine Z_lconst hk dX1_countFrom_35 (v := 0) rfl ?_
      refine Z_lcmp hk dX1_countFrom_36 ?_
      refine Z_if_eq hk (tgt := 43) dX1_countFrom_37 (by decide) (fun c10 => ?_) (fun c10 => ?_)
      · have h := if_yes h c10
        refine Z_sub [0, 1, 2, 3, 4] rfl ?_
        exact w_X1_countFrom_43 hk hq F k4 hk4 (m_X1_countFrom_16 F k4 n) ih a0 a2 a3 a4 a5 ha0 σ h
      · have h := if_no h c10
        obtain ⟨x11, e12, h⟩ := nm_get h
        refine Z_iinc hk 3 (v := x11) (lv' := [(4, .int x11), (0, .ref (eA (kZ K) a0)), (2, .int a2), (3, .int a3), (5, .int a5)]) dX1_countFrom_40 rfl (by rw [zc_iinc_1]; exact e12) (by decide) rfl ?_
        refine Z_sub [1, 2, 3, 0, 4] rfl ?_
        exact w_X1_countFrom_43 hk hq F k4 hk4 (m_X1_countFrom_16 F k4 n) ih a0 a2 a3 x11 a5 ha0 σ h
set_option maxRecDepth 100000 in
set_option maxHeartbeats 4000000 in
theorem w_X1_countFrom_4 {K : zK} (hk : zIs K RX1 cX1_countFrom 6 wsX1_countFrom (some .int) r_X1_countFrom) {r0 : Int32} {τ0 : zST} (hq : zQ K (some (.int r0)) τ0) (F : Nat) : ∀ (n : Nat) (a0 : Nat) (a2 : Int32) (a3 : Int32) (ha0 : atChain (kZ K) a0) (σ : zST), m_X1_countFrom_4 F n a0 a2 a3 σ = some (r0, τ0) → Z K 0 0 4 [(0, .ref (eA (kZ K) a0)), (2, .int a2), (3, .int a3)] [] σ := by
  intro n
  induction n with
  | zero => intro a0 a2 a3 ha0 σ h; cases h
  | succ n ih =>
    intro a0 a2 a3 ha0 σ h
    rw [m_X1_countFrom_4] at h
    refine Z_iload_n hk 2 dX1_countFrom_4 rfl rfl ?_
    refine Z_bipush hk dX1_countFrom_5 zc_bipush_8 ?_
    refine Z_icmp_ge hk (tgt := 60) dX1_countFrom_7 (by decide) (fun c1 => ?_) (fun c1 => ?_)
    · have h := if_yes h c1
      refine Z_iload_n hk 1 dX1_countFrom_60 rfl rfl ?_
      cases h
      exact Z_iret hk hq dX1_countFrom_61
    · have h := if_no h c1
      refine Z_iconst hk dX1_countFrom_10 zc_iconst_0 ?_
      refine Z_istore hk (lv' := [(4, .int 0), (0, .ref (eA (kZ K) a0)), (2, .int a2), (3, .int a3)]) dX1_countFrom_11 (by decide) rfl ?_
      refine Z_iconst hk dX1_countFrom_13 zc_iconst_0 ?_
      refine Z_istore hk (lv' := [(5, .int 0), (4, .int 0), (0, .ref (eA (kZ K) a0)), (2, .int a2), (3, .int a3)]) dX1_countFrom_14 (by decide) rfl ?_
      refine Z_sub [2, 3, 4, 1, 0] rfl ?_
      exact w_X1_countFrom_16 hk hq F (m_X1_countFrom_4 F n) ih F a0 a2 a3 0 0 ha0 σ h
set_option maxRecDepth 100000 in
set_option maxHeartbeats 4000000 in
theorem w_X1_countFrom {K : zK} (hk : zIs K RX1 cX1_countFrom 6 wsX1_countFrom (some .int) r_X1_countFrom) {r0 : Int32} {τ0 : zST} (hq : zQ K (some (.int r0)) τ0) (F : Nat) (a0 : Nat) (a1 : Int32) (ha0 : atChain (kZ K) a0) (σ : zST) (h : m_X1_countFrom F a0 a1 σ = some (r0, τ0)) : Z K 0 0 0 [(0, .ref (eA (kZ K) a0)), (1, .int a1)] [] σ := by
  unfold m_X1_countFrom at h
  refine Z_iconst hk dX1_countFrom_0 zc_iconst_1 ?_
  refine Z_istore_n hk (lv' := [(2, .int 1), (0, .ref (eA (kZ K) a0)), (1, .int a1)]) dX1_countFrom_1 rfl (by decide) rfl ?_
  refine Z_iload_n hk 2 dX1_countFrom_2 rfl rfl ?_
  refine Z_istore_n hk (lv' := [(3, .int a1), (2, .int 1), (0, .ref (eA (kZ K) a0)), (1, .int a1)]) dX1_countFrom_3 rfl (by decide) rfl ?_
  refine Z_sub [2, 1, 0] rfl ?_
  exact w_X1_countFrom_4 hk hq F F a0 1 a1 ha0 σ h
theorem c_X1_countFrom {l : Launch} {E : zE} (hL : eL E) (hJ : eJ E) (F : Nat) (a0 : Nat) (a1 : Int32) (ha0 : atChain E a0) (σ : zST) {r0 : Int32} {τ0 : zST} (h : m_X1_countFrom F a0 a1 σ = some (r0, τ0)) : Ct l yX1_countFrom wsX1_countFrom r_X1_countFrom E [.ref (eA E a0), .int a1] σ (some (.int r0)) τ0 := by
  refine Ct_of (by decide) rfl hL hJ (Nat.le_of_ble_eq_true rfl) (fun K hE hl hk hq => ?_)
  subst hE
  exact w_X1_countFrom hk hq F a0 a1 ha0 σ h
end

-- CanonCote$Chain.keep (J)V
section
theorem dX1_keep_0 : decode cX1_keep 0 = .ok (.aload_n 0, 1) := by decide +kernel
theorem dX1_keep_1 : decode cX1_keep 1 = .ok (.lload_n 1, 1) := by decide +kernel
theorem dX1_keep_2 : decode cX1_keep 2 = .ok (.invokevirtual 60, 3) := by decide +kernel
theorem dX1_keep_5 : decode cX1_keep 5 = .ok (.lstore_n 3, 1) := by decide +kernel
theorem dX1_keep_6 : decode cX1_keep 6 = .ok (.lload_n 3, 1) := by decide +kernel
theorem dX1_keep_7 : decode cX1_keep 7 = .ok (.ldc2_w 47, 3) := by decide +kernel
theorem dX1_keep_10 : decode cX1_keep 10 = .ok (.lcmp, 1) := by decide +kernel
theorem dX1_keep_11 : decode cX1_keep 11 = .ok (.ifCond .eq 12, 3) := by decide +kernel
theorem dX1_keep_14 : decode cX1_keep 14 = .ok (.aload_n 0, 1) := by decide +kernel
theorem dX1_keep_15 : decode cX1_keep 15 = .ok (.getfield 22, 3) := by decide +kernel
theorem dX1_keep_18 : decode cX1_keep 18 = .ok (.bipush 28, 2) := by decide +kernel
theorem dX1_keep_20 : decode cX1_keep 20 = .ok (.if_icmp .lt 4, 3) := by decide +kernel
theorem dX1_keep_23 : decode cX1_keep 23 = .ok (.return_, 1) := by decide +kernel
theorem dX1_keep_24 : decode cX1_keep 24 = .ok (.aload_n 0, 1) := by decide +kernel
theorem dX1_keep_25 : decode cX1_keep 25 = .ok (.getfield 15, 3) := by decide +kernel
theorem dX1_keep_28 : decode cX1_keep 28 = .ok (.aload_n 0, 1) := by decide +kernel
theorem dX1_keep_29 : decode cX1_keep 29 = .ok (.getfield 22, 3) := by decide +kernel
theorem dX1_keep_32 : decode cX1_keep 32 = .ok (.lload_n 3, 1) := by decide +kernel
theorem dX1_keep_33 : decode cX1_keep 33 = .ok (.lastore, 1) := by decide +kernel
theorem dX1_keep_34 : decode cX1_keep 34 = .ok (.aload_n 0, 1) := by decide +kernel
theorem dX1_keep_35 : decode cX1_keep 35 = .ok (.dup, 1) := by decide +kernel
theorem dX1_keep_36 : decode cX1_keep 36 = .ok (.getfield 22, 3) := by decide +kernel
theorem dX1_keep_39 : decode cX1_keep 39 = .ok (.iconst 1, 1) := by decide +kernel
theorem dX1_keep_40 : decode cX1_keep 40 = .ok (.iadd, 1) := by decide +kernel
theorem dX1_keep_41 : decode cX1_keep 41 = .ok (.putfield 22, 3) := by decide +kernel
theorem dX1_keep_44 : decode cX1_keep 44 = .ok (.aload_n 0, 1) := by decide +kernel
theorem dX1_keep_45 : decode cX1_keep 45 = .ok (.lload_n 3, 1) := by decide +kernel
theorem dX1_keep_46 : decode cX1_keep 46 = .ok (.invokevirtual 64, 3) := by decide +kernel
theorem dX1_keep_49 : decode cX1_keep 49 = .ok (.istore 5, 2) := by decide +kernel
theorem dX1_keep_51 : decode cX1_keep 51 = .ok (.lload_n 3, 1) := by decide +kernel
theorem dX1_keep_52 : decode cX1_keep 52 = .ok (.aload_n 0, 1) := by decide +kernel
theorem dX1_keep_53 : decode cX1_keep 53 = .ok (.getfield 9, 3) := by decide +kernel
theorem dX1_keep_56 : decode cX1_keep 56 = .ok (.iload 5, 2) := by decide +kernel
theorem dX1_keep_58 : decode cX1_keep 58 = .ok (.iaload, 1) := by decide +kernel
theorem dX1_keep_59 : decode cX1_keep 59 = .ok (.invokestatic 68, 3) := by decide +kernel
theorem dX1_keep_62 : decode cX1_keep 62 = .ok (.istore 6, 2) := by decide +kernel
theorem dX1_keep_64 : decode cX1_keep 64 = .ok (.aload_n 0, 1) := by decide +kernel
theorem dX1_keep_65 : decode cX1_keep 65 = .ok (.getfield 19, 3) := by decide +kernel
theorem dX1_keep_68 : decode cX1_keep 68 = .ok (.iload 5, 2) := by decide +kernel
theorem dX1_keep_70 : decode cX1_keep 70 = .ok (.bipush 8, 2) := by decide +kernel
theorem dX1_keep_72 : decode cX1_keep 72 = .ok (.imul, 1) := by decide +kernel
theorem dX1_keep_73 : decode cX1_keep 73 = .ok (.iload 6, 2) := by decide +kernel
theorem dX1_keep_75 : decode cX1_keep 75 = .ok (.iadd, 1) := by decide +kernel
theorem dX1_keep_76 : decode cX1_keep 76 = .ok (.lload_n 3, 1) := by decide +kernel
theorem dX1_keep_77 : decode cX1_keep 77 = .ok (.invokestatic 72, 3) := by decide +kernel
theorem dX1_keep_80 : decode cX1_keep 80 = .ok (.lastore, 1) := by decide +kernel
theorem dX1_keep_81 : decode cX1_keep 81 = .ok (.aload_n 0, 1) := by decide +kernel
theorem dX1_keep_82 : decode cX1_keep 82 = .ok (.aload_n 0, 1) := by decide +kernel
theorem dX1_keep_83 : decode cX1_keep 83 = .ok (.iconst 0, 1) := by decide +kernel
theorem dX1_keep_84 : decode cX1_keep 84 = .ok (.invokevirtual 75, 3) := by decide +kernel
theorem dX1_keep_87 : decode cX1_keep 87 = .ok (.putfield 49, 3) := by decide +kernel
theorem dX1_keep_90 : decode cX1_keep 90 = .ok (.return_, 1) := by decide +kernel
set_option maxRecDepth 20000 in
theorem ggX1_keep_X1_restOf : GoodIn wsX1_keep wsX1_restOf := goodIn_r _ [11, 4, 5, 12, 13, 14, 15, 16, 17, 18, 19, 20, 31, 32, 33, 34, 35, 36] (by decide +kernel) (by decide +kernel)
set_option maxRecDepth 20000 in
theorem gX1_keep_X1_restOf : GoodIn wsX1_keep (wsV RX1 60 RX1 yX1_restOf wsX1_restOf) := goodIn_app (goodIn_of _ (by decide +kernel)) ggX1_keep_X1_restOf
set_option maxRecDepth 20000 in
theorem ggX1_keep_X1_firstMoved : GoodIn wsX1_keep wsX1_firstMoved := goodIn_r _ [24, 4, 12, 13, 14, 31, 32, 33, 34, 35, 36] (by decide +kernel) (by decide +kernel)
set_option maxRecDepth 20000 in
theorem gX1_keep_X1_firstMoved : GoodIn wsX1_keep (wsV RX1 64 RX1 yX1_firstMoved wsX1_firstMoved) := goodIn_app (goodIn_of _ (by decide +kernel)) ggX1_keep_X1_firstMoved
set_option maxRecDepth 20000 in
theorem ggX1_keep_X5_imageOf : GoodIn wsX1_keep wsX5_imageOf := goodIn_r _ [14] (by decide +kernel) (by decide +kernel)
set_option maxRecDepth 20000 in
theorem gX1_keep_X5_imageOf_n68 : GoodIn wsX1_keep (wsX5_imageOf) := ggX1_keep_X5_imageOf
set_option maxRecDepth 20000 in
theorem ggX1_keep_X5_inverse : GoodIn wsX1_keep wsX5_inverse := goodIn_r _ [26, 17, 12, 13, 14, 18, 19, 20] (by decide +kernel) (by decide +kernel)
set_option maxRecDepth 20000 in
theorem gX1_keep_X5_inverse_n72 : GoodIn wsX1_keep (wsX5_inverse) := ggX1_keep_X5_inverse
set_option maxRecDepth 20000 in
theorem ggX1_keep_X1_countFrom : GoodIn wsX1_keep wsX1_countFrom := goodIn_r _ [30, 5, 31, 32, 33, 34, 35, 36] (by decide +kernel) (by decide +kernel)
set_option maxRecDepth 20000 in
theorem gX1_keep_X1_countFrom : GoodIn wsX1_keep (wsV RX1 75 RX1 yX1_countFrom wsX1_countFrom) := goodIn_app (goodIn_of _ (by decide +kernel)) ggX1_keep_X1_countFrom
theorem wd_X1_keep_0 : Cond.constantLong RX1 47 1985229328 ∈ wsX1_keep := by decide +kernel
theorem in_X1_keep_Chain : ∀ w ∈ u_ws RX1 TX1 6, w ∈ wsX1_keep := by decide +kernel
theorem wd_X1_keep_2 : Cond.fieldLink RX1 22 (TX1 1).1 (TX1 1).2.1 (TX1 1).2.2.1 ∈ wsX1_keep := by decide +kernel
theorem wd_X1_keep_3 : Cond.fieldLink RX1 15 (TX1 4).1 (TX1 4).2.1 (TX1 4).2.2.1 ∈ wsX1_keep := by decide +kernel
theorem wd_X1_keep_4 : Cond.fieldLink RX1 9 (TX1 3).1 (TX1 3).2.1 (TX1 3).2.2.1 ∈ wsX1_keep := by decide +kernel
theorem wd_X1_keep_5 : Cond.initialized yX5_imageOf.cls ∈ wsX1_keep := by decide +kernel
theorem wd_X1_keep_6 : Cond.static yX5_imageOf ∈ wsX1_keep := by decide +kernel
theorem wd_X1_keep_7 : Cond.fieldLink RX1 19 (TX1 5).1 (TX1 5).2.1 (TX1 5).2.2.1 ∈ wsX1_keep := by decide +kernel
theorem wd_X1_keep_8 : Cond.initialized yX5_inverse.cls ∈ wsX1_keep := by decide +kernel
theorem wd_X1_keep_9 : Cond.static yX5_inverse ∈ wsX1_keep := by decide +kernel
theorem wd_X1_keep_10 : Cond.fieldLink RX1 49 (TX1 0).1 (TX1 0).2.1 (TX1 0).2.2.1 ∈ wsX1_keep := by decide +kernel
def r_X1_keep : Room := { frames := 4, cells := 0, slots := 0, locals := 88 }
set_option maxRecDepth 100000 in
set_option maxHeartbeats 4000000 in
theorem w_X1_keep {K : zK} (hk : zIs K RX1 cX1_keep 7 wsX1_keep none r_X1_keep) {τ0 : zST} (hq : zQ K none τ0) (F : Nat) (a0 : Nat) (a1 : Int64) (ha0 : atChain (kZ K) a0) (σ : zST) (h : m_X1_keep F a0 a1 σ = some τ0) : Z K 0 0 0 [(0, .ref (eA (kZ K) a0)), (1, .long a1)] [] σ := by
  unfold m_X1_keep at h
  refine Z_aload_n hk 0 dX1_keep_0 rfl rfl ?_
  refine Z_lload_n hk 1 dX1_keep_1 rfl rfl ?_
  obtain ⟨x1, s2, h3, h⟩ := bd_ok h
  refine Z_callV 1 hk [.long a1] (c_X1_restOf hk.loc hk.inj F a0 a1 ha0 σ h3) gX1_keep_X1_restOf rfl ⟨rfl, rfl⟩ (by decide +kernel) ⟨Nat.le_of_ble_eq_true rfl, Nat.le_of_ble_eq_true rfl⟩ ha0.cell.1 (ha0.cell.2 _) rfl rfl rfl (Nat.le_of_ble_eq_true rfl) ⟨Nat.zero_le _, Nat.zero_le _⟩ dX1_keep_2 ?_
  show Z K 0 0 5 [(0, .ref (eA (kZ K) a0)), (1, .long a1)] [.long x1] s2
  refine Z_lstore_n hk (lv' := [(3, .long x1), (0, .ref (eA (kZ K) a0)), (1, .long a1)]) dX1_keep_5 rfl (by decide) rfl ?_
  refine Z_lload_n hk 0 dX1_keep_6 rfl rfl ?_
  refine Z_ldc2 hk (v := 1985229328) dX1_keep_7 wd_X1_keep_0 ?_
  refine Z_lcmp hk dX1_keep_10 ?_
  refine Z_if_eq hk (tgt := 23) dX1_keep_11 (by decide) (fun c4 => ?_) (fun c4 => ?_)
  · have h := if_yes h c4
    cases h
    exact Z_vret hk hq dX1_keep_23
  · have h := if_no h c4
    refine Z_aload_n hk 1 dX1_keep_14 rfl rfl ?_
    refine Z_get hk in_X1_keep_Chain rfl ha0.cell.1 (ha0.cell.2 _) 1 (by decide) wd_X1_keep_2 rfl dX1_keep_15 ?_
    refine Z_bipush hk dX1_keep_18 zc_bipush_28 ?_
    refine Z_icmp_lt hk (tgt := 24) dX1_keep_20 (by decide) (fun c5 => ?_) (fun c5 => ?_)
    · have h := if_yes h c5
      refine Z_aload_n hk 1 dX1_keep_24 rfl rfl ?_
      refine Z_get hk in_X1_keep_Chain rfl ha0.cell.1 (ha0.cell.2 _) 4 (by decide) wd_X1_keep_3 rfl dX1_keep_25 ?_
      refine Z_aload_n hk 1 dX1_keep_28 rfl rfl ?_
      refine Z_get hk in_X1_keep_Chain rfl ha0.cell.1 (ha0.cell.2 _) 1 (by decide) wd_X1_keep_2 rfl dX1_keep_29 ?_
      refine Z_lload_n hk 0 dX1_keep_32 rfl rfl ?_
      obtain ⟨i8, s6, e7, h⟩ := stL_get h
      refine Z_last hk (ha0.kept) i8 dX1_keep_33 ?_
      refine Z_eqS e7 ?_
      refine Z_aload_n hk 1 dX1_keep_34 rfl rfl ?_
      refine Z_dup hk dX1_keep_35 rfl ?_
      refine Z_get hk in_X1_keep_Chain rfl ha0.cell.1 (ha0.cell.2 _) 1 (by decide) wd_X1_keep_2 rfl dX1_keep_36 ?_
      refine Z_iconst hk dX1_keep_39 zc_iconst_1 ?_
      refine Z_iadd hk dX1_keep_40 ?_
      obtain ⟨s9, e10, h⟩ := nm_get h
      refine Z_put hk in_X1_keep_Chain tyX1 tok_TX1 tnm_TX1 rfl ha0.cell.1 (ha0.cell.2 _) 1 (by decide) wd_X1_keep_2 rfl (by decide) (Nat.le_of_ble_eq_true rfl) (ha0.put_keptCount _ _) dX1_keep_41 ?_
      refine Z_eqS e10 ?_
      refine Z_aload_n hk 1 dX1_keep_44 rfl rfl ?_
      refine Z_lload_n hk 0 dX1_keep_45 rfl rfl ?_
      obtain ⟨x11, s12, h13, h⟩ := bd_ok h
      refine Z_callV 1 hk [.long x1] (c_X1_firstMoved hk.loc hk.inj F a0 x1 ha0 s9 h13) gX1_keep_X1_firstMoved rfl ⟨rfl, rfl⟩ (by decide +kernel) ⟨Nat.le_of_ble_eq_true rfl, Nat.le_of_ble_eq_true rfl⟩ ha0.cell.1 (ha0.cell.2 _) rfl rfl rfl (Nat.le_of_ble_eq_true rfl) ⟨Nat.zero_le _, Nat.zero_le _⟩ dX1_keep_46 ?_
      show Z K 0 0 49 [(3, .long x1), (0, .ref (eA (kZ K) a0)), (1, .long a1)] [.int x11] s12
      refine Z_istore hk (lv' := [(5, .int x11), (3, .long x1), (0, .ref (eA (kZ K) a0)), (1, .long a1)]) dX1_keep_49 (by decide) rfl ?_
      refine Z_lload_n hk 1 dX1_keep_51 rfl rfl ?_
      refine Z_aload_n hk 2 dX1_keep_52 rfl rfl ?_
      refine Z_get hk in_X1_keep_Chain rfl ha0.cell.1 (ha0.cell.2 _) 3 (by decide) wd_X1_keep_4 rfl dX1_keep_53 ?_
      refine Z_iload hk 0 dX1_keep_56 rfl ?_
      obtain ⟨i16, x14, e15, h⟩ := ldI_get h
      refine Z_iald hk (ha0.base) i16 dX1_keep_58 ?_
      refine Z_eqI e15 ?_
      obtain ⟨x17, s18, h19, h⟩ := bd_ok h
      refine Z_callSN 2 hk [.long x1, .int x14] (c_X5_imageOf hk.loc hk.inj F x1 x14 s12 h19) gX1_keep_X5_imageOf_n68 nw_6 rfl ⟨rfl, rfl⟩ ⟨wd_X1_keep_5, wd_X1_keep_6⟩ (by decide +kernel) ⟨Nat.le_of_ble_eq_true rfl, Nat.le_of_ble_eq_true rfl⟩ rfl rfl (Nat.le_of_ble_eq_true rfl) ⟨Nat.zero_le _, Nat.zero_le _⟩ dX1_keep_59 ?_
      show Z K 0 0 62 [(5, .int x11), (3, .long x1), (0, .ref (eA (kZ K) a0)), (1, .long a1)] [.int x17] s18
      refine Z_istore hk (lv' := [(6, .int x17), (5, .int x11), (3, .long x1), (0, .ref (eA (kZ K) a0)), (1, .long a1)]) dX1_keep_62 (by decide) rfl ?_
      refine Z_aload_n hk 3 dX1_keep_64 rfl rfl ?_
      refine Z_get hk in_X1_keep_Chain rfl ha0.cell.1 (ha0.cell.2 _) 5 (by decide) wd_X1_keep_7 rfl dX1_keep_65 ?_
      refine Z_iload hk 1 dX1_keep_68 rfl ?_
      refine Z_bipush hk dX1_keep_70 zc_bipush_8 ?_
      refine Z_imul hk dX1_keep_72 ?_
      refine Z_iload hk 0 dX1_keep_73 rfl ?_
      refine Z_iadd hk dX1_keep_75 ?_
      refine Z_lload_n hk 2 dX1_keep_76 rfl rfl ?_
      obtain ⟨x20, s21, h22, h⟩ := bd_ok h
      refine Z_callSN 1 hk [.long x1] (c_X5_inverse hk.loc hk.inj F x1 s18 h22) gX1_keep_X5_inverse_n72 nw_8 rfl ⟨rfl, rfl⟩ ⟨wd_X1_keep_8, wd_X1_keep_9⟩ (by decide +kernel) ⟨Nat.le_of_ble_eq_true rfl, Nat.le_of_ble_eq_true rfl⟩ rfl rfl (Nat.le_of_ble_eq_true rfl) ⟨Nat.zero_le _, Nat.zero_le _⟩ dX1_keep_77 ?_
      show Z K 0 0 80 [(6, .int x17), (5, .int x11), (3, .long x1), (0, .ref (eA (kZ K) a0)), (1, .long a1)] [.long x20, .int ((x11 * 8) + x17), .ref (eA (kZ K) (a0 + 3))] s21
      obtain ⟨i25, s23, e24, h⟩ := stL_get h
      refine Z_last hk (ha0.back) i25 dX1_keep_80 ?_
      refine Z_eqS e24 ?_
      refine Z_aload_n hk 3 dX1_keep_81 rfl rfl ?_
      refine Z_aload_n hk 3 dX1_keep_82 rfl rfl ?_
      refine Z_iconst hk dX1_keep_83 zc_iconst_0 ?_
      obtain ⟨x26, s27, h28, h⟩ := bd_ok h
      refine Z_callV 1 hk [.int 0] (c_X1_countFrom hk.loc hk.inj F a0 0 ha0 s23 h28) gX1_keep_X1_countFrom rfl ⟨rfl, rfl⟩ (by decide +kernel) ⟨Nat.le_of_ble_eq_true rfl, Nat.le_of_ble_eq_true rfl⟩ ha0.cell.1 (ha0.cell.2 _) rfl rfl rfl (Nat.le_of_ble_eq_true rfl) ⟨Nat.zero_le _, Nat.zero_le _⟩ dX1_keep_84 ?_
      show Z K 0 0 87 [(6, .int x17), (5, .int x11), (3, .long x1), (0, .ref (eA (kZ K) a0)), (1, .long a1)] [.int x26, .ref (eA (kZ K) a0)] s27
      obtain ⟨s29, e30, h⟩ := nm_get h
      refine Z_put hk in_X1_keep_Chain tyX1 tok_TX1 tnm_TX1 rfl ha0.cell.1 (ha0.cell.2 _) 0 (by decide) wd_X1_keep_10 rfl (by decide) (Nat.le_of_ble_eq_true rfl) (ha0.put_members _ _) dX1_keep_87 ?_
      refine Z_eqS e30 ?_
      cases h
      exact Z_vret hk hq dX1_keep_90
    · have h := if_no h c5
      cases h
      exact Z_vret hk hq dX1_keep_23
theorem c_X1_keep {l : Launch} {E : zE} (hL : eL E) (hJ : eJ E) (F : Nat) (a0 : Nat) (a1 : Int64) (ha0 : atChain E a0) (σ : zST) {τ0 : zST} (h : m_X1_keep F a0 a1 σ = some τ0) : Ct l yX1_keep wsX1_keep r_X1_keep E [.ref (eA E a0), .long a1] σ none τ0 := by
  refine Ct_of (by decide) rfl hL hJ (Nat.le_of_ble_eq_true rfl) (fun K hE hl hk hq => ?_)
  subst hE
  exact w_X1_keep hk hq F a0 a1 ha0 σ h
end

-- CanonCote$Chain.add (JI)V
section
theorem dX1_add_0 : decode cX1_add 0 = .ok (.aload_n 0, 1) := by decide +kernel
theorem dX1_add_1 : decode cX1_add 1 = .ok (.lload_n 1, 1) := by decide +kernel
theorem dX1_add_2 : decode cX1_add 2 = .ok (.invokevirtual 52, 3) := by decide +kernel
theorem dX1_add_5 : decode cX1_add 5 = .ok (.aload_n 0, 1) := by decide +kernel
theorem dX1_add_6 : decode cX1_add 6 = .ok (.getfield 26, 3) := by decide +kernel
theorem dX1_add_9 : decode cX1_add 9 = .ok (.istore 4, 2) := by decide +kernel
theorem dX1_add_11 : decode cX1_add 11 = .ok (.iload 4, 2) := by decide +kernel
theorem dX1_add_13 : decode cX1_add 13 = .ok (.aload_n 0, 1) := by decide +kernel
theorem dX1_add_14 : decode cX1_add 14 = .ok (.getfield 22, 3) := by decide +kernel
theorem dX1_add_17 : decode cX1_add 17 = .ok (.if_icmp .ge 82, 3) := by decide +kernel
theorem dX1_add_20 : decode cX1_add 20 = .ok (.iload 4, 2) := by decide +kernel
theorem dX1_add_22 : decode cX1_add 22 = .ok (.bipush 28, 2) := by decide +kernel
theorem dX1_add_24 : decode cX1_add 24 = .ok (.if_icmp .ge 75, 3) := by decide +kernel
theorem dX1_add_27 : decode cX1_add 27 = .ok (.iconst 0, 1) := by decide +kernel
theorem dX1_add_28 : decode cX1_add 28 = .ok (.istore 5, 2) := by decide +kernel
theorem dX1_add_30 : decode cX1_add 30 = .ok (.iload 5, 2) := by decide +kernel
theorem dX1_add_32 : decode cX1_add 32 = .ok (.iload 4, 2) := by decide +kernel
theorem dX1_add_34 : decode cX1_add 34 = .ok (.if_icmp .gt 59, 3) := by decide +kernel
theorem dX1_add_37 : decode cX1_add 37 = .ok (.aload_n 0, 1) := by decide +kernel
theorem dX1_add_38 : decode cX1_add 38 = .ok (.getfield 49, 3) := by decide +kernel
theorem dX1_add_41 : decode cX1_add 41 = .ok (.iload_n 3, 1) := by decide +kernel
theorem dX1_add_42 : decode cX1_add 42 = .ok (.if_icmp .ge 51, 3) := by decide +kernel
theorem dX1_add_45 : decode cX1_add 45 = .ok (.aload_n 0, 1) := by decide +kernel
theorem dX1_add_46 : decode cX1_add 46 = .ok (.aload_n 0, 1) := by decide +kernel
theorem dX1_add_47 : decode cX1_add 47 = .ok (.getfield 15, 3) := by decide +kernel
theorem dX1_add_50 : decode cX1_add 50 = .ok (.iload 4, 2) := by decide +kernel
theorem dX1_add_52 : decode cX1_add 52 = .ok (.laload, 1) := by decide +kernel
theorem dX1_add_53 : decode cX1_add 53 = .ok (.aload_n 0, 1) := by decide +kernel
theorem dX1_add_54 : decode cX1_add 54 = .ok (.getfield 15, 3) := by decide +kernel
theorem dX1_add_57 : decode cX1_add 57 = .ok (.iload 5, 2) := by decide +kernel
theorem dX1_add_59 : decode cX1_add 59 = .ok (.laload, 1) := by decide +kernel
theorem dX1_add_60 : decode cX1_add 60 = .ok (.invokestatic 56, 3) := by decide +kernel
theorem dX1_add_63 : decode cX1_add 63 = .ok (.invokevirtual 52, 3) := by decide +kernel
theorem dX1_add_66 : decode cX1_add 66 = .ok (.aload_n 0, 1) := by decide +kernel
theorem dX1_add_67 : decode cX1_add 67 = .ok (.aload_n 0, 1) := by decide +kernel
theorem dX1_add_68 : decode cX1_add 68 = .ok (.getfield 15, 3) := by decide +kernel
theorem dX1_add_71 : decode cX1_add 71 = .ok (.iload 5, 2) := by decide +kernel
theorem dX1_add_73 : decode cX1_add 73 = .ok (.laload, 1) := by decide +kernel
theorem dX1_add_74 : decode cX1_add 74 = .ok (.aload_n 0, 1) := by decide +kernel
theorem dX1_add_75 : decode cX1_add 75 = .ok (.getfield 15, 3) := by decide +kernel
theorem dX1_add_78 : decode cX1_add 78 = .ok (.iload 4, 2) := by decide +kernel
theorem dX1_add_80 : decode cX1_add 80 = .ok (.laload, 1) := by decide +kernel
theorem dX1_add_81 : decode cX1_add 81 = .ok (.invokestatic 56, 3) := by decide +kernel
theorem dX1_add_84 : decode cX1_add 84 = .ok (.invokevirtual 52, 3) := by decide +kernel
theorem dX1_add_87 : decode cX1_add 87 = .ok (.iinc 5 1, 3) := by decide +kernel
theorem dX1_add_90 : decode cX1_add 90 = .ok (.goto (-60), 3) := by decide +kernel
theorem dX1_add_93 : decode cX1_add 93 = .ok (.iinc 4 1, 3) := by decide +kernel
theorem dX1_add_96 : decode cX1_add 96 = .ok (.goto (-85), 3) := by decide +kernel
theorem dX1_add_99 : decode cX1_add 99 = .ok (.aload_n 0, 1) := by decide +kernel
theorem dX1_add_100 : decode cX1_add 100 = .ok (.aload_n 0, 1) := by decide +kernel
theorem dX1_add_101 : decode cX1_add 101 = .ok (.getfield 22, 3) := by decide +kernel
theorem dX1_add_104 : decode cX1_add 104 = .ok (.putfield 26, 3) := by decide +kernel
theorem dX1_add_107 : decode cX1_add 107 = .ok (.return_, 1) := by decide +kernel
set_option maxRecDepth 20000 in
theorem ggX1_add_X1_keep : GoodIn wsX1_add wsX1_keep := goodIn_r _ [9, 10, 2, 4, 11, 12, 3, 13, 14, 15, 8, 16, 17, 18, 19, 20, 21, 22, 23, 24, 25, 26, 27, 28, 29, 30, 31, 32, 33, 34, 35, 36, 37, 38, 39, 40, 41] (by decide +kernel) (by decide +kernel)
set_option maxRecDepth 20000 in
theorem gX1_add_X1_keep : GoodIn wsX1_add (wsV RX1 52 RX1 yX1_keep wsX1_keep) := goodIn_app (goodIn_of _ (by decide +kernel)) ggX1_add_X1_keep
set_option maxRecDepth 20000 in
theorem ggX1_add_X5_oneThenOther : GoodIn wsX1_add wsX5_oneThenOther := goodIn_r _ [21, 22, 17, 18, 19, 23, 24, 25] (by decide +kernel) (by decide +kernel)
set_option maxRecDepth 20000 in
theorem gX1_add_X5_oneThenOther_n56 : GoodIn wsX1_add (wsX5_oneThenOther) := ggX1_add_X5_oneThenOther
theorem in_X1_add_Chain : ∀ w ∈ u_ws RX1 TX1 6, w ∈ wsX1_add := by decide +kernel
theorem wd_X1_add_1 : Cond.fieldLink RX1 26 (TX1 2).1 (TX1 2).2.1 (TX1 2).2.2.1 ∈ wsX1_add := by decide +kernel
theorem wd_X1_add_2 : Cond.fieldLink RX1 22 (TX1 1).1 (TX1 1).2.1 (TX1 1).2.2.1 ∈ wsX1_add := by decide +kernel
theorem wd_X1_add_3 : Cond.fieldLink RX1 49 (TX1 0).1 (TX1 0).2.1 (TX1 0).2.2.1 ∈ wsX1_add := by decide +kernel
theorem wd_X1_add_4 : Cond.fieldLink RX1 15 (TX1 4).1 (TX1 4).2.1 (TX1 4).2.2.1 ∈ wsX1_add := by decide +kernel
theorem wd_X1_add_5 : Cond.initialized yX5_oneThenOther.cls ∈ wsX1_add := by decide +kernel
theorem wd_X1_add_6 : Cond.static yX5_oneThenOther ∈ wsX1_add := by decide +kernel
def r_X1_add : Room := { frames := 5, cells := 0, slots := 0, locals := 114 }
set_option maxRecDepth 100000 in
set_option maxHeartbeats 4000000 in
theorem w_X1_add_93 {K : zK} (hk : zIs K RX1 cX1_add 6 wsX1_add none r_X1_add) {τ0 : zST} (hq : zQ K none τ0) (F : Nat) (k11 : Nat → Int32 → Int32 → zST → Option zST) (hk11 : ∀ (a0 : Nat) (a3 : Int32) (a4 : Int32) (ha0 : atChain (kZ K) a0) (σ : zST), k11 a0 a3 a4 σ = some τ0 → Z K 0 0 11 [(0, .ref (eA (kZ K) a0)), (3, .int a3), (4, .int a4)] [] σ) (a0 : Nat) (a3 : Int32) (a4 : Int32) (ha0 : atChain (kZ K) a0) (σ : zST) (h : m_X1_add_93 F k11 a0 a3 a4 σ = some τ0) : Z K 0 0 93 [(0, .ref (eA (kZ K) a0)), (3, .int a3), (4, .int a4)] [] σ := by
  unfold m_X1_add_93 at h
  obtain ⟨x38, e39, h⟩ := nm_get h
  refine Z_iinc hk 2 (v := x38) (lv' := [(4, .int x38), (0, .ref (eA (kZ K) a0)), (3, .int a3)]) dX1_add_93 rfl (by rw [zc_iinc_1]; exact e39) (by decide) rfl ?_
  refine Z_goto hk (tgt := 11) dX1_add_96 (by decide) ?_
  refine Z_sub [1, 2, 0] rfl ?_
  exact hk11 a0 a3 x38 ha0 σ h
set_option maxRecDepth 100000 in
set_option maxHeartbeats 4000000 in
theorem w_X1_add_30 {K : zK} (hk : zIs K RX1 cX1_add 6 wsX1_add none r_X1_add) {τ0 : zST} (hq : zQ K none τ0) (F : Nat) (k11 : Nat → Int32 → Int32 → zST → Option zST) (hk11 : ∀ (a0 : Nat) (a3 : Int32) (a4 : Int32) (ha0 : atChain (kZ K) a0) (σ : zST), k11 a0 a3 a4 σ = some τ0 → Z K 0 0 11 [(0, .ref (eA (kZ K) a0)), (3, .int a3), (4, .int a4)] [] σ) : ∀ (n : Nat) (a0 : Nat) (a3 : Int32) (a4 : Int32) (a5 : Int32) (ha0 : atChain (kZ K) a0) (σ : zST), m_X1_add_30 F k11 n a0 a3 a4 a5 σ = some τ0 → Z K 0 0 30 [(0, .ref (eA (kZ K) a0)), (3, .int a3), (4, .int a4), (5, .int a5)] [] σ := by
  intro n
  induction n with
  | zero => intro a0 a3 a4 a5 ha0 σ h; cases h
  | succ n ih =>
    intro a0 a3 a4 a5 ha0 σ h
    rw [m_X1_add_30] at h
    refine Z_iload hk 3 dX1_add_30 rfl ?_
    refine Z_iload hk 2 dX1_add_32 rfl ?_
    refine Z_icmp_gt hk (tgt := 93) dX1_add_34 (by decide) (fun c10 => ?_) (fun c10 => ?_)
    · have h := if_yes h c10
      refine Z_sub [0, 1, 2] rfl ?_
      exact w_X1_add_93 hk hq F k11 hk11 a0 a3 a4 ha0 σ h
    · have h := if_no h c10
      refine Z_aload_n hk 0 dX1_add_37 rfl rfl ?_
      refine Z_get hk in_X1_add_Chain rfl ha0.cell.1 (ha0.cell.2 _) 0 (by decide) wd_X1_add_3 rfl dX1_add_38 ?_
      refine Z_iload_n hk 1 dX1_add_41 rfl rfl ?_
      refine Z_icmp_ge hk (tgt := 93) dX1_add_42 (by decide) (fun c11 => ?_) (fun c11 => ?_)
      · have h := if_yes h c11
        refine Z_sub [0, 1, 2] rfl ?_
        exact w_X1_add_93 hk hq F k11 hk11 a0 a3 a4 ha0 σ h
      · have h := if_no h c11
        refine Z_aload_n hk 0 dX1_add_45 rfl rfl ?_
        refine Z_aload_n hk 0 dX1_add_46 rfl rfl ?_
        refine Z_get hk in_X1_add_Chain rfl ha0.cell.1 (ha0.cell.2 _) 4 (by decide) wd_X1_add_4 rfl dX1_add_47 ?_
        refine Z_iload hk 2 dX1_add_50 rfl ?_
        obtain ⟨i14, x12, e13, h⟩ := ldL_get h
        refine Z_lald hk (ha0.kept) i14 dX1_add_52 ?_
        refine Z_eqL e13 ?_
        refine Z_aload_n hk 0 dX1_add_53 rfl rfl ?_
        refine Z_get hk in_X1_add_Chain rfl ha0.cell.1 (ha0.cell.2 _) 4 (by decide) wd_X1_add_4 rfl dX1_add_54 ?_
        refine Z_iload hk 3 dX1_add_57 rfl ?_
        obtain ⟨i17, x15, e16, h⟩ := ldL_get h
        refine Z_lald hk (ha0.kept) i17 dX1_add_59 ?_
        refine Z_eqL e16 ?_
        obtain ⟨x18, s19, h20, h⟩ := bd_ok h
        refine Z_callSN 2 hk [.long x12, .long x15] (c_X5_oneThenOther hk.loc hk.inj F x12 x15 σ h20) gX1_add_X5_oneThenOther_n56 nw_7 rfl ⟨rfl, rfl⟩ ⟨wd_X1_add_5, wd_X1_add_6⟩ (by decide +kernel) ⟨Nat.le_of_ble_eq_true rfl, Nat.le_of_ble_eq_true rfl⟩ rfl rfl (Nat.le_of_ble_eq_true rfl) ⟨Nat.zero_le _, Nat.zero_le _⟩ dX1_add_60 ?_
        show Z K 0 0 63 [(0, .ref (eA (kZ K) a0)), (3, .int a3), (4, .int a4), (5, .int a5)] [.long x18, .ref (eA (kZ K) a0)] s19
        obtain ⟨s22, h23, h⟩ := bv_ok h
        refine Z_callV 1 hk [.long x18] (c_X1_keep hk.loc hk.inj F a0 x18 ha0 s19 h23) gX1_add_X1_keep rfl ⟨rfl, rfl⟩ (by decide +kernel) ⟨Nat.le_of_ble_eq_true rfl, Nat.le_of_ble_eq_true rfl⟩ ha0.cell.1 (ha0.cell.2 _) rfl rfl rfl (Nat.le_of_ble_eq_true rfl) ⟨Nat.zero_le _, Nat.zero_le _⟩ dX1_add_63 ?_
        show Z K 0 0 66 [(0, .ref (eA (kZ K) a0)), (3, .int a3), (4, .int a4), (5, .int a5)] [] s22
        refine Z_aload_n hk 0 dX1_add_66 rfl rfl ?_
        refine Z_aload_n hk 0 dX1_add_67 rfl rfl ?_
        refine Z_get hk in_X1_add_Chain rfl ha0.cell.1 (ha0.cell.2 _) 4 (by decide) wd_X1_add_4 rfl dX1_add_68 ?_
        refine Z_iload hk 3 dX1_add_71 rfl ?_
        obtain ⟨i26, x24, e25, h⟩ := ldL_get h
        refine Z_lald hk (ha0.kept) i26 dX1_add_73 ?_
        refine Z_eqL e25 ?_
        refine Z_aload_n hk 0 dX1_add_74 rfl rfl ?_
        refine Z_get hk in_X1_add_Chain rfl ha0.cell.1 (ha0.cell.2 _) 4 (by decide) wd_X1_add_4 rfl dX1_add_75 ?_
        refine Z_iload hk 2 dX1_add_78 rfl ?_
        obtain ⟨i29, x27, e28, h⟩ := ldL_get h
        refine Z_lald hk (ha0.kept) i29 dX1_add_80 ?_
        refine Z_eqL e28 ?_
        obtain ⟨x30, s31, h32, h⟩ := bd_ok h
        refine Z_callSN 2 hk [.long x24, .long x27] (c_X5_oneThenOther hk.loc hk.inj F x24 x27 s22 h32) gX1_add_X5_oneThenOther_n56 nw_7 rfl ⟨rfl, rfl⟩ ⟨wd_X1_add_5, wd_X1_add_6⟩ (by decide +kernel) ⟨Nat.le_of_ble_eq_true rfl, Nat.le_of_ble_eq_true rfl⟩ rfl rfl (Nat.le_of_ble_eq_true rfl) ⟨Nat.zero_le _, Nat.zero_le _⟩ dX1_add_81 ?_
        show Z K 0 0 84 [(0, .ref (eA (kZ K) a0)), (3, .int a3), (4, .int a4), (5, .int a5)] [.long x30, .ref (eA (kZ K) a0)] s31
        obtain ⟨s34, h35, h⟩ := bv_ok h
        refine Z_callV 1 hk [.long x30] (c_X1_keep hk.loc hk.inj F a0 x30 ha0 s31 h35) gX1_add_X1_keep rfl ⟨rfl, rfl⟩ (by decide +kernel) ⟨Nat.le_of_ble_eq_true rfl, Nat.le_of_ble_eq_true rfl⟩ ha0.cell.1 (ha0.cell.2 _) rfl rfl rfl (Nat.le_of_ble_eq_true rfl) ⟨Nat.zero_le _, Nat.zero_le _⟩ dX1_add_84 ?_
        show Z K 0 0 87 [(0, .ref (eA (kZ K) a0)), (3, .int a3), (4, .int a4), (5, .int a5)] [] s34
        obtain ⟨x36, e37, h⟩ := nm_get h
        refine Z_iinc hk 3 (v := x36) (lv' := [(5, .int x36), (0, .ref (eA (kZ K) a0)), (3, .int a3), (4, .int a4)]) dX1_add_87 rfl (by rw [zc_iinc_1]; exact e37) (by decide) rfl ?_
        refine Z_goto hk (tgt := 30) dX1_add_90 (by decide) ?_
        refine Z_sub [1, 2, 3, 0] rfl ?_
        exact ih a0 a3 a4 x36 ha0 s34 h
set_option maxRecDepth 100000 in
set_option maxHeartbeats 4000000 in
theorem w_X1_add_99 {K : zK} (hk : zIs K RX1 cX1_add 6 wsX1_add none r_X1_add) {τ0 : zST} (hq : zQ K none τ0) (F : Nat) (a0 : Nat) (ha0 : atChain (kZ K) a0) (σ : zST) (h : m_X1_add_99 F a0 σ = some τ0) : Z K 0 0 99 [(0, .ref (eA (kZ K) a0))] [] σ := by
  unfold m_X1_add_99 at h
  refine Z_aload_n hk 0 dX1_add_99 rfl rfl ?_
  refine Z_aload_n hk 0 dX1_add_100 rfl rfl ?_
  refine Z_get hk in_X1_add_Chain rfl ha0.cell.1 (ha0.cell.2 _) 1 (by decide) wd_X1_add_2 rfl dX1_add_101 ?_
  obtain ⟨s8, e9, h⟩ := nm_get h
  refine Z_put hk in_X1_add_Chain tyX1 tok_TX1 tnm_TX1 rfl ha0.cell.1 (ha0.cell.2 _) 2 (by decide) wd_X1_add_1 rfl (by decide) (Nat.le_of_ble_eq_true rfl) (ha0.put_closedCount _ _) dX1_add_104 ?_
  refine Z_eqS e9 ?_
  cases h
  exact Z_vret hk hq dX1_add_107
set_option maxRecDepth 100000 in
set_option maxHeartbeats 4000000 in
theorem w_X1_add_11 {K : zK} (hk : zIs K RX1 cX1_add 6 wsX1_add none r_X1_add) {τ0 : zST} (hq : zQ K none τ0) (F : Nat) : ∀ (n : Nat) (a0 : Nat) (a3 : Int32) (a4 : Int32) (ha0 : atChain (kZ K) a0) (σ : zST), m_X1_add_11 F n a0 a3 a4 σ = some τ0 → Z K 0 0 11 [(0, .ref (eA (kZ K) a0)), (3, .int a3), (4, .int a4)] [] σ := by
  intro n
  induction n with
  | zero => intro a0 a3 a4 ha0 σ h; cases h
  | succ n ih =>
    intro a0 a3 a4 ha0 σ h
    rw [m_X1_add_11] at h
    refine Z_iload hk 2 dX1_add_11 rfl ?_
    refine Z_aload_n hk 0 dX1_add_13 rfl rfl ?_
    refine Z_get hk in_X1_add_Chain rfl ha0.cell.1 (ha0.cell.2 _) 1 (by decide) wd_X1_add_2 rfl dX1_add_14 ?_
    refine Z_icmp_ge hk (tgt := 99) dX1_add_17 (by decide) (fun c6 => ?_) (fun c6 => ?_)
    · have h := if_yes h c6
      refine Z_sub [0] rfl ?_
      exact w_X1_add_99 hk hq F a0 ha0 σ h
    · have h := if_no h c6
      refine Z_iload hk 2 dX1_add_20 rfl ?_
      refine Z_bipush hk dX1_add_22 zc_bipush_28 ?_
      refine Z_icmp_ge hk (tgt := 99) dX1_add_24 (by decide) (fun c7 => ?_) (fun c7 => ?_)
      · have h := if_yes h c7
        refine Z_sub [0] rfl ?_
        exact w_X1_add_99 hk hq F a0 ha0 σ h
      · have h := if_no h c7
        refine Z_iconst hk dX1_add_27 zc_iconst_0 ?_
        refine Z_istore hk (lv' := [(5, .int 0), (0, .ref (eA (kZ K) a0)), (3, .int a3), (4, .int a4)]) dX1_add_28 (by decide) rfl ?_
        refine Z_sub [1, 2, 3, 0] rfl ?_
        exact w_X1_add_30 hk hq F (m_X1_add_11 F n) ih F a0 a3 a4 0 ha0 σ h
set_option maxRecDepth 100000 in
set_option maxHeartbeats 4000000 in
theorem w_X1_add {K : zK} (hk : zIs K RX1 cX1_add 6 wsX1_add none r_X1_add) {τ0 : zST} (hq : zQ K none τ0) (F : Nat) (a0 : Nat) (a1 : Int64) (a3 : Int32) (ha0 : atChain (kZ K) a0) (σ : zST) (h : m_X1_add F a0 a1 a3 σ = some τ0) : Z K 0 0 0 [(0, .ref (eA (kZ K) a0)), (1, .long a1), (3, .int a3)] [] σ := by
  unfold m_X1_add at h
  refine Z_aload_n hk 0 dX1_add_0 rfl rfl ?_
  refine Z_lload_n hk 1 dX1_add_1 rfl rfl ?_
  obtain ⟨s2, h3, h⟩ := bv_ok h
  refine Z_callV 1 hk [.long a1] (c_X1_keep hk.loc hk.inj F a0 a1 ha0 σ h3) gX1_add_X1_keep rfl ⟨rfl, rfl⟩ (by decide +kernel) ⟨Nat.le_of_ble_eq_true rfl, Nat.le_of_ble_eq_true rfl⟩ ha0.cell.1 (ha0.cell.2 _) rfl rfl rfl (Nat.le_of_ble_eq_true rfl) ⟨Nat.zero_le _, Nat.zero_le _⟩ dX1_add_2 ?_
  show Z K 0 0 5 [(0, .ref (eA (kZ K) a0)), (1, .long a1), (3, .int a3)] [] s2
  refine Z_aload_n hk 0 dX1_add_5 rfl rfl ?_
  refine Z_get hk in_X1_add_Chain rfl ha0.cell.1 (ha0.cell.2 _) 2 (by decide) wd_X1_add_1 rfl dX1_add_6 ?_
  obtain ⟨x4, e5, h⟩ := nm_get h
  refine Z_eqI e5 ?_
  refine Z_istore hk (lv' := [(4, .int x4), (0, .ref (eA (kZ K) a0)), (1, .long a1), (3, .int a3)]) dX1_add_9 (by decide) rfl ?_
  refine Z_sub [1, 3, 0] rfl ?_
  exact w_X1_add_11 hk hq F F a0 a3 x4 ha0 s2 h
theorem c_X1_add {l : Launch} {E : zE} (hL : eL E) (hJ : eJ E) (F : Nat) (a0 : Nat) (a1 : Int64) (a3 : Int32) (ha0 : atChain E a0) (σ : zST) {τ0 : zST} (h : m_X1_add F a0 a1 a3 σ = some τ0) : Ct l yX1_add wsX1_add r_X1_add E [.ref (eA E a0), .long a1, .int a3] σ none τ0 := by
  refine Ct_of (by decide) rfl hL hJ (Nat.le_of_ble_eq_true rfl) (fun K hE hl hk hq => ?_)
  subst hE
  exact w_X1_add hk hq F a0 a1 a3 ha0 σ h
end

-- CanonCote$Chain.holds (J)Z
section
theorem dX1_holds_0 : decode cX1_holds 0 = .ok (.aload_n 0, 1) := by decide +kernel
theorem dX1_holds_1 : decode cX1_holds 1 = .ok (.lload_n 1, 1) := by decide +kernel
theorem dX1_holds_2 : decode cX1_holds 2 = .ok (.invokevirtual 60, 3) := by decide +kernel
theorem dX1_holds_5 : decode cX1_holds 5 = .ok (.ldc2_w 47, 3) := by decide +kernel
theorem dX1_holds_8 : decode cX1_holds 8 = .ok (.lcmp, 1) := by decide +kernel
theorem dX1_holds_9 : decode cX1_holds 9 = .ok (.ifCond .ne 7, 3) := by decide +kernel
theorem dX1_holds_12 : decode cX1_holds 12 = .ok (.iconst 1, 1) := by decide +kernel
theorem dX1_holds_13 : decode cX1_holds 13 = .ok (.goto 4, 3) := by decide +kernel
theorem dX1_holds_16 : decode cX1_holds 16 = .ok (.iconst 0, 1) := by decide +kernel
theorem dX1_holds_17 : decode cX1_holds 17 = .ok (.ireturn, 1) := by decide +kernel
set_option maxRecDepth 20000 in
theorem ggX1_holds_X1_restOf : GoodIn wsX1_holds wsX1_restOf := goodIn_r _ [6, 7, 8, 9, 10, 11, 12, 13, 14, 15, 16, 17, 18, 19, 20, 21, 22, 23] (by decide +kernel) (by decide +kernel)
set_option maxRecDepth 20000 in
theorem gX1_holds_X1_restOf : GoodIn wsX1_holds (wsV RX1 60 RX1 yX1_restOf wsX1_restOf) := goodIn_app (goodIn_of _ (by decide +kernel)) ggX1_holds_X1_restOf
theorem wd_X1_holds_0 : Cond.constantLong RX1 47 1985229328 ∈ wsX1_holds := by decide +kernel
def r_X1_holds : Room := { frames := 4, cells := 0, slots := 0, locals := 88 }
set_option maxRecDepth 100000 in
set_option maxHeartbeats 4000000 in
theorem w_X1_holds {K : zK} (hk : zIs K RX1 cX1_holds 3 wsX1_holds (some .boolean) r_X1_holds) {r0 : Int32} {τ0 : zST} (hq : zQ K (some (.int r0)) τ0) (F : Nat) (a0 : Nat) (a1 : Int64) (ha0 : atChain (kZ K) a0) (σ : zST) (h : m_X1_holds F a0 a1 σ = some (r0, τ0)) : Z K 0 0 0 [(0, .ref (eA (kZ K) a0)), (1, .long a1)] [] σ := by
  unfold m_X1_holds at h
  refine Z_aload_n hk 0 dX1_holds_0 rfl rfl ?_
  refine Z_lload_n hk 1 dX1_holds_1 rfl rfl ?_
  obtain ⟨x1, s2, h3, h⟩ := bd_ok h
  refine Z_callV 1 hk [.long a1] (c_X1_restOf hk.loc hk.inj F a0 a1 ha0 σ h3) gX1_holds_X1_restOf rfl ⟨rfl, rfl⟩ (by decide +kernel) ⟨Nat.le_of_ble_eq_true rfl, Nat.le_of_ble_eq_true rfl⟩ ha0.cell.1 (ha0.cell.2 _) rfl rfl rfl (Nat.le_of_ble_eq_true rfl) ⟨Nat.zero_le _, Nat.zero_le _⟩ dX1_holds_2 ?_
  show Z K 0 0 5 [(0, .ref (eA (kZ K) a0)), (1, .long a1)] [.long x1] s2
  refine Z_ldc2 hk (v := 1985229328) dX1_holds_5 wd_X1_holds_0 ?_
  refine Z_lcmp hk dX1_holds_8 ?_
  refine Z_if_ne hk (tgt := 16) dX1_holds_9 (by decide) (fun c4 => ?_) (fun c4 => ?_)
  · have h := if_yes h c4
    refine Z_iconst hk dX1_holds_12 zc_iconst_1 ?_
    refine Z_goto hk (tgt := 17) dX1_holds_13 (by decide) ?_
    cases h
    exact Z_zret hk (by decide) hq dX1_holds_17
  · have h := if_no h c4
    refine Z_iconst hk dX1_holds_16 zc_iconst_0 ?_
    cases h
    exact Z_zret hk (by decide) hq dX1_holds_17
theorem c_X1_holds {l : Launch} {E : zE} (hL : eL E) (hJ : eJ E) (F : Nat) (a0 : Nat) (a1 : Int64) (ha0 : atChain E a0) (σ : zST) {r0 : Int32} {τ0 : zST} (h : m_X1_holds F a0 a1 σ = some (r0, τ0)) : Ct l yX1_holds wsX1_holds r_X1_holds E [.ref (eA E a0), .long a1] σ (some (.int r0)) τ0 := by
  refine Ct_of (by decide) rfl hL hJ (Nat.le_of_ble_eq_true rfl) (fun K hE hl hk hq => ?_)
  subst hE
  exact w_X1_holds hk hq F a0 a1 ha0 σ h
end

-- CanonCote$Group.clear ()V
section
theorem dX3_clear_0 : decode cX3_clear 0 = .ok (.aload_n 0, 1) := by decide +kernel
theorem dX3_clear_1 : decode cX3_clear 1 = .ok (.iconst 0, 1) := by decide +kernel
theorem dX3_clear_2 : decode cX3_clear 2 = .ok (.putfield 28, 3) := by decide +kernel
theorem dX3_clear_5 : decode cX3_clear 5 = .ok (.aload_n 0, 1) := by decide +kernel
theorem dX3_clear_6 : decode cX3_clear 6 = .ok (.getfield 18, 3) := by decide +kernel
theorem dX3_clear_9 : decode cX3_clear 9 = .ok (.iconst 0, 1) := by decide +kernel
theorem dX3_clear_10 : decode cX3_clear 10 = .ok (.invokevirtual 32, 3) := by decide +kernel
theorem dX3_clear_13 : decode cX3_clear 13 = .ok (.return_, 1) := by decide +kernel
set_option maxRecDepth 20000 in
theorem ggX3_clear_X1_restart : GoodIn wsX3_clear wsX1_restart := goodIn_r _ [6, 7, 8, 9, 10, 11, 12, 13, 14, 15, 16, 17, 18, 19, 20, 21, 22, 23, 24, 25, 26, 31, 32, 33, 34, 35, 36] (by decide +kernel) (by decide +kernel)
set_option maxRecDepth 20000 in
theorem gX3_clear_X1_restart_n32 : GoodIn wsX3_clear (wsX1_restart) := ggX3_clear_X1_restart
theorem in_X3_clear_Group : ∀ w ∈ u_ws RX3 TX3 4, w ∈ wsX3_clear := by decide +kernel
theorem wd_X3_clear_1 : Cond.fieldLink RX3 28 (TX3 0).1 (TX3 0).2.1 (TX3 0).2.2.1 ∈ wsX3_clear := by decide +kernel
theorem wd_X3_clear_2 : Cond.fieldLink RX3 18 (TX3 2).1 (TX3 2).2.1 (TX3 2).2.2.1 ∈ wsX3_clear := by decide +kernel
theorem wd_X3_clear_3 : Cond.initialized yX1_restart.cls ∈ wsX3_clear := by decide +kernel
theorem wd_X3_clear_4 : Cond.instanceMethod yX1_restart ∈ wsX3_clear := by decide +kernel
theorem wd_X3_clear_5 : Cond.selects RX1 yX1_restart yX1_restart ∈ wsX3_clear := by decide +kernel
def r_X3_clear : Room := { frames := 3, cells := 0, slots := 0, locals := 61 }
set_option maxRecDepth 100000 in
set_option maxHeartbeats 4000000 in
theorem w_X3_clear {K : zK} (hk : zIs K RX3 cX3_clear 1 wsX3_clear none r_X3_clear) {τ0 : zST} (hq : zQ K none τ0) (F : Nat) (a0 : Nat) (ha0 : atGroup (kZ K) a0) (σ : zST) (h : m_X3_clear F a0 σ = some τ0) : Z K 0 0 0 [(0, .ref (eA (kZ K) a0))] [] σ := by
  unfold m_X3_clear at h
  refine Z_aload_n hk 0 dX3_clear_0 rfl rfl ?_
  refine Z_iconst hk dX3_clear_1 zc_iconst_0 ?_
  obtain ⟨s1, e2, h⟩ := nm_get h
  refine Z_put hk in_X3_clear_Group tyX3 tok_TX3 tnm_TX3 rfl ha0.cell.1 (ha0.cell.2 _) 0 (by decide) wd_X3_clear_1 rfl (by decide) (Nat.le_of_ble_eq_true rfl) (ha0.put_count _ _) dX3_clear_2 ?_
  refine Z_eqS e2 ?_
  refine Z_aload_n hk 0 dX3_clear_5 rfl rfl ?_
  refine Z_get hk in_X3_clear_Group rfl ha0.cell.1 (ha0.cell.2 _) 2 (by decide) wd_X3_clear_2 rfl dX3_clear_6 ?_
  refine Z_iconst hk dX3_clear_9 zc_iconst_0 ?_
  obtain ⟨s4, h5, h⟩ := bv_ok h
  refine Z_callVN 1 hk (C := RX1) [.int 0] (c_X1_restart hk.loc hk.inj F (a0 + 2) 0 (ha0.chain) s1 h5) gX3_clear_X1_restart_n32 nw_11 rfl ⟨rfl, rfl⟩ ⟨wd_X3_clear_3, wd_X3_clear_4, wd_X3_clear_5⟩ (by decide +kernel) ⟨Nat.le_of_ble_eq_true rfl, Nat.le_of_ble_eq_true rfl⟩ (ha0.chain).cell.1 ((ha0.chain).cell.2 _) rfl rfl rfl (Nat.le_of_ble_eq_true rfl) ⟨Nat.zero_le _, Nat.zero_le _⟩ dX3_clear_10 ?_
  show Z K 0 0 13 [(0, .ref (eA (kZ K) a0))] [] s4
  cases h
  exact Z_vret hk hq dX3_clear_13
theorem c_X3_clear {l : Launch} {E : zE} (hL : eL E) (hJ : eJ E) (F : Nat) (a0 : Nat) (ha0 : atGroup E a0) (σ : zST) {τ0 : zST} (h : m_X3_clear F a0 σ = some τ0) : Ct l yX3_clear wsX3_clear r_X3_clear E [.ref (eA E a0)] σ none τ0 := by
  refine Ct_of (by decide) rfl hL hJ (Nat.le_of_ble_eq_true rfl) (fun K hE hl hk hq => ?_)
  subst hE
  exact w_X3_clear hk hq F a0 ha0 σ h
end

-- CanonCote$Group.add (J)V
section
theorem dX3_add_0 : decode cX3_add 0 = .ok (.aload_n 0, 1) := by decide +kernel
theorem dX3_add_1 : decode cX3_add 1 = .ok (.getfield 28, 3) := by decide +kernel
theorem dX3_add_4 : decode cX3_add 4 = .ok (.bipush 6, 2) := by decide +kernel
theorem dX3_add_6 : decode cX3_add 6 = .ok (.if_icmp .ge 33, 3) := by decide +kernel
theorem dX3_add_9 : decode cX3_add 9 = .ok (.aload_n 0, 1) := by decide +kernel
theorem dX3_add_10 : decode cX3_add 10 = .ok (.getfield 9, 3) := by decide +kernel
theorem dX3_add_13 : decode cX3_add 13 = .ok (.aload_n 0, 1) := by decide +kernel
theorem dX3_add_14 : decode cX3_add 14 = .ok (.getfield 28, 3) := by decide +kernel
theorem dX3_add_17 : decode cX3_add 17 = .ok (.lload_n 1, 1) := by decide +kernel
theorem dX3_add_18 : decode cX3_add 18 = .ok (.lastore, 1) := by decide +kernel
theorem dX3_add_19 : decode cX3_add 19 = .ok (.aload_n 0, 1) := by decide +kernel
theorem dX3_add_20 : decode cX3_add 20 = .ok (.dup, 1) := by decide +kernel
theorem dX3_add_21 : decode cX3_add 21 = .ok (.getfield 28, 3) := by decide +kernel
theorem dX3_add_24 : decode cX3_add 24 = .ok (.iconst 1, 1) := by decide +kernel
theorem dX3_add_25 : decode cX3_add 25 = .ok (.iadd, 1) := by decide +kernel
theorem dX3_add_26 : decode cX3_add 26 = .ok (.putfield 28, 3) := by decide +kernel
theorem dX3_add_29 : decode cX3_add 29 = .ok (.aload_n 0, 1) := by decide +kernel
theorem dX3_add_30 : decode cX3_add 30 = .ok (.getfield 18, 3) := by decide +kernel
theorem dX3_add_33 : decode cX3_add 33 = .ok (.lload_n 1, 1) := by decide +kernel
theorem dX3_add_34 : decode cX3_add 34 = .ok (.ldc 36, 2) := by decide +kernel
theorem dX3_add_36 : decode cX3_add 36 = .ok (.invokevirtual 37, 3) := by decide +kernel
theorem dX3_add_39 : decode cX3_add 39 = .ok (.return_, 1) := by decide +kernel
set_option maxRecDepth 20000 in
theorem ggX3_add_X1_add : GoodIn wsX3_add wsX1_add := goodIn_r _ [8, 9, 10, 11, 12, 13, 14, 15, 6, 16, 17, 18, 19, 20, 21, 22, 23, 24, 25, 26, 27, 28, 29, 30, 31, 32, 33, 34, 35, 36, 37, 38, 39, 40, 41, 42, 47, 48, 49, 50, 51, 52] (by decide +kernel) (by decide +kernel)
set_option maxRecDepth 20000 in
theorem gX3_add_X1_add_n37 : GoodIn wsX3_add (wsX1_add) := ggX3_add_X1_add
theorem in_X3_add_Group : ∀ w ∈ u_ws RX3 TX3 4, w ∈ wsX3_add := by decide +kernel
theorem wd_X3_add_1 : Cond.fieldLink RX3 28 (TX3 0).1 (TX3 0).2.1 (TX3 0).2.2.1 ∈ wsX3_add := by decide +kernel
theorem wd_X3_add_2 : Cond.fieldLink RX3 9 (TX3 1).1 (TX3 1).2.1 (TX3 1).2.2.1 ∈ wsX3_add := by decide +kernel
theorem wd_X3_add_3 : Cond.fieldLink RX3 18 (TX3 2).1 (TX3 2).2.1 (TX3 2).2.2.1 ∈ wsX3_add := by decide +kernel
theorem wd_X3_add_4 : Cond.constant RX3 36 40320 ∈ wsX3_add := by decide +kernel
theorem wd_X3_add_5 : Cond.initialized yX1_add.cls ∈ wsX3_add := by decide +kernel
theorem wd_X3_add_6 : Cond.instanceMethod yX1_add ∈ wsX3_add := by decide +kernel
theorem wd_X3_add_7 : Cond.selects RX1 yX1_add yX1_add ∈ wsX3_add := by decide +kernel
def r_X3_add : Room := { frames := 6, cells := 0, slots := 0, locals := 139 }
set_option maxRecDepth 100000 in
set_option maxHeartbeats 4000000 in
theorem w_X3_add {K : zK} (hk : zIs K RX3 cX3_add 3 wsX3_add none r_X3_add) {τ0 : zST} (hq : zQ K none τ0) (F : Nat) (a0 : Nat) (a1 : Int64) (ha0 : atGroup (kZ K) a0) (σ : zST) (h : m_X3_add F a0 a1 σ = some τ0) : Z K 0 0 0 [(0, .ref (eA (kZ K) a0)), (1, .long a1)] [] σ := by
  unfold m_X3_add at h
  refine Z_aload_n hk 0 dX3_add_0 rfl rfl ?_
  refine Z_get hk in_X3_add_Group rfl ha0.cell.1 (ha0.cell.2 _) 0 (by decide) wd_X3_add_1 rfl dX3_add_1 ?_
  refine Z_bipush hk dX3_add_4 zc_bipush_6 ?_
  refine Z_icmp_ge hk (tgt := 39) dX3_add_6 (by decide) (fun c1 => ?_) (fun c1 => ?_)
  · have h := if_yes h c1
    cases h
    exact Z_vret hk hq dX3_add_39
  · have h := if_no h c1
    refine Z_aload_n hk 0 dX3_add_9 rfl rfl ?_
    refine Z_get hk in_X3_add_Group rfl ha0.cell.1 (ha0.cell.2 _) 1 (by decide) wd_X3_add_2 rfl dX3_add_10 ?_
    refine Z_aload_n hk 0 dX3_add_13 rfl rfl ?_
    refine Z_get hk in_X3_add_Group rfl ha0.cell.1 (ha0.cell.2 _) 0 (by decide) wd_X3_add_1 rfl dX3_add_14 ?_
    refine Z_lload_n hk 1 dX3_add_17 rfl rfl ?_
    obtain ⟨i4, s2, e3, h⟩ := stL_get h
    refine Z_last hk (ha0.generators) i4 dX3_add_18 ?_
    refine Z_eqS e3 ?_
    refine Z_aload_n hk 0 dX3_add_19 rfl rfl ?_
    refine Z_dup hk dX3_add_20 rfl ?_
    refine Z_get hk in_X3_add_Group rfl ha0.cell.1 (ha0.cell.2 _) 0 (by decide) wd_X3_add_1 rfl dX3_add_21 ?_
    refine Z_iconst hk dX3_add_24 zc_iconst_1 ?_
    refine Z_iadd hk dX3_add_25 ?_
    obtain ⟨s5, e6, h⟩ := nm_get h
    refine Z_put hk in_X3_add_Group tyX3 tok_TX3 tnm_TX3 rfl ha0.cell.1 (ha0.cell.2 _) 0 (by decide) wd_X3_add_1 rfl (by decide) (Nat.le_of_ble_eq_true rfl) (ha0.put_count _ _) dX3_add_26 ?_
    refine Z_eqS e6 ?_
    refine Z_aload_n hk 0 dX3_add_29 rfl rfl ?_
    refine Z_get hk in_X3_add_Group rfl ha0.cell.1 (ha0.cell.2 _) 2 (by decide) wd_X3_add_3 rfl dX3_add_30 ?_
    refine Z_lload_n hk 1 dX3_add_33 rfl rfl ?_
    refine Z_ldc hk (v := 40320) dX3_add_34 wd_X3_add_4 ?_
    obtain ⟨s8, h9, h⟩ := bv_ok h
    refine Z_callVN 2 hk (C := RX1) [.long a1, .int 40320] (c_X1_add hk.loc hk.inj F (a0 + 2) a1 40320 (ha0.chain) s5 h9) gX3_add_X1_add_n37 nw_12 rfl ⟨rfl, rfl⟩ ⟨wd_X3_add_5, wd_X3_add_6, wd_X3_add_7⟩ (by decide +kernel) ⟨Nat.le_of_ble_eq_true rfl, Nat.le_of_ble_eq_true rfl⟩ (ha0.chain).cell.1 ((ha0.chain).cell.2 _) rfl rfl rfl (Nat.le_of_ble_eq_true rfl) ⟨Nat.zero_le _, Nat.zero_le _⟩ dX3_add_36 ?_
    show Z K 0 0 39 [(0, .ref (eA (kZ K) a0)), (1, .long a1)] [] s8
    cases h
    exact Z_vret hk hq dX3_add_39
theorem c_X3_add {l : Launch} {E : zE} (hL : eL E) (hJ : eJ E) (F : Nat) (a0 : Nat) (a1 : Int64) (ha0 : atGroup E a0) (σ : zST) {τ0 : zST} (h : m_X3_add F a0 a1 σ = some τ0) : Ct l yX3_add wsX3_add r_X3_add E [.ref (eA E a0), .long a1] σ none τ0 := by
  refine Ct_of (by decide) rfl hL hJ (Nat.le_of_ble_eq_true rfl) (fun K hE hl hk hq => ?_)
  subst hE
  exact w_X3_add hk hq F a0 a1 ha0 σ h
end

-- CanonCote$Group.imagesOf (JI)I
section
theorem dX3_imagesOf_0 : decode cX3_imagesOf 0 = .ok (.iconst 0, 1) := by decide +kernel
theorem dX3_imagesOf_1 : decode cX3_imagesOf 1 = .ok (.istore_n 3, 1) := by decide +kernel
theorem dX3_imagesOf_2 : decode cX3_imagesOf 2 = .ok (.iconst 0, 1) := by decide +kernel
theorem dX3_imagesOf_3 : decode cX3_imagesOf 3 = .ok (.istore 4, 2) := by decide +kernel
theorem dX3_imagesOf_5 : decode cX3_imagesOf 5 = .ok (.iload 4, 2) := by decide +kernel
theorem dX3_imagesOf_7 : decode cX3_imagesOf 7 = .ok (.bipush 8, 2) := by decide +kernel
theorem dX3_imagesOf_9 : decode cX3_imagesOf 9 = .ok (.if_icmp .ge 29, 3) := by decide +kernel
theorem dX3_imagesOf_12 : decode cX3_imagesOf 12 = .ok (.iload_n 2, 1) := by decide +kernel
theorem dX3_imagesOf_13 : decode cX3_imagesOf 13 = .ok (.iload 4, 2) := by decide +kernel
theorem dX3_imagesOf_15 : decode cX3_imagesOf 15 = .ok (.invokestatic 45, 3) := by decide +kernel
theorem dX3_imagesOf_18 : decode cX3_imagesOf 18 = .ok (.ifCond .eq 14, 3) := by decide +kernel
theorem dX3_imagesOf_21 : decode cX3_imagesOf 21 = .ok (.iload_n 3, 1) := by decide +kernel
theorem dX3_imagesOf_22 : decode cX3_imagesOf 22 = .ok (.iconst 1, 1) := by decide +kernel
theorem dX3_imagesOf_23 : decode cX3_imagesOf 23 = .ok (.lload_n 0, 1) := by decide +kernel
theorem dX3_imagesOf_24 : decode cX3_imagesOf 24 = .ok (.iload 4, 2) := by decide +kernel
theorem dX3_imagesOf_26 : decode cX3_imagesOf 26 = .ok (.invokestatic 49, 3) := by decide +kernel
theorem dX3_imagesOf_29 : decode cX3_imagesOf 29 = .ok (.ishl, 1) := by decide +kernel
theorem dX3_imagesOf_30 : decode cX3_imagesOf 30 = .ok (.ior, 1) := by decide +kernel
theorem dX3_imagesOf_31 : decode cX3_imagesOf 31 = .ok (.istore_n 3, 1) := by decide +kernel
theorem dX3_imagesOf_32 : decode cX3_imagesOf 32 = .ok (.iinc 4 1, 3) := by decide +kernel
theorem dX3_imagesOf_35 : decode cX3_imagesOf 35 = .ok (.goto (-30), 3) := by decide +kernel
theorem dX3_imagesOf_38 : decode cX3_imagesOf 38 = .ok (.iload_n 3, 1) := by decide +kernel
theorem dX3_imagesOf_39 : decode cX3_imagesOf 39 = .ok (.ireturn, 1) := by decide +kernel
set_option maxRecDepth 20000 in
theorem ggX3_imagesOf_X7_isIn : GoodIn wsX3_imagesOf wsX7_isIn := goodIn_r _ [3] (by decide +kernel) (by decide +kernel)
set_option maxRecDepth 20000 in
theorem gX3_imagesOf_X7_isIn_n45 : GoodIn wsX3_imagesOf (wsX7_isIn) := ggX3_imagesOf_X7_isIn
set_option maxRecDepth 20000 in
theorem ggX3_imagesOf_X5_imageOf : GoodIn wsX3_imagesOf wsX5_imageOf := goodIn_r _ [6] (by decide +kernel) (by decide +kernel)
set_option maxRecDepth 20000 in
theorem gX3_imagesOf_X5_imageOf_n49 : GoodIn wsX3_imagesOf (wsX5_imageOf) := ggX3_imagesOf_X5_imageOf
theorem wd_X3_imagesOf_0 : Cond.initialized yX7_isIn.cls ∈ wsX3_imagesOf := by decide +kernel
theorem wd_X3_imagesOf_1 : Cond.static yX7_isIn ∈ wsX3_imagesOf := by decide +kernel
theorem wd_X3_imagesOf_2 : Cond.initialized yX5_imageOf.cls ∈ wsX3_imagesOf := by decide +kernel
theorem wd_X3_imagesOf_3 : Cond.static yX5_imageOf ∈ wsX3_imagesOf := by decide +kernel
def r_X3_imagesOf : Room := { frames := 2, cells := 0, slots := 0, locals := 34 }
set_option maxRecDepth 100000 in
set_option maxHeartbeats 4000000 in
theorem w_X3_imagesOf_32 {K : zK} (hk : zIs K RX3 cX3_imagesOf 5 wsX3_imagesOf (some .int) r_X3_imagesOf) {r0 : Int32} {τ0 : zST} (hq : zQ K (some (.int r0)) τ0) (F : Nat) (k5 : Int64 → Int32 → Int32 → Int32 → zST → Option (Int32 × zST)) (hk5 : ∀ (a0 : Int64) (a2 : Int32) (a3 : Int32) (a4 : Int32) (σ : zST), k5 a0 a2 a3 a4 σ = some (r0, τ0) → Z K 0 0 5 [(0, .long a0), (2, .int a2), (3, .int a3), (4, .int a4)] [] σ) (a0 : Int64) (a2 : Int32) (a3 : Int32) (a4 : Int32) (σ : zST) (h : m_X3_imagesOf_32 F k5 a0 a2 a3 a4 σ = some (r0, τ0)) : Z K 0 0 32 [(0, .long a0), (2, .int a2), (3, .int a3), (4, .int a4)] [] σ := by
  unfold m_X3_imagesOf_32 at h
  obtain ⟨x11, e12, h⟩ := nm_get h
  refine Z_iinc hk 3 (v := x11) (lv' := [(4, .int x11), (0, .long a0), (2, .int a2), (3, .int a3)]) dX3_imagesOf_32 rfl (by rw [zc_iinc_1]; exact e12) (by decide) rfl ?_
  refine Z_goto hk (tgt := 5) dX3_imagesOf_35 (by decide) ?_
  refine Z_sub [1, 2, 3, 0] rfl ?_
  exact hk5 a0 a2 a3 x11 σ h
set_option maxRecDepth 100000 in
set_option maxHeartbeats 4000000 in
theorem w_X3_imagesOf_5 {K : zK} (hk : zIs K RX3 cX3_imagesOf 5 wsX3_imagesOf (some .int) r_X3_imagesOf) {r0 : Int32} {τ0 : zST} (hq : zQ K (some (.int r0)) τ0) (F : Nat) : ∀ (n : Nat) (a0 : Int64) (a2 : Int32) (a3 : Int32) (a4 : Int32) (σ : zST), m_X3_imagesOf_5 F n a0 a2 a3 a4 σ = some (r0, τ0) → Z K 0 0 5 [(0, .long a0), (2, .int a2), (3, .int a3), (4, .int a4)] [] σ := by
  intro n
  induction n with
  | zero => intro a0 a2 a3 a4 σ h; cases h
  | succ n ih =>
    intro a0 a2 a3 a4 σ h
    rw [m_X3_imagesOf_5] at h
    refine Z_iload hk 3 dX3_imagesOf_5 rfl ?_
    refine Z_bipush hk dX3_imagesOf_7 zc_bipush_8 ?_
    refine Z_icmp_ge hk (tgt := 38) dX3_imagesOf_9 (by decide) (fun c1 => ?_) (fun c1 => ?_)
    · have h := if_yes h c1
      refine Z_iload_n hk 2 dX3_imagesOf_38 rfl rfl ?_
      cases h
      exact Z_iret hk hq dX3_imagesOf_39
    · have h := if_no h c1
      refine Z_iload_n hk 1 dX3_imagesOf_12 rfl rfl ?_
      refine Z_iload hk 3 dX3_imagesOf_13 rfl ?_
      obtain ⟨x2, s3, h4, h⟩ := bd_ok h
      refine Z_callSN 2 hk [.int a2, .int a4] (c_X7_isIn hk.loc hk.inj F a2 a4 σ h4) gX3_imagesOf_X7_isIn_n45 nw_13 rfl ⟨rfl, rfl⟩ ⟨wd_X3_imagesOf_0, wd_X3_imagesOf_1⟩ (by decide +kernel) ⟨Nat.le_of_ble_eq_true rfl, Nat.le_of_ble_eq_true rfl⟩ rfl rfl (Nat.le_of_ble_eq_true rfl) ⟨Nat.zero_le _, Nat.zero_le _⟩ dX3_imagesOf_15 ?_
      show Z K 0 0 18 [(0, .long a0), (2, .int a2), (3, .int a3), (4, .int a4)] [.int x2] s3
      refine Z_if_eq hk (tgt := 32) dX3_imagesOf_18 (by decide) (fun c5 => ?_) (fun c5 => ?_)
      · have h := if_yes h c5
        refine Z_sub [0, 1, 2, 3] rfl ?_
        exact w_X3_imagesOf_32 hk hq F (m_X3_imagesOf_5 F n) ih a0 a2 a3 a4 s3 h
      · have h := if_no h c5
        refine Z_iload_n hk 2 dX3_imagesOf_21 rfl rfl ?_
        refine Z_iconst hk dX3_imagesOf_22 zc_iconst_1 ?_
        refine Z_lload_n hk 0 dX3_imagesOf_23 rfl rfl ?_
        refine Z_iload hk 3 dX3_imagesOf_24 rfl ?_
        obtain ⟨x6, s7, h8, h⟩ := bd_ok h
        refine Z_callSN 2 hk [.long a0, .int a4] (c_X5_imageOf hk.loc hk.inj F a0 a4 s3 h8) gX3_imagesOf_X5_imageOf_n49 nw_14 rfl ⟨rfl, rfl⟩ ⟨wd_X3_imagesOf_2, wd_X3_imagesOf_3⟩ (by decide +kernel) ⟨Nat.le_of_ble_eq_true rfl, Nat.le_of_ble_eq_true rfl⟩ rfl rfl (Nat.le_of_ble_eq_true rfl) ⟨Nat.zero_le _, Nat.zero_le _⟩ dX3_imagesOf_26 ?_
        show Z K 0 0 29 [(0, .long a0), (2, .int a2), (3, .int a3), (4, .int a4)] [.int x6, .int 1, .int a3] s7
        refine Z_ishl hk dX3_imagesOf_29 ?_
        refine Z_ior hk dX3_imagesOf_30 ?_
        obtain ⟨x9, e10, h⟩ := nm_get h
        refine Z_eqI e10 ?_
        refine Z_istore_n hk (lv' := [(3, .int x9), (0, .long a0), (2, .int a2), (4, .int a4)]) dX3_imagesOf_31 rfl (by decide) rfl ?_
        refine Z_sub [1, 2, 0, 3] rfl ?_
        exact w_X3_imagesOf_32 hk hq F (m_X3_imagesOf_5 F n) ih a0 a2 x9 a4 s7 h
set_option maxRecDepth 100000 in
set_option maxHeartbeats 4000000 in
theorem w_X3_imagesOf {K : zK} (hk : zIs K RX3 cX3_imagesOf 5 wsX3_imagesOf (some .int) r_X3_imagesOf) {r0 : Int32} {τ0 : zST} (hq : zQ K (some (.int r0)) τ0) (F : Nat) (a0 : Int64) (a2 : Int32) (σ : zST) (h : m_X3_imagesOf F a0 a2 σ = some (r0, τ0)) : Z K 0 0 0 [(0, .long a0), (2, .int a2)] [] σ := by
  unfold m_X3_imagesOf at h
  refine Z_iconst hk dX3_imagesOf_0 zc_iconst_0 ?_
  refine Z_istore_n hk (lv' := [(3, .int 0), (0, .long a0), (2, .int a2)]) dX3_imagesOf_1 rfl (by decide) rfl ?_
  refine Z_iconst hk dX3_imagesOf_2 zc_iconst_0 ?_
  refine Z_istore hk (lv' := [(4, .int 0), (3, .int 0), (0, .long a0), (2, .int a2)]) dX3_imagesOf_3 (by decide) rfl ?_
  refine Z_sub [2, 3, 1, 0] rfl ?_
  exact w_X3_imagesOf_5 hk hq F F a0 a2 0 0 σ h
theorem c_X3_imagesOf {l : Launch} {E : zE} (hL : eL E) (hJ : eJ E) (F : Nat) (a0 : Int64) (a2 : Int32) (σ : zST) {r0 : Int32} {τ0 : zST} (h : m_X3_imagesOf F a0 a2 σ = some (r0, τ0)) : Ct l yX3_imagesOf wsX3_imagesOf r_X3_imagesOf E [.long a0, .int a2] σ (some (.int r0)) τ0 := by
  refine Ct_of (by decide) rfl hL hJ (Nat.le_of_ble_eq_true rfl) (fun K hE hl hk hq => ?_)
  subst hE
  exact w_X3_imagesOf hk hq F a0 a2 σ h
end

-- CanonCote$Group.reach (I)I
section
theorem dX3_reach_0 : decode cX3_reach 0 = .ok (.iconst 1, 1) := by decide +kernel
theorem dX3_reach_1 : decode cX3_reach 1 = .ok (.iload_n 1, 1) := by decide +kernel
theorem dX3_reach_2 : decode cX3_reach 2 = .ok (.ishl, 1) := by decide +kernel
theorem dX3_reach_3 : decode cX3_reach 3 = .ok (.istore_n 2, 1) := by decide +kernel
theorem dX3_reach_4 : decode cX3_reach 4 = .ok (.iconst 1, 1) := by decide +kernel
theorem dX3_reach_5 : decode cX3_reach 5 = .ok (.istore_n 3, 1) := by decide +kernel
theorem dX3_reach_6 : decode cX3_reach 6 = .ok (.iload_n 3, 1) := by decide +kernel
theorem dX3_reach_7 : decode cX3_reach 7 = .ok (.bipush 8, 2) := by decide +kernel
theorem dX3_reach_9 : decode cX3_reach 9 = .ok (.if_icmp .ge 41, 3) := by decide +kernel
theorem dX3_reach_12 : decode cX3_reach 12 = .ok (.iconst 0, 1) := by decide +kernel
theorem dX3_reach_13 : decode cX3_reach 13 = .ok (.istore 4, 2) := by decide +kernel
theorem dX3_reach_15 : decode cX3_reach 15 = .ok (.iload 4, 2) := by decide +kernel
theorem dX3_reach_17 : decode cX3_reach 17 = .ok (.aload_n 0, 1) := by decide +kernel
theorem dX3_reach_18 : decode cX3_reach 18 = .ok (.getfield 28, 3) := by decide +kernel
theorem dX3_reach_21 : decode cX3_reach 21 = .ok (.if_icmp .ge 23, 3) := by decide +kernel
theorem dX3_reach_24 : decode cX3_reach 24 = .ok (.iload_n 2, 1) := by decide +kernel
theorem dX3_reach_25 : decode cX3_reach 25 = .ok (.aload_n 0, 1) := by decide +kernel
theorem dX3_reach_26 : decode cX3_reach 26 = .ok (.getfield 9, 3) := by decide +kernel
theorem dX3_reach_29 : decode cX3_reach 29 = .ok (.iload 4, 2) := by decide +kernel
theorem dX3_reach_31 : decode cX3_reach 31 = .ok (.laload, 1) := by decide +kernel
theorem dX3_reach_32 : decode cX3_reach 32 = .ok (.iload_n 2, 1) := by decide +kernel
theorem dX3_reach_33 : decode cX3_reach 33 = .ok (.invokestatic 41, 3) := by decide +kernel
theorem dX3_reach_36 : decode cX3_reach 36 = .ok (.ior, 1) := by decide +kernel
theorem dX3_reach_37 : decode cX3_reach 37 = .ok (.istore_n 2, 1) := by decide +kernel
theorem dX3_reach_38 : decode cX3_reach 38 = .ok (.iinc 4 1, 3) := by decide +kernel
theorem dX3_reach_41 : decode cX3_reach 41 = .ok (.goto (-26), 3) := by decide +kernel
theorem dX3_reach_44 : decode cX3_reach 44 = .ok (.iinc 3 1, 3) := by decide +kernel
theorem dX3_reach_47 : decode cX3_reach 47 = .ok (.goto (-41), 3) := by decide +kernel
theorem dX3_reach_50 : decode cX3_reach 50 = .ok (.iload_n 2, 1) := by decide +kernel
theorem dX3_reach_51 : decode cX3_reach 51 = .ok (.ireturn, 1) := by decide +kernel
set_option maxRecDepth 20000 in
theorem ggX3_reach_X3_imagesOf : GoodIn wsX3_reach wsX3_imagesOf := goodIn_r _ [6, 7, 8, 9, 10, 11, 12] (by decide +kernel) (by decide +kernel)
set_option maxRecDepth 20000 in
theorem gX3_reach_X3_imagesOf : GoodIn wsX3_reach (va_wsS RX3 41 yX3_imagesOf wsX3_imagesOf) := goodIn_app (goodIn_of _ (by decide +kernel)) ggX3_reach_X3_imagesOf
theorem in_X3_reach_Group : ∀ w ∈ u_ws RX3 TX3 4, w ∈ wsX3_reach := by decide +kernel
theorem wd_X3_reach_1 : Cond.fieldLink RX3 28 (TX3 0).1 (TX3 0).2.1 (TX3 0).2.2.1 ∈ wsX3_reach := by decide +kernel
theorem wd_X3_reach_2 : Cond.fieldLink RX3 9 (TX3 1).1 (TX3 1).2.1 (TX3 1).2.2.1 ∈ wsX3_reach := by decide +kernel
def r_X3_reach : Room := { frames := 3, cells := 0, slots := 0, locals := 58 }
set_option maxRecDepth 100000 in
set_option maxHeartbeats 4000000 in
theorem w_X3_reach_15 {K : zK} (hk : zIs K RX3 cX3_reach 5 wsX3_reach (some .int) r_X3_reach) {r0 : Int32} {τ0 : zST} (hq : zQ K (some (.int r0)) τ0) (F : Nat) (k6 : Nat → Int32 → Int32 → zST → Option (Int32 × zST)) (hk6 : ∀ (a0 : Nat) (a2 : Int32) (a3 : Int32) (ha0 : atGroup (kZ K) a0) (σ : zST), k6 a0 a2 a3 σ = some (r0, τ0) → Z K 0 0 6 [(0, .ref (eA (kZ K) a0)), (2, .int a2), (3, .int a3)] [] σ) : ∀ (n : Nat) (a0 : Nat) (a2 : Int32) (a3 : Int32) (a4 : Int32) (ha0 : atGroup (kZ K) a0) (σ : zST), m_X3_reach_15 F k6 n a0 a2 a3 a4 σ = some (r0, τ0) → Z K 0 0 15 [(0, .ref (eA (kZ K) a0)), (2, .int a2), (3, .int a3), (4, .int a4)] [] σ := by
  intro n
  induction n with
  | zero => intro a0 a2 a3 a4 ha0 σ h; cases h
  | succ n ih =>
    intro a0 a2 a3 a4 ha0 σ h
    rw [m_X3_reach_15] at h
    refine Z_iload hk 3 dX3_reach_15 rfl ?_
    refine Z_aload_n hk 0 dX3_reach_17 rfl rfl ?_
    refine Z_get hk in_X3_reach_Group rfl ha0.cell.1 (ha0.cell.2 _) 0 (by decide) wd_X3_reach_1 rfl dX3_reach_18 ?_
    refine Z_icmp_ge hk (tgt := 44) dX3_reach_21 (by decide) (fun c4 => ?_) (fun c4 => ?_)
    · have h := if_yes h c4
      obtain ⟨x5, e6, h⟩ := nm_get h
      refine Z_iinc hk 2 (v := x5) (lv' := [(3, .int x5), (0, .ref (eA (kZ K) a0)), (2, .int a2), (4, .int a4)]) dX3_reach_44 rfl (by rw [zc_iinc_1]; exact e6) (by decide) rfl ?_
      refine Z_goto hk (tgt := 6) dX3_reach_47 (by decide) ?_
      refine Z_sub [1, 2, 0] rfl ?_
      exact hk6 a0 a2 x5 ha0 σ h
    · have h := if_no h c4
      refine Z_iload_n hk 1 dX3_reach_24 rfl rfl ?_
      refine Z_aload_n hk 0 dX3_reach_25 rfl rfl ?_
      refine Z_get hk in_X3_reach_Group rfl ha0.cell.1 (ha0.cell.2 _) 1 (by decide) wd_X3_reach_2 rfl dX3_reach_26 ?_
      refine Z_iload hk 3 dX3_reach_29 rfl ?_
      obtain ⟨i9, x7, e8, h⟩ := ldL_get h
      refine Z_lald hk (ha0.generators) i9 dX3_reach_31 ?_
      refine Z_eqL e8 ?_
      refine Z_iload_n hk 1 dX3_reach_32 rfl rfl ?_
      obtain ⟨x10, s11, h12, h⟩ := bd_ok h
      refine Z_callT 2 hk [.long x7, .int a2] (c_X3_imagesOf hk.loc hk.inj F x7 a2 σ h12) gX3_reach_X3_imagesOf rfl ⟨rfl, rfl⟩ (by decide +kernel) ⟨Nat.le_of_ble_eq_true rfl, Nat.le_of_ble_eq_true rfl⟩ rfl rfl (Nat.le_of_ble_eq_true rfl) ⟨Nat.zero_le _, Nat.zero_le _⟩ dX3_reach_33 ?_
      show Z K 0 0 36 [(0, .ref (eA (kZ K) a0)), (2, .int a2), (3, .int a3), (4, .int a4)] [.int x10, .int a2] s11
      refine Z_ior hk dX3_reach_36 ?_
      obtain ⟨x13, e14, h⟩ := nm_get h
      refine Z_eqI e14 ?_
      refine Z_istore_n hk (lv' := [(2, .int x13), (0, .ref (eA (kZ K) a0)), (3, .int a3), (4, .int a4)]) dX3_reach_37 rfl (by decide) rfl ?_
      obtain ⟨x15, e16, h⟩ := nm_get h
      refine Z_iinc hk 3 (v := x15) (lv' := [(4, .int x15), (2, .int x13), (0, .ref (eA (kZ K) a0)), (3, .int a3)]) dX3_reach_38 rfl (by rw [zc_iinc_1]; exact e16) (by decide) rfl ?_
      refine Z_goto hk (tgt := 15) dX3_reach_41 (by decide) ?_
      refine Z_sub [2, 1, 3, 0] rfl ?_
      exact ih a0 x13 a3 x15 ha0 s11 h
set_option maxRecDepth 100000 in
set_option maxHeartbeats 4000000 in
theorem w_X3_reach_6 {K : zK} (hk : zIs K RX3 cX3_reach 5 wsX3_reach (some .int) r_X3_reach) {r0 : Int32} {τ0 : zST} (hq : zQ K (some (.int r0)) τ0) (F : Nat) : ∀ (n : Nat) (a0 : Nat) (a2 : Int32) (a3 : Int32) (ha0 : atGroup (kZ K) a0) (σ : zST), m_X3_reach_6 F n a0 a2 a3 σ = some (r0, τ0) → Z K 0 0 6 [(0, .ref (eA (kZ K) a0)), (2, .int a2), (3, .int a3)] [] σ := by
  intro n
  induction n with
  | zero => intro a0 a2 a3 ha0 σ h; cases h
  | succ n ih =>
    intro a0 a2 a3 ha0 σ h
    rw [m_X3_reach_6] at h
    refine Z_iload_n hk 2 dX3_reach_6 rfl rfl ?_
    refine Z_bipush hk dX3_reach_7 zc_bipush_8 ?_
    refine Z_icmp_ge hk (tgt := 50) dX3_reach_9 (by decide) (fun c3 => ?_) (fun c3 => ?_)
    · have h := if_yes h c3
      refine Z_iload_n hk 1 dX3_reach_50 rfl rfl ?_
      cases h
      exact Z_iret hk hq dX3_reach_51
    · have h := if_no h c3
      refine Z_iconst hk dX3_reach_12 zc_iconst_0 ?_
      refine Z_istore hk (lv' := [(4, .int 0), (0, .ref (eA (kZ K) a0)), (2, .int a2), (3, .int a3)]) dX3_reach_13 (by decide) rfl ?_
      refine Z_sub [1, 2, 3, 0] rfl ?_
      exact w_X3_reach_15 hk hq F (m_X3_reach_6 F n) ih F a0 a2 a3 0 ha0 σ h
set_option maxRecDepth 100000 in
set_option maxHeartbeats 4000000 in
theorem w_X3_reach {K : zK} (hk : zIs K RX3 cX3_reach 5 wsX3_reach (some .int) r_X3_reach) {r0 : Int32} {τ0 : zST} (hq : zQ K (some (.int r0)) τ0) (F : Nat) (a0 : Nat) (a1 : Int32) (ha0 : atGroup (kZ K) a0) (σ : zST) (h : m_X3_reach F a0 a1 σ = some (r0, τ0)) : Z K 0 0 0 [(0, .ref (eA (kZ K) a0)), (1, .int a1)] [] σ := by
  unfold m_X3_reach at h
  refine Z_iconst hk dX3_reach_0 zc_iconst_1 ?_
  refine Z_iload_n hk 1 dX3_reach_1 rfl rfl ?_
  refine Z_ishl hk dX3_reach_2 ?_
  obtain ⟨x1, e2, h⟩ := nm_get h
  refine Z_eqI e2 ?_
  refine Z_istore_n hk (lv' := [(2, .int x1), (0, .ref (eA (kZ K) a0)), (1, .int a1)]) dX3_reach_3 rfl (by decide) rfl ?_
  refine Z_iconst hk dX3_reach_4 zc_iconst_1 ?_
  refine Z_istore_n hk (lv' := [(3, .int 1), (2, .int x1), (0, .ref (eA (kZ K) a0)), (1, .int a1)]) dX3_reach_5 rfl (by decide) rfl ?_
  refine Z_sub [2, 1, 0] rfl ?_
  exact w_X3_reach_6 hk hq F F a0 x1 1 ha0 σ h
theorem c_X3_reach {l : Launch} {E : zE} (hL : eL E) (hJ : eJ E) (F : Nat) (a0 : Nat) (a1 : Int32) (ha0 : atGroup E a0) (σ : zST) {r0 : Int32} {τ0 : zST} (h : m_X3_reach F a0 a1 σ = some (r0, τ0)) : Ct l yX3_reach wsX3_reach r_X3_reach E [.ref (eA E a0), .int a1] σ (some (.int r0)) τ0 := by
  refine Ct_of (by decide) rfl hL hJ (Nat.le_of_ble_eq_true rfl) (fun K hE hl hk hq => ?_)
  subst hE
  exact w_X3_reach hk hq F a0 a1 ha0 σ h
end

-- CanonCote$Group.countFixing (I)I
section
theorem dX3_countFixing_0 : decode cX3_countFixing 0 = .ok (.aload_n 0, 1) := by decide +kernel
theorem dX3_countFixing_1 : decode cX3_countFixing 1 = .ok (.getfield 22, 3) := by decide +kernel
theorem dX3_countFixing_4 : decode cX3_countFixing 4 = .ok (.iload_n 1, 1) := by decide +kernel
theorem dX3_countFixing_5 : decode cX3_countFixing 5 = .ok (.invokevirtual 32, 3) := by decide +kernel
theorem dX3_countFixing_8 : decode cX3_countFixing 8 = .ok (.iconst 0, 1) := by decide +kernel
theorem dX3_countFixing_9 : decode cX3_countFixing 9 = .ok (.istore_n 2, 1) := by decide +kernel
theorem dX3_countFixing_10 : decode cX3_countFixing 10 = .ok (.iload_n 2, 1) := by decide +kernel
theorem dX3_countFixing_11 : decode cX3_countFixing 11 = .ok (.aload_n 0, 1) := by decide +kernel
theorem dX3_countFixing_12 : decode cX3_countFixing 12 = .ok (.getfield 28, 3) := by decide +kernel
theorem dX3_countFixing_15 : decode cX3_countFixing 15 = .ok (.if_icmp .ge 29, 3) := by decide +kernel
theorem dX3_countFixing_18 : decode cX3_countFixing 18 = .ok (.aload_n 0, 1) := by decide +kernel
theorem dX3_countFixing_19 : decode cX3_countFixing 19 = .ok (.getfield 22, 3) := by decide +kernel
theorem dX3_countFixing_22 : decode cX3_countFixing 22 = .ok (.aload_n 0, 1) := by decide +kernel
theorem dX3_countFixing_23 : decode cX3_countFixing 23 = .ok (.getfield 9, 3) := by decide +kernel
theorem dX3_countFixing_26 : decode cX3_countFixing 26 = .ok (.iload_n 2, 1) := by decide +kernel
theorem dX3_countFixing_27 : decode cX3_countFixing 27 = .ok (.laload, 1) := by decide +kernel
theorem dX3_countFixing_28 : decode cX3_countFixing 28 = .ok (.aload_n 0, 1) := by decide +kernel
theorem dX3_countFixing_29 : decode cX3_countFixing 29 = .ok (.getfield 18, 3) := by decide +kernel
theorem dX3_countFixing_32 : decode cX3_countFixing 32 = .ok (.getfield 54, 3) := by decide +kernel
theorem dX3_countFixing_35 : decode cX3_countFixing 35 = .ok (.invokevirtual 37, 3) := by decide +kernel
theorem dX3_countFixing_38 : decode cX3_countFixing 38 = .ok (.iinc 2 1, 3) := by decide +kernel
theorem dX3_countFixing_41 : decode cX3_countFixing 41 = .ok (.goto (-31), 3) := by decide +kernel
theorem dX3_countFixing_44 : decode cX3_countFixing 44 = .ok (.aload_n 0, 1) := by decide +kernel
theorem dX3_countFixing_45 : decode cX3_countFixing 45 = .ok (.getfield 22, 3) := by decide +kernel
theorem dX3_countFixing_48 : decode cX3_countFixing 48 = .ok (.iload_n 1, 1) := by decide +kernel
theorem dX3_countFixing_49 : decode cX3_countFixing 49 = .ok (.invokestatic 57, 3) := by decide +kernel
theorem dX3_countFixing_52 : decode cX3_countFixing 52 = .ok (.invokevirtual 63, 3) := by decide +kernel
theorem dX3_countFixing_55 : decode cX3_countFixing 55 = .ok (.ireturn, 1) := by decide +kernel
set_option maxRecDepth 20000 in
theorem ggX3_countFixing_X1_restart : GoodIn wsX3_countFixing wsX1_restart := goodIn_r _ [8, 9, 10, 11, 12, 13, 14, 15, 16, 17, 18, 19, 20, 21, 22, 23, 24, 25, 26, 27, 28, 65, 66, 67, 68, 69, 70] (by decide +kernel) (by decide +kernel)
set_option maxRecDepth 20000 in
theorem gX3_countFixing_X1_restart_n32 : GoodIn wsX3_countFixing (wsX1_restart) := ggX3_countFixing_X1_restart
set_option maxRecDepth 20000 in
theorem ggX3_countFixing_X1_add : GoodIn wsX3_countFixing wsX1_add := goodIn_r _ [31, 10, 9, 14, 32, 33, 34, 35, 6, 36, 13, 12, 11, 37, 38, 39, 40, 41, 42, 43, 44, 45, 46, 47, 48, 49, 50, 51, 52, 53, 54, 55, 56, 57, 58, 59, 65, 66, 67, 68, 69, 70] (by decide +kernel) (by decide +kernel)
set_option maxRecDepth 20000 in
theorem gX3_countFixing_X1_add_n37 : GoodIn wsX3_countFixing (wsX1_add) := ggX3_countFixing_X1_add
set_option maxRecDepth 20000 in
theorem ggX3_countFixing_J6_bitCount_0f7a4 : GoodIn wsX3_countFixing wsJ6_bitCount_0f7a4 := goodIn_r _ [22, 23, 24, 25] (by decide +kernel) (by decide +kernel)
set_option maxRecDepth 20000 in
theorem gX3_countFixing_J6_bitCount_0f7a4 : GoodIn wsX3_countFixing (va_wsS RX3 57 yJ6_bitCount_0f7a4 wsJ6_bitCount_0f7a4) := goodIn_app (goodIn_of _ (by decide +kernel)) ggX3_countFixing_J6_bitCount_0f7a4
set_option maxRecDepth 20000 in
theorem ggX3_countFixing_X1_countFrom : GoodIn wsX3_countFixing wsX1_countFrom := goodIn_r _ [59, 11, 65, 66, 67, 68, 69, 70] (by decide +kernel) (by decide +kernel)
set_option maxRecDepth 20000 in
theorem gX3_countFixing_X1_countFrom_n63 : GoodIn wsX3_countFixing (wsX1_countFrom) := ggX3_countFixing_X1_countFrom
theorem in_X3_countFixing_Group : ∀ w ∈ u_ws RX3 TX3 4, w ∈ wsX3_countFixing := by decide +kernel
theorem wd_X3_countFixing_1 : Cond.fieldLink RX3 22 (TX3 3).1 (TX3 3).2.1 (TX3 3).2.2.1 ∈ wsX3_countFixing := by decide +kernel
theorem wd_X3_countFixing_2 : Cond.initialized yX1_restart.cls ∈ wsX3_countFixing := by decide +kernel
theorem wd_X3_countFixing_3 : Cond.instanceMethod yX1_restart ∈ wsX3_countFixing := by decide +kernel
theorem wd_X3_countFixing_4 : Cond.selects RX1 yX1_restart yX1_restart ∈ wsX3_countFixing := by decide +kernel
theorem wd_X3_countFixing_5 : Cond.fieldLink RX3 28 (TX3 0).1 (TX3 0).2.1 (TX3 0).2.2.1 ∈ wsX3_countFixing := by decide +kernel
theorem wd_X3_countFixing_6 : Cond.initialized yX1_countFrom.cls ∈ wsX3_countFixing := by decide +kernel
theorem wd_X3_countFixing_7 : Cond.instanceMethod yX1_countFrom ∈ wsX3_countFixing := by decide +kernel
theorem wd_X3_countFixing_8 : Cond.selects RX1 yX1_countFrom yX1_countFrom ∈ wsX3_countFixing := by decide +kernel
theorem wd_X3_countFixing_9 : Cond.fieldLink RX3 9 (TX3 1).1 (TX3 1).2.1 (TX3 1).2.2.1 ∈ wsX3_countFixing := by decide +kernel
theorem wd_X3_countFixing_10 : Cond.fieldLink RX3 18 (TX3 2).1 (TX3 2).2.1 (TX3 2).2.2.1 ∈ wsX3_countFixing := by decide +kernel
theorem in_X3_countFixing_Chain : ∀ w ∈ u_ws RX1 TX1 6, w ∈ wsX3_countFixing := by decide +kernel
theorem wd_X3_countFixing_12 : Cond.initialized yX1_add.cls ∈ wsX3_countFixing := by decide +kernel
theorem wd_X3_countFixing_13 : Cond.instanceMethod yX1_add ∈ wsX3_countFixing := by decide +kernel
theorem wd_X3_countFixing_14 : Cond.selects RX1 yX1_add yX1_add ∈ wsX3_countFixing := by decide +kernel
def r_X3_countFixing : Room := { frames := 6, cells := 0, slots := 0, locals := 139 }
set_option maxRecDepth 100000 in
set_option maxHeartbeats 4000000 in
theorem w_X3_countFixing_10 {K : zK} (hk : zIs K RX3 cX3_countFixing 3 wsX3_countFixing (some .int) r_X3_countFixing) {r0 : Int32} {τ0 : zST} (hq : zQ K (some (.int r0)) τ0) (F : Nat) : ∀ (n : Nat) (a0 : Nat) (a1 : Int32) (a2 : Int32) (ha0 : atGroup (kZ K) a0) (σ : zST), m_X3_countFixing_10 F n a0 a1 a2 σ = some (r0, τ0) → Z K 0 0 10 [(0, .ref (eA (kZ K) a0)), (1, .int a1), (2, .int a2)] [] σ := by
  intro n
  induction n with
  | zero => intro a0 a1 a2 ha0 σ h; cases h
  | succ n ih =>
    intro a0 a1 a2 ha0 σ h
    rw [m_X3_countFixing_10] at h
    refine Z_iload_n hk 2 dX3_countFixing_10 rfl rfl ?_
    refine Z_aload_n hk 0 dX3_countFixing_11 rfl rfl ?_
    refine Z_get hk in_X3_countFixing_Group rfl ha0.cell.1 (ha0.cell.2 _) 0 (by decide) wd_X3_countFixing_5 rfl dX3_countFixing_12 ?_
    refine Z_icmp_ge hk (tgt := 44) dX3_countFixing_15 (by decide) (fun c4 => ?_) (fun c4 => ?_)
    · have h := if_yes h c4
      refine Z_aload_n hk 0 dX3_countFixing_44 rfl rfl ?_
      refine Z_get hk in_X3_countFixing_Group rfl ha0.cell.1 (ha0.cell.2 _) 3 (by decide) wd_X3_countFixing_1 rfl dX3_countFixing_45 ?_
      refine Z_iload_n hk 1 dX3_countFixing_48 rfl rfl ?_
      obtain ⟨x5, s6, h7, h⟩ := bd_ok h
      refine Z_callT 1 hk [.int a1] (c_J6_bitCount_0f7a4 hk.loc hk.inj F a1 σ h7) gX3_countFixing_J6_bitCount_0f7a4 rfl ⟨rfl, rfl⟩ (by decide +kernel) ⟨Nat.le_of_ble_eq_true rfl, Nat.le_of_ble_eq_true rfl⟩ rfl rfl (Nat.le_of_ble_eq_true rfl) ⟨Nat.zero_le _, Nat.zero_le _⟩ dX3_countFixing_49 ?_
      show Z K 0 0 52 [(0, .ref (eA (kZ K) a0)), (1, .int a1), (2, .int a2)] [.int x5, .ref (eA (kZ K) (a0 + 6))] s6
      obtain ⟨x8, s9, h10, h⟩ := bd_ok h
      refine Z_callVN 1 hk (C := RX1) [.int x5] (c_X1_countFrom hk.loc hk.inj F (a0 + 6) x5 (ha0.fixingChain) s6 h10) gX3_countFixing_X1_countFrom_n63 nw_15 rfl ⟨rfl, rfl⟩ ⟨wd_X3_countFixing_6, wd_X3_countFixing_7, wd_X3_countFixing_8⟩ (by decide +kernel) ⟨Nat.le_of_ble_eq_true rfl, Nat.le_of_ble_eq_true rfl⟩ (ha0.fixingChain).cell.1 ((ha0.fixingChain).cell.2 _) rfl rfl rfl (Nat.le_of_ble_eq_true rfl) ⟨Nat.zero_le _, Nat.zero_le _⟩ dX3_countFixing_52 ?_
      show Z K 0 0 55 [(0, .ref (eA (kZ K) a0)), (1, .int a1), (2, .int a2)] [.int x8] s9
      cases h
      exact Z_iret hk hq dX3_countFixing_55
    · have h := if_no h c4
      refine Z_aload_n hk 0 dX3_countFixing_18 rfl rfl ?_
      refine Z_get hk in_X3_countFixing_Group rfl ha0.cell.1 (ha0.cell.2 _) 3 (by decide) wd_X3_countFixing_1 rfl dX3_countFixing_19 ?_
      refine Z_aload_n hk 0 dX3_countFixing_22 rfl rfl ?_
      refine Z_get hk in_X3_countFixing_Group rfl ha0.cell.1 (ha0.cell.2 _) 1 (by decide) wd_X3_countFixing_9 rfl dX3_countFixing_23 ?_
      refine Z_iload_n hk 2 dX3_countFixing_26 rfl rfl ?_
      obtain ⟨i13, x11, e12, h⟩ := ldL_get h
      refine Z_lald hk (ha0.generators) i13 dX3_countFixing_27 ?_
      refine Z_eqL e12 ?_
      refine Z_aload_n hk 0 dX3_countFixing_28 rfl rfl ?_
      refine Z_get hk in_X3_countFixing_Group rfl ha0.cell.1 (ha0.cell.2 _) 2 (by decide) wd_X3_countFixing_10 rfl dX3_countFixing_29 ?_
      refine Z_getN hk in_X3_countFixing_Chain rfl (ha0.chain).cell.1 ((ha0.chain).cell.2 _) 0 (by decide) nw_16 rfl dX3_countFixing_32 ?_
      obtain ⟨s15, h16, h⟩ := bv_ok h
      refine Z_callVN 2 hk (C := RX1) [.long x11, .int (gI σ (a0 + 2) 0)] (c_X1_add hk.loc hk.inj F (a0 + 6) x11 (gI σ (a0 + 2) 0) (ha0.fixingChain) σ h16) gX3_countFixing_X1_add_n37 nw_12 rfl ⟨rfl, rfl⟩ ⟨wd_X3_countFixing_12, wd_X3_countFixing_13, wd_X3_countFixing_14⟩ (by decide +kernel) ⟨Nat.le_of_ble_eq_true rfl, Nat.le_of_ble_eq_true rfl⟩ (ha0.fixingChain).cell.1 ((ha0.fixingChain).cell.2 _) rfl rfl rfl (Nat.le_of_ble_eq_true rfl) ⟨Nat.zero_le _, Nat.zero_le _⟩ dX3_countFixing_35 ?_
      show Z K 0 0 38 [(0, .ref (eA (kZ K) a0)), (1, .int a1), (2, .int a2)] [] s15
      obtain ⟨x17, e18, h⟩ := nm_get h
      refine Z_iinc hk 2 (v := x17) (lv' := [(2, .int x17), (0, .ref (eA (kZ K) a0)), (1, .int a1)]) dX3_countFixing_38 rfl (by rw [zc_iinc_1]; exact e18) (by decide) rfl ?_
      refine Z_goto hk (tgt := 10) dX3_countFixing_41 (by decide) ?_
      refine Z_sub [1, 2, 0] rfl ?_
      exact ih a0 a1 x17 ha0 s15 h
set_option maxRecDepth 100000 in
set_option maxHeartbeats 4000000 in
theorem w_X3_countFixing {K : zK} (hk : zIs K RX3 cX3_countFixing 3 wsX3_countFixing (some .int) r_X3_countFixing) {r0 : Int32} {τ0 : zST} (hq : zQ K (some (.int r0)) τ0) (F : Nat) (a0 : Nat) (a1 : Int32) (ha0 : atGroup (kZ K) a0) (σ : zST) (h : m_X3_countFixing F a0 a1 σ = some (r0, τ0)) : Z K 0 0 0 [(0, .ref (eA (kZ K) a0)), (1, .int a1)] [] σ := by
  unfold m_X3_countFixing at h
  refine Z_aload_n hk 0 dX3_countFixing_0 rfl rfl ?_
  refine Z_get hk in_X3_countFixing_Group rfl ha0.cell.1 (ha0.cell.2 _) 3 (by decide) wd_X3_countFixing_1 rfl dX3_countFixing_1 ?_
  refine Z_iload_n hk 1 dX3_countFixing_4 rfl rfl ?_
  obtain ⟨s2, h3, h⟩ := bv_ok h
  refine Z_callVN 1 hk (C := RX1) [.int a1] (c_X1_restart hk.loc hk.inj F (a0 + 6) a1 (ha0.fixingChain) σ h3) gX3_countFixing_X1_restart_n32 nw_11 rfl ⟨rfl, rfl⟩ ⟨wd_X3_countFixing_2, wd_X3_countFixing_3, wd_X3_countFixing_4⟩ (by decide +kernel) ⟨Nat.le_of_ble_eq_true rfl, Nat.le_of_ble_eq_true rfl⟩ (ha0.fixingChain).cell.1 ((ha0.fixingChain).cell.2 _) rfl rfl rfl (Nat.le_of_ble_eq_true rfl) ⟨Nat.zero_le _, Nat.zero_le _⟩ dX3_countFixing_5 ?_
  show Z K 0 0 8 [(0, .ref (eA (kZ K) a0)), (1, .int a1)] [] s2
  refine Z_iconst hk dX3_countFixing_8 zc_iconst_0 ?_
  refine Z_istore_n hk (lv' := [(2, .int 0), (0, .ref (eA (kZ K) a0)), (1, .int a1)]) dX3_countFixing_9 rfl (by decide) rfl ?_
  refine Z_sub [1, 2, 0] rfl ?_
  exact w_X3_countFixing_10 hk hq F F a0 a1 0 ha0 s2 h
theorem c_X3_countFixing {l : Launch} {E : zE} (hL : eL E) (hJ : eJ E) (F : Nat) (a0 : Nat) (a1 : Int32) (ha0 : atGroup E a0) (σ : zST) {r0 : Int32} {τ0 : zST} (h : m_X3_countFixing F a0 a1 σ = some (r0, τ0)) : Ct l yX3_countFixing wsX3_countFixing r_X3_countFixing E [.ref (eA E a0), .int a1] σ (some (.int r0)) τ0 := by
  refine Ct_of (by decide) rfl hL hJ (Nat.le_of_ble_eq_true rfl) (fun K hE hl hk hq => ?_)
  subst hE
  exact w_X3_countFixing hk hq F a0 a1 ha0 σ h
end

-- CanonCote$Permutation.isOne (J)Z
section
theorem dX5_isOne_0 : decode cX5_isOne 0 = .ok (.lload_n 0, 1) := by decide +kernel
theorem dX5_isOne_1 : decode cX5_isOne 1 = .ok (.bipush 32, 2) := by decide +kernel
theorem dX5_isOne_3 : decode cX5_isOne 3 = .ok (.lushr, 1) := by decide +kernel
theorem dX5_isOne_4 : decode cX5_isOne 4 = .ok (.lconst 0, 1) := by decide +kernel
theorem dX5_isOne_5 : decode cX5_isOne 5 = .ok (.lcmp, 1) := by decide +kernel
theorem dX5_isOne_6 : decode cX5_isOne 6 = .ok (.ifCond .eq 5, 3) := by decide +kernel
theorem dX5_isOne_9 : decode cX5_isOne 9 = .ok (.iconst 0, 1) := by decide +kernel
theorem dX5_isOne_10 : decode cX5_isOne 10 = .ok (.ireturn, 1) := by decide +kernel
theorem dX5_isOne_11 : decode cX5_isOne 11 = .ok (.iconst 0, 1) := by decide +kernel
theorem dX5_isOne_12 : decode cX5_isOne 12 = .ok (.istore_n 2, 1) := by decide +kernel
theorem dX5_isOne_13 : decode cX5_isOne 13 = .ok (.iconst 0, 1) := by decide +kernel
theorem dX5_isOne_14 : decode cX5_isOne 14 = .ok (.istore_n 3, 1) := by decide +kernel
theorem dX5_isOne_15 : decode cX5_isOne 15 = .ok (.iload_n 3, 1) := by decide +kernel
theorem dX5_isOne_16 : decode cX5_isOne 16 = .ok (.bipush 8, 2) := by decide +kernel
theorem dX5_isOne_18 : decode cX5_isOne 18 = .ok (.if_icmp .ge 24, 3) := by decide +kernel
theorem dX5_isOne_21 : decode cX5_isOne 21 = .ok (.iload_n 2, 1) := by decide +kernel
theorem dX5_isOne_22 : decode cX5_isOne 22 = .ok (.iconst 1, 1) := by decide +kernel
theorem dX5_isOne_23 : decode cX5_isOne 23 = .ok (.lload_n 0, 1) := by decide +kernel
theorem dX5_isOne_24 : decode cX5_isOne 24 = .ok (.iconst 4, 1) := by decide +kernel
theorem dX5_isOne_25 : decode cX5_isOne 25 = .ok (.iload_n 3, 1) := by decide +kernel
theorem dX5_isOne_26 : decode cX5_isOne 26 = .ok (.imul, 1) := by decide +kernel
theorem dX5_isOne_27 : decode cX5_isOne 27 = .ok (.lshr, 1) := by decide +kernel
theorem dX5_isOne_28 : decode cX5_isOne 28 = .ok (.ldc2_w 11, 3) := by decide +kernel
theorem dX5_isOne_31 : decode cX5_isOne 31 = .ok (.land, 1) := by decide +kernel
theorem dX5_isOne_32 : decode cX5_isOne 32 = .ok (.l2i, 1) := by decide +kernel
theorem dX5_isOne_33 : decode cX5_isOne 33 = .ok (.ishl, 1) := by decide +kernel
theorem dX5_isOne_34 : decode cX5_isOne 34 = .ok (.ior, 1) := by decide +kernel
theorem dX5_isOne_35 : decode cX5_isOne 35 = .ok (.istore_n 2, 1) := by decide +kernel
theorem dX5_isOne_36 : decode cX5_isOne 36 = .ok (.iinc 3 1, 3) := by decide +kernel
theorem dX5_isOne_39 : decode cX5_isOne 39 = .ok (.goto (-24), 3) := by decide +kernel
theorem dX5_isOne_42 : decode cX5_isOne 42 = .ok (.iload_n 2, 1) := by decide +kernel
theorem dX5_isOne_43 : decode cX5_isOne 43 = .ok (.sipush 255, 3) := by decide +kernel
theorem dX5_isOne_46 : decode cX5_isOne 46 = .ok (.if_icmp .ne 7, 3) := by decide +kernel
theorem dX5_isOne_49 : decode cX5_isOne 49 = .ok (.iconst 1, 1) := by decide +kernel
theorem dX5_isOne_50 : decode cX5_isOne 50 = .ok (.goto 4, 3) := by decide +kernel
theorem dX5_isOne_53 : decode cX5_isOne 53 = .ok (.iconst 0, 1) := by decide +kernel
theorem dX5_isOne_54 : decode cX5_isOne 54 = .ok (.ireturn, 1) := by decide +kernel
theorem wd_X5_isOne_0 : Cond.constantLong RX5 11 15 ∈ wsX5_isOne := by decide +kernel
def r_X5_isOne : Room := { frames := 1, cells := 0, slots := 0, locals := 12 }
set_option maxRecDepth 100000 in
set_option maxHeartbeats 4000000 in
theorem w_X5_isOne_15 {K : zK} (hk : zIs K RX5 cX5_isOne 4 wsX5_isOne (some .boolean) r_X5_isOne) {r0 : Int32} {τ0 : zST} (hq : zQ K (some (.int r0)) τ0) (F : Nat) : ∀ (n : Nat) (a0 : Int64) (a2 : Int32) (a3 : Int32) (σ : zST), m_X5_isOne_15 F n a0 a2 a3 σ = some (r0, τ0) → Z K 0 0 15 [(0, .long a0), (2, .int a2), (3, .int a3)] [] σ := by
  intro n
  induction n with
  | zero => intro a0 a2 a3 σ h; cases h
  | succ n ih =>
    intro a0 a2 a3 σ h
    rw [m_X5_isOne_15] at h
    refine Z_iload_n hk 2 dX5_isOne_15 rfl rfl ?_
    refine Z_bipush hk dX5_isOne_16 zc_bipush_8 ?_
    refine Z_icmp_ge hk (tgt := 42) dX5_isOne_18 (by decide) (fun c2 => ?_) (fun c2 => ?_)
    · have h := if_yes h c2
      refine Z_iload_n hk 1 dX5_isOne_42 rfl rfl ?_
      refine Z_sipush hk dX5_isOne_43 zc_sipush_255 ?_
      refine Z_icmp_ne hk (tgt := 53) dX5_isOne_46 (by decide) (fun c3 => ?_) (fun c3 => ?_)
      · have h := if_yes h c3
        refine Z_iconst hk dX5_isOne_49 zc_iconst_1 ?_
        refine Z_goto hk (tgt := 54) dX5_isOne_50 (by decide) ?_
        cases h
        exact Z_zret hk (by decide) hq dX5_isOne_54
      · have h := if_no h c3
        refine Z_iconst hk dX5_isOne_53 zc_iconst_0 ?_
        cases h
        exact Z_zret hk (by decide) hq dX5_isOne_54
    · have h := if_no h c2
      refine Z_iload_n hk 1 dX5_isOne_21 rfl rfl ?_
      refine Z_iconst hk dX5_isOne_22 zc_iconst_1 ?_
      refine Z_lload_n hk 0 dX5_isOne_23 rfl rfl ?_
      refine Z_iconst hk dX5_isOne_24 zc_iconst_4 ?_
      refine Z_iload_n hk 2 dX5_isOne_25 rfl rfl ?_
      refine Z_imul hk dX5_isOne_26 ?_
      refine Z_lshr hk dX5_isOne_27 ?_
      refine Z_ldc2 hk (v := 15) dX5_isOne_28 wd_X5_isOne_0 ?_
      refine Z_land hk dX5_isOne_31 ?_
      refine Z_l2i hk dX5_isOne_32 ?_
      refine Z_ishl hk dX5_isOne_33 ?_
      refine Z_ior hk dX5_isOne_34 ?_
      obtain ⟨x4, e5, h⟩ := nm_get h
      refine Z_eqI e5 ?_
      refine Z_istore_n hk (lv' := [(2, .int x4), (0, .long a0), (3, .int a3)]) dX5_isOne_35 rfl (by decide) rfl ?_
      obtain ⟨x6, e7, h⟩ := nm_get h
      refine Z_iinc hk 2 (v := x6) (lv' := [(3, .int x6), (2, .int x4), (0, .long a0)]) dX5_isOne_36 rfl (by rw [zc_iinc_1]; exact e7) (by decide) rfl ?_
      refine Z_goto hk (tgt := 15) dX5_isOne_39 (by decide) ?_
      refine Z_sub [2, 1, 0] rfl ?_
      exact ih a0 x4 x6 σ h
set_option maxRecDepth 100000 in
set_option maxHeartbeats 4000000 in
theorem w_X5_isOne {K : zK} (hk : zIs K RX5 cX5_isOne 4 wsX5_isOne (some .boolean) r_X5_isOne) {r0 : Int32} {τ0 : zST} (hq : zQ K (some (.int r0)) τ0) (F : Nat) (a0 : Int64) (σ : zST) (h : m_X5_isOne F a0 σ = some (r0, τ0)) : Z K 0 0 0 [(0, .long a0)] [] σ := by
  unfold m_X5_isOne at h
  refine Z_lload_n hk 0 dX5_isOne_0 rfl rfl ?_
  refine Z_bipush hk dX5_isOne_1 zc_bipush_32 ?_
  refine Z_lushr hk dX5_isOne_3 ?_
  refine Z_lconst hk dX5_isOne_4 (v := 0) rfl ?_
  refine Z_lcmp hk dX5_isOne_5 ?_
  refine Z_if_eq hk (tgt := 11) dX5_isOne_6 (by decide) (fun c1 => ?_) (fun c1 => ?_)
  · have h := if_yes h c1
    refine Z_iconst hk dX5_isOne_11 zc_iconst_0 ?_
    refine Z_istore_n hk (lv' := [(2, .int 0), (0, .long a0)]) dX5_isOne_12 rfl (by decide) rfl ?_
    refine Z_iconst hk dX5_isOne_13 zc_iconst_0 ?_
    refine Z_istore_n hk (lv' := [(3, .int 0), (2, .int 0), (0, .long a0)]) dX5_isOne_14 rfl (by decide) rfl ?_
    refine Z_sub [2, 1, 0] rfl ?_
    exact w_X5_isOne_15 hk hq F F a0 0 0 σ h
  · have h := if_no h c1
    refine Z_iconst hk dX5_isOne_9 zc_iconst_0 ?_
    cases h
    exact Z_zret hk (by decide) hq dX5_isOne_10
theorem c_X5_isOne {l : Launch} {E : zE} (hL : eL E) (hJ : eJ E) (F : Nat) (a0 : Int64) (σ : zST) {r0 : Int32} {τ0 : zST} (h : m_X5_isOne F a0 σ = some (r0, τ0)) : Ct l yX5_isOne wsX5_isOne r_X5_isOne E [.long a0] σ (some (.int r0)) τ0 := by
  refine Ct_of (by decide) rfl hL hJ (Nat.le_of_ble_eq_true rfl) (fun K hE hl hk hq => ?_)
  subst hE
  exact w_X5_isOne hk hq F a0 σ h
end
