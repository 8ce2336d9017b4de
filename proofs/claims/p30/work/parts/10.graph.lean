-- CanonCote$Graph.areTwins (II)Z
section
theorem dX2_areTwins_0 : decode cX2_areTwins 0 = .ok (.iconst 1, 1) := by decide +kernel
theorem dX2_areTwins_1 : decode cX2_areTwins 1 = .ok (.iload_n 1, 1) := by decide +kernel
theorem dX2_areTwins_2 : decode cX2_areTwins 2 = .ok (.ishl, 1) := by decide +kernel
theorem dX2_areTwins_3 : decode cX2_areTwins 3 = .ok (.iconst 1, 1) := by decide +kernel
theorem dX2_areTwins_4 : decode cX2_areTwins 4 = .ok (.iload_n 2, 1) := by decide +kernel
theorem dX2_areTwins_5 : decode cX2_areTwins 5 = .ok (.ishl, 1) := by decide +kernel
theorem dX2_areTwins_6 : decode cX2_areTwins 6 = .ok (.ior, 1) := by decide +kernel
theorem dX2_areTwins_7 : decode cX2_areTwins 7 = .ok (.istore_n 3, 1) := by decide +kernel
theorem dX2_areTwins_8 : decode cX2_areTwins 8 = .ok (.aload_n 0, 1) := by decide +kernel
theorem dX2_areTwins_9 : decode cX2_areTwins 9 = .ok (.getfield 19, 3) := by decide +kernel
theorem dX2_areTwins_12 : decode cX2_areTwins 12 = .ok (.iload_n 1, 1) := by decide +kernel
theorem dX2_areTwins_13 : decode cX2_areTwins 13 = .ok (.iaload, 1) := by decide +kernel
theorem dX2_areTwins_14 : decode cX2_areTwins 14 = .ok (.aload_n 0, 1) := by decide +kernel
theorem dX2_areTwins_15 : decode cX2_areTwins 15 = .ok (.getfield 19, 3) := by decide +kernel
theorem dX2_areTwins_18 : decode cX2_areTwins 18 = .ok (.iload_n 2, 1) := by decide +kernel
theorem dX2_areTwins_19 : decode cX2_areTwins 19 = .ok (.iaload, 1) := by decide +kernel
theorem dX2_areTwins_20 : decode cX2_areTwins 20 = .ok (.if_icmp .ne 26, 3) := by decide +kernel
theorem dX2_areTwins_23 : decode cX2_areTwins 23 = .ok (.aload_n 0, 1) := by decide +kernel
theorem dX2_areTwins_24 : decode cX2_areTwins 24 = .ok (.getfield 15, 3) := by decide +kernel
theorem dX2_areTwins_27 : decode cX2_areTwins 27 = .ok (.iload_n 1, 1) := by decide +kernel
theorem dX2_areTwins_28 : decode cX2_areTwins 28 = .ok (.iaload, 1) := by decide +kernel
theorem dX2_areTwins_29 : decode cX2_areTwins 29 = .ok (.iload_n 3, 1) := by decide +kernel
theorem dX2_areTwins_30 : decode cX2_areTwins 30 = .ok (.ior, 1) := by decide +kernel
theorem dX2_areTwins_31 : decode cX2_areTwins 31 = .ok (.aload_n 0, 1) := by decide +kernel
theorem dX2_areTwins_32 : decode cX2_areTwins 32 = .ok (.getfield 15, 3) := by decide +kernel
theorem dX2_areTwins_35 : decode cX2_areTwins 35 = .ok (.iload_n 2, 1) := by decide +kernel
theorem dX2_areTwins_36 : decode cX2_areTwins 36 = .ok (.iaload, 1) := by decide +kernel
theorem dX2_areTwins_37 : decode cX2_areTwins 37 = .ok (.iload_n 3, 1) := by decide +kernel
theorem dX2_areTwins_38 : decode cX2_areTwins 38 = .ok (.ior, 1) := by decide +kernel
theorem dX2_areTwins_39 : decode cX2_areTwins 39 = .ok (.if_icmp .ne 7, 3) := by decide +kernel
theorem dX2_areTwins_42 : decode cX2_areTwins 42 = .ok (.iconst 1, 1) := by decide +kernel
theorem dX2_areTwins_43 : decode cX2_areTwins 43 = .ok (.goto 4, 3) := by decide +kernel
theorem dX2_areTwins_46 : decode cX2_areTwins 46 = .ok (.iconst 0, 1) := by decide +kernel
theorem dX2_areTwins_47 : decode cX2_areTwins 47 = .ok (.ireturn, 1) := by decide +kernel
theorem in_X2_areTwins_Graph : ∀ w ∈ u_ws RX2 TX2 3, w ∈ wsX2_areTwins := by decide +kernel
theorem wd_X2_areTwins_1 : Cond.fieldLink RX2 19 (TX2 2).1 (TX2 2).2.1 (TX2 2).2.2.1 ∈ wsX2_areTwins := by decide +kernel
theorem wd_X2_areTwins_2 : Cond.fieldLink RX2 15 (TX2 1).1 (TX2 1).2.1 (TX2 1).2.2.1 ∈ wsX2_areTwins := by decide +kernel
def r_X2_areTwins : Room := { frames := 1, cells := 0, slots := 0, locals := 12 }
set_option maxRecDepth 100000 in
set_option maxHeartbeats 4000000 in
theorem w_X2_areTwins_46 {K : zK} (hk : zIs K RX2 cX2_areTwins 4 wsX2_areTwins (some .boolean) r_X2_areTwins) {r0 : Int32} {τ0 : zST} (hq : zQ K (some (.int r0)) τ0) (F : Nat)  (σ : zST) (h : m_X2_areTwins_46 F σ = some (r0, τ0)) : Z K 0 0 46 [] [] σ := by
  unfold m_X2_areTwins_46 at h
  refine Z_iconst hk dX2_areTwins_46 zc_iconst_0 ?_
  cases h
  exact Z_zret hk (by decide) hq dX2_areTwins_47
set_option maxRecDepth 100000 in
set_option maxHeartbeats 4000000 in
theorem w_X2_areTwins {K : zK} (hk : zIs K RX2 cX2_areTwins 4 wsX2_areTwins (some .boolean) r_X2_areTwins) {r0 : Int32} {τ0 : zST} (hq : zQ K (some (.int r0)) τ0) (F : Nat) (a0 : Nat) (a1 : Int32) (a2 : Int32) (ha0 : atGraph (kZ K) a0) (σ : zST) (h : m_X2_areTwins F a0 a1 a2 σ = some (r0, τ0)) : Z K 0 0 0 [(0, .ref (eA (kZ K) a0)), (1, .int a1), (2, .int a2)] [] σ := by
  unfold m_X2_areTwins at h
  refine Z_iconst hk dX2_areTwins_0 zc_iconst_1 ?_
  refine Z_iload_n hk 1 dX2_areTwins_1 rfl rfl ?_
  refine Z_ishl hk dX2_areTwins_2 ?_
  refine Z_iconst hk dX2_areTwins_3 zc_iconst_1 ?_
  refine Z_iload_n hk 2 dX2_areTwins_4 rfl rfl ?_
  refine Z_ishl hk dX2_areTwins_5 ?_
  refine Z_ior hk dX2_areTwins_6 ?_
  obtain ⟨x1, e2, h⟩ := nm_get h
  refine Z_eqI e2 ?_
  refine Z_istore_n hk (lv' := [(3, .int x1), (0, .ref (eA (kZ K) a0)), (1, .int a1), (2, .int a2)]) dX2_areTwins_7 rfl (by decide) rfl ?_
  refine Z_aload_n hk 1 dX2_areTwins_8 rfl rfl ?_
  refine Z_get hk in_X2_areTwins_Graph rfl ha0.cell.1 (ha0.cell.2 _) 2 (by decide) wd_X2_areTwins_1 rfl dX2_areTwins_9 ?_
  refine Z_iload_n hk 2 dX2_areTwins_12 rfl rfl ?_
  obtain ⟨i5, x3, e4, h⟩ := ldI_get h
  refine Z_iald hk (ha0.colours) i5 dX2_areTwins_13 ?_
  refine Z_eqI e4 ?_
  refine Z_aload_n hk 1 dX2_areTwins_14 rfl rfl ?_
  refine Z_get hk in_X2_areTwins_Graph rfl ha0.cell.1 (ha0.cell.2 _) 2 (by decide) wd_X2_areTwins_1 rfl dX2_areTwins_15 ?_
  refine Z_iload_n hk 3 dX2_areTwins_18 rfl rfl ?_
  obtain ⟨i8, x6, e7, h⟩ := ldI_get h
  refine Z_iald hk (ha0.colours) i8 dX2_areTwins_19 ?_
  refine Z_eqI e7 ?_
  refine Z_icmp_ne hk (tgt := 46) dX2_areTwins_20 (by decide) (fun c9 => ?_) (fun c9 => ?_)
  · have h := if_yes h c9
    refine Z_aload_n hk 1 dX2_areTwins_23 rfl rfl ?_
    refine Z_get hk in_X2_areTwins_Graph rfl ha0.cell.1 (ha0.cell.2 _) 1 (by decide) wd_X2_areTwins_2 rfl dX2_areTwins_24 ?_
    refine Z_iload_n hk 2 dX2_areTwins_27 rfl rfl ?_
    obtain ⟨i12, x10, e11, h⟩ := ldI_get h
    refine Z_iald hk (ha0.near) i12 dX2_areTwins_28 ?_
    refine Z_eqI e11 ?_
    refine Z_iload_n hk 0 dX2_areTwins_29 rfl rfl ?_
    refine Z_ior hk dX2_areTwins_30 ?_
    refine Z_aload_n hk 1 dX2_areTwins_31 rfl rfl ?_
    refine Z_get hk in_X2_areTwins_Graph rfl ha0.cell.1 (ha0.cell.2 _) 1 (by decide) wd_X2_areTwins_2 rfl dX2_areTwins_32 ?_
    refine Z_iload_n hk 3 dX2_areTwins_35 rfl rfl ?_
    obtain ⟨i15, x13, e14, h⟩ := ldI_get h
    refine Z_iald hk (ha0.near) i15 dX2_areTwins_36 ?_
    refine Z_eqI e14 ?_
    refine Z_iload_n hk 0 dX2_areTwins_37 rfl rfl ?_
    refine Z_ior hk dX2_areTwins_38 ?_
    refine Z_icmp_ne hk (tgt := 46) dX2_areTwins_39 (by decide) (fun c16 => ?_) (fun c16 => ?_)
    · have h := if_yes h c16
      refine Z_iconst hk dX2_areTwins_42 zc_iconst_1 ?_
      refine Z_goto hk (tgt := 47) dX2_areTwins_43 (by decide) ?_
      cases h
      exact Z_zret hk (by decide) hq dX2_areTwins_47
    · have h := if_no h c16
      refine Z_sub [] rfl ?_
      exact w_X2_areTwins_46 hk hq F σ h
  · have h := if_no h c9
    refine Z_sub [] rfl ?_
    exact w_X2_areTwins_46 hk hq F σ h
theorem c_X2_areTwins {l : Launch} {E : zE} (hL : eL E) (hJ : eJ E) (F : Nat) (a0 : Nat) (a1 : Int32) (a2 : Int32) (ha0 : atGraph E a0) (σ : zST) {r0 : Int32} {τ0 : zST} (h : m_X2_areTwins F a0 a1 a2 σ = some (r0, τ0)) : Ct l yX2_areTwins wsX2_areTwins r_X2_areTwins E [.ref (eA E a0), .int a1, .int a2] σ (some (.int r0)) τ0 := by
  refine Ct_of (by decide) rfl hL hJ (Nat.le_of_ble_eq_true rfl) (fun K hE hl hk hq => ?_)
  subst hE
  exact w_X2_areTwins hk hq F a0 a1 a2 ha0 σ h
end

-- java/lang/Integer.bitCount (I)I
section
theorem dJ6_bitCount_0f7a4_0 : decode cJ6_bitCount_0f7a4 0 = .ok (.iload_n 0, 1) := by decide +kernel
theorem dJ6_bitCount_0f7a4_1 : decode cJ6_bitCount_0f7a4 1 = .ok (.iload_n 0, 1) := by decide +kernel
theorem dJ6_bitCount_0f7a4_2 : decode cJ6_bitCount_0f7a4 2 = .ok (.iconst 1, 1) := by decide +kernel
theorem dJ6_bitCount_0f7a4_3 : decode cJ6_bitCount_0f7a4 3 = .ok (.iushr, 1) := by decide +kernel
theorem dJ6_bitCount_0f7a4_4 : decode cJ6_bitCount_0f7a4 4 = .ok (.ldc_w 265, 3) := by decide +kernel
theorem dJ6_bitCount_0f7a4_7 : decode cJ6_bitCount_0f7a4 7 = .ok (.iand, 1) := by decide +kernel
theorem dJ6_bitCount_0f7a4_8 : decode cJ6_bitCount_0f7a4 8 = .ok (.isub, 1) := by decide +kernel
theorem dJ6_bitCount_0f7a4_9 : decode cJ6_bitCount_0f7a4 9 = .ok (.istore_n 0, 1) := by decide +kernel
theorem dJ6_bitCount_0f7a4_10 : decode cJ6_bitCount_0f7a4 10 = .ok (.iload_n 0, 1) := by decide +kernel
theorem dJ6_bitCount_0f7a4_11 : decode cJ6_bitCount_0f7a4 11 = .ok (.ldc_w 266, 3) := by decide +kernel
theorem dJ6_bitCount_0f7a4_14 : decode cJ6_bitCount_0f7a4 14 = .ok (.iand, 1) := by decide +kernel
theorem dJ6_bitCount_0f7a4_15 : decode cJ6_bitCount_0f7a4 15 = .ok (.iload_n 0, 1) := by decide +kernel
theorem dJ6_bitCount_0f7a4_16 : decode cJ6_bitCount_0f7a4 16 = .ok (.iconst 2, 1) := by decide +kernel
theorem dJ6_bitCount_0f7a4_17 : decode cJ6_bitCount_0f7a4 17 = .ok (.iushr, 1) := by decide +kernel
theorem dJ6_bitCount_0f7a4_18 : decode cJ6_bitCount_0f7a4 18 = .ok (.ldc_w 266, 3) := by decide +kernel
theorem dJ6_bitCount_0f7a4_21 : decode cJ6_bitCount_0f7a4 21 = .ok (.iand, 1) := by decide +kernel
theorem dJ6_bitCount_0f7a4_22 : decode cJ6_bitCount_0f7a4 22 = .ok (.iadd, 1) := by decide +kernel
theorem dJ6_bitCount_0f7a4_23 : decode cJ6_bitCount_0f7a4 23 = .ok (.istore_n 0, 1) := by decide +kernel
theorem dJ6_bitCount_0f7a4_24 : decode cJ6_bitCount_0f7a4 24 = .ok (.iload_n 0, 1) := by decide +kernel
theorem dJ6_bitCount_0f7a4_25 : decode cJ6_bitCount_0f7a4 25 = .ok (.iload_n 0, 1) := by decide +kernel
theorem dJ6_bitCount_0f7a4_26 : decode cJ6_bitCount_0f7a4 26 = .ok (.iconst 4, 1) := by decide +kernel
theorem dJ6_bitCount_0f7a4_27 : decode cJ6_bitCount_0f7a4 27 = .ok (.iushr, 1) := by decide +kernel
theorem dJ6_bitCount_0f7a4_28 : decode cJ6_bitCount_0f7a4 28 = .ok (.iadd, 1) := by decide +kernel
theorem dJ6_bitCount_0f7a4_29 : decode cJ6_bitCount_0f7a4 29 = .ok (.ldc_w 267, 3) := by decide +kernel
theorem dJ6_bitCount_0f7a4_32 : decode cJ6_bitCount_0f7a4 32 = .ok (.iand, 1) := by decide +kernel
theorem dJ6_bitCount_0f7a4_33 : decode cJ6_bitCount_0f7a4 33 = .ok (.istore_n 0, 1) := by decide +kernel
theorem dJ6_bitCount_0f7a4_34 : decode cJ6_bitCount_0f7a4 34 = .ok (.iload_n 0, 1) := by decide +kernel
theorem dJ6_bitCount_0f7a4_35 : decode cJ6_bitCount_0f7a4 35 = .ok (.iload_n 0, 1) := by decide +kernel
theorem dJ6_bitCount_0f7a4_36 : decode cJ6_bitCount_0f7a4 36 = .ok (.bipush 8, 2) := by decide +kernel
theorem dJ6_bitCount_0f7a4_38 : decode cJ6_bitCount_0f7a4 38 = .ok (.iushr, 1) := by decide +kernel
theorem dJ6_bitCount_0f7a4_39 : decode cJ6_bitCount_0f7a4 39 = .ok (.iadd, 1) := by decide +kernel
theorem dJ6_bitCount_0f7a4_40 : decode cJ6_bitCount_0f7a4 40 = .ok (.istore_n 0, 1) := by decide +kernel
theorem dJ6_bitCount_0f7a4_41 : decode cJ6_bitCount_0f7a4 41 = .ok (.iload_n 0, 1) := by decide +kernel
theorem dJ6_bitCount_0f7a4_42 : decode cJ6_bitCount_0f7a4 42 = .ok (.iload_n 0, 1) := by decide +kernel
theorem dJ6_bitCount_0f7a4_43 : decode cJ6_bitCount_0f7a4 43 = .ok (.bipush 16, 2) := by decide +kernel
theorem dJ6_bitCount_0f7a4_45 : decode cJ6_bitCount_0f7a4 45 = .ok (.iushr, 1) := by decide +kernel
theorem dJ6_bitCount_0f7a4_46 : decode cJ6_bitCount_0f7a4 46 = .ok (.iadd, 1) := by decide +kernel
theorem dJ6_bitCount_0f7a4_47 : decode cJ6_bitCount_0f7a4 47 = .ok (.istore_n 0, 1) := by decide +kernel
theorem dJ6_bitCount_0f7a4_48 : decode cJ6_bitCount_0f7a4 48 = .ok (.iload_n 0, 1) := by decide +kernel
theorem dJ6_bitCount_0f7a4_49 : decode cJ6_bitCount_0f7a4 49 = .ok (.bipush 63, 2) := by decide +kernel
theorem dJ6_bitCount_0f7a4_51 : decode cJ6_bitCount_0f7a4 51 = .ok (.iand, 1) := by decide +kernel
theorem dJ6_bitCount_0f7a4_52 : decode cJ6_bitCount_0f7a4 52 = .ok (.ireturn, 1) := by decide +kernel
theorem wd_J6_bitCount_0f7a4_0 : Cond.constant RJ6 265 1431655765 ∈ wsJ6_bitCount_0f7a4 := by decide +kernel
theorem wd_J6_bitCount_0f7a4_1 : Cond.constant RJ6 266 858993459 ∈ wsJ6_bitCount_0f7a4 := by decide +kernel
theorem wd_J6_bitCount_0f7a4_2 : Cond.constant RJ6 267 252645135 ∈ wsJ6_bitCount_0f7a4 := by decide +kernel
def r_J6_bitCount_0f7a4 : Room := { frames := 1, cells := 0, slots := 0, locals := 12 }
set_option maxRecDepth 100000 in
set_option maxHeartbeats 4000000 in
theorem w_J6_bitCount_0f7a4 {K : zK} (hk : zIs K RJ6 cJ6_bitCount_0f7a4 1 wsJ6_bitCount_0f7a4 (some .int) r_J6_bitCount_0f7a4) {r0 : Int32} {τ0 : zST} (hq : zQ K (some (.int r0)) τ0) (F : Nat) (a0 : Int32) (σ : zST) (h : m_J6_bitCount_0f7a4 F a0 σ = some (r0, τ0)) : Z K 0 0 0 [(0, .int a0)] [] σ := by
  unfold m_J6_bitCount_0f7a4 at h
  refine Z_iload_n hk 0 dJ6_bitCount_0f7a4_0 rfl rfl ?_
  refine Z_iload_n hk 0 dJ6_bitCount_0f7a4_1 rfl rfl ?_
  refine Z_iconst hk dJ6_bitCount_0f7a4_2 zc_iconst_1 ?_
  refine Z_iushr hk dJ6_bitCount_0f7a4_3 ?_
  refine Z_ldcw hk (v := 1431655765) dJ6_bitCount_0f7a4_4 wd_J6_bitCount_0f7a4_0 ?_
  refine Z_iand hk dJ6_bitCount_0f7a4_7 ?_
  refine Z_isub hk dJ6_bitCount_0f7a4_8 ?_
  obtain ⟨x1, e2, h⟩ := nm_get h
  refine Z_eqI e2 ?_
  refine Z_istore_n hk (lv' := [(0, .int x1)]) dJ6_bitCount_0f7a4_9 rfl (by decide) rfl ?_
  refine Z_iload_n hk 0 dJ6_bitCount_0f7a4_10 rfl rfl ?_
  refine Z_ldcw hk (v := 858993459) dJ6_bitCount_0f7a4_11 wd_J6_bitCount_0f7a4_1 ?_
  refine Z_iand hk dJ6_bitCount_0f7a4_14 ?_
  refine Z_iload_n hk 0 dJ6_bitCount_0f7a4_15 rfl rfl ?_
  refine Z_iconst hk dJ6_bitCount_0f7a4_16 zc_iconst_2 ?_
  refine Z_iushr hk dJ6_bitCount_0f7a4_17 ?_
  refine Z_ldcw hk (v := 858993459) dJ6_bitCount_0f7a4_18 wd_J6_bitCount_0f7a4_1 ?_
  refine Z_iand hk dJ6_bitCount_0f7a4_21 ?_
  refine Z_iadd hk dJ6_bitCount_0f7a4_22 ?_
  obtain ⟨x3, e4, h⟩ := nm_get h
  refine Z_eqI e4 ?_
  refine Z_istore_n hk (lv' := [(0, .int x3)]) dJ6_bitCount_0f7a4_23 rfl (by decide) rfl ?_
  refine Z_iload_n hk 0 dJ6_bitCount_0f7a4_24 rfl rfl ?_
  refine Z_iload_n hk 0 dJ6_bitCount_0f7a4_25 rfl rfl ?_
  refine Z_iconst hk dJ6_bitCount_0f7a4_26 zc_iconst_4 ?_
  refine Z_iushr hk dJ6_bitCount_0f7a4_27 ?_
  refine Z_iadd hk dJ6_bitCount_0f7a4_28 ?_
  refine Z_ldcw hk (v := 252645135) dJ6_bitCount_0f7a4_29 wd_J6_bitCount_0f7a4_2 ?_
  refine Z_iand hk dJ6_bitCount_0f7a4_32 ?_
  obtain ⟨x5, e6, h⟩ := nm_get h
  refine Z_eqI e6 ?_
  refine Z_istore_n hk (lv' := [(0, .int x5)]) dJ6_bitCount_0f7a4_33 rfl (by decide) rfl ?_
  refine Z_iload_n hk 0 dJ6_bitCount_0f7a4_34 rfl rfl ?_
  refine Z_iload_n hk 0 dJ6_bitCount_0f7a4_35 rfl rfl ?_
  refine Z_bipush hk dJ6_bitCount_0f7a4_36 zc_bipush_8 ?_
  refine Z_iushr hk dJ6_bitCount_0f7a4_38 ?_
  refine Z_iadd hk dJ6_bitCount_0f7a4_39 ?_
  obtain ⟨x7, e8, h⟩ := nm_get h
  refine Z_eqI e8 ?_
  refine Z_istore_n hk (lv' := [(0, .int x7)]) dJ6_bitCount_0f7a4_40 rfl (by decide) rfl ?_
  refine Z_iload_n hk 0 dJ6_bitCount_0f7a4_41 rfl rfl ?_
  refine Z_iload_n hk 0 dJ6_bitCount_0f7a4_42 rfl rfl ?_
  refine Z_bipush hk dJ6_bitCount_0f7a4_43 zc_bipush_16 ?_
  refine Z_iushr hk dJ6_bitCount_0f7a4_45 ?_
  refine Z_iadd hk dJ6_bitCount_0f7a4_46 ?_
  obtain ⟨x9, e10, h⟩ := nm_get h
  refine Z_eqI e10 ?_
  refine Z_istore_n hk (lv' := [(0, .int x9)]) dJ6_bitCount_0f7a4_47 rfl (by decide) rfl ?_
  refine Z_iload_n hk 0 dJ6_bitCount_0f7a4_48 rfl rfl ?_
  refine Z_bipush hk dJ6_bitCount_0f7a4_49 zc_bipush_63 ?_
  refine Z_iand hk dJ6_bitCount_0f7a4_51 ?_
  cases h
  exact Z_iret hk hq dJ6_bitCount_0f7a4_52
theorem c_J6_bitCount_0f7a4 {l : Launch} {E : zE} (hL : eL E) (hJ : eJ E) (F : Nat) (a0 : Int32) (σ : zST) {r0 : Int32} {τ0 : zST} (h : m_J6_bitCount_0f7a4 F a0 σ = some (r0, τ0)) : Ct l yJ6_bitCount_0f7a4 wsJ6_bitCount_0f7a4 r_J6_bitCount_0f7a4 E [.int a0] σ (some (.int r0)) τ0 := by
  refine Ct_of (by decide) rfl hL hJ (Nat.le_of_ble_eq_true rfl) (fun K hE hl hk hq => ?_)
  subst hE
  exact w_J6_bitCount_0f7a4 hk hq F a0 σ h
end

-- java/util/Arrays.fill ([II)V
section
theorem dJ7_fill_53178_0 : decode cJ7_fill_53178 0 = .ok (.iconst 0, 1) := by decide +kernel
theorem dJ7_fill_53178_1 : decode cJ7_fill_53178 1 = .ok (.istore_n 2, 1) := by decide +kernel
theorem dJ7_fill_53178_2 : decode cJ7_fill_53178 2 = .ok (.aload_n 0, 1) := by decide +kernel
theorem dJ7_fill_53178_3 : decode cJ7_fill_53178 3 = .ok (.arraylength, 1) := by decide +kernel
theorem dJ7_fill_53178_4 : decode cJ7_fill_53178 4 = .ok (.istore_n 3, 1) := by decide +kernel
theorem dJ7_fill_53178_5 : decode cJ7_fill_53178 5 = .ok (.iload_n 2, 1) := by decide +kernel
theorem dJ7_fill_53178_6 : decode cJ7_fill_53178 6 = .ok (.iload_n 3, 1) := by decide +kernel
theorem dJ7_fill_53178_7 : decode cJ7_fill_53178 7 = .ok (.if_icmp .ge 13, 3) := by decide +kernel
theorem dJ7_fill_53178_10 : decode cJ7_fill_53178 10 = .ok (.aload_n 0, 1) := by decide +kernel
theorem dJ7_fill_53178_11 : decode cJ7_fill_53178 11 = .ok (.iload_n 2, 1) := by decide +kernel
theorem dJ7_fill_53178_12 : decode cJ7_fill_53178 12 = .ok (.iload_n 1, 1) := by decide +kernel
theorem dJ7_fill_53178_13 : decode cJ7_fill_53178 13 = .ok (.iastore, 1) := by decide +kernel
theorem dJ7_fill_53178_14 : decode cJ7_fill_53178 14 = .ok (.iinc 2 1, 3) := by decide +kernel
theorem dJ7_fill_53178_17 : decode cJ7_fill_53178 17 = .ok (.goto (-12), 3) := by decide +kernel
theorem dJ7_fill_53178_20 : decode cJ7_fill_53178 20 = .ok (.return_, 1) := by decide +kernel
def r_J7_fill_53178 : Room := { frames := 1, cells := 0, slots := 0, locals := 12 }
set_option maxRecDepth 100000 in
set_option maxHeartbeats 4000000 in
theorem w_J7_fill_53178_5 {K : zK} (hk : zIs K RJ7 cJ7_fill_53178 4 wsJ7_fill_53178 none r_J7_fill_53178) {τ0 : zST} (hq : zQ K none τ0) (F : Nat) (ln : Nat) : ∀ (n : Nat) (a0 : Nat) (a1 : Int32) (a2 : Int32) (a3 : Int32) (ha0 : aI (kZ K) a0 ln) (σ : zST), m_J7_fill_53178_5 F ln n a0 a1 a2 a3 σ = some τ0 → Z K 0 0 5 [(0, .ref (eA (kZ K) a0)), (1, .int a1), (2, .int a2), (3, .int a3)] [] σ := by
  intro n
  induction n with
  | zero => intro a0 a1 a2 a3 ha0 σ h; cases h
  | succ n ih =>
    intro a0 a1 a2 a3 ha0 σ h
    rw [m_J7_fill_53178_5] at h
    refine Z_iload_n hk 2 dJ7_fill_53178_5 rfl rfl ?_
    refine Z_iload_n hk 3 dJ7_fill_53178_6 rfl rfl ?_
    refine Z_icmp_ge hk (tgt := 20) dJ7_fill_53178_7 (by decide) (fun c3 => ?_) (fun c3 => ?_)
    · have h := if_yes h c3
      cases h
      exact Z_vret hk hq dJ7_fill_53178_20
    · have h := if_no h c3
      refine Z_aload_n hk 0 dJ7_fill_53178_10 rfl rfl ?_
      refine Z_iload_n hk 2 dJ7_fill_53178_11 rfl rfl ?_
      refine Z_iload_n hk 1 dJ7_fill_53178_12 rfl rfl ?_
      obtain ⟨i6, s4, e5, h⟩ := stI_get h
      refine Z_iast hk ha0 i6 dJ7_fill_53178_13 ?_
      refine Z_eqS e5 ?_
      obtain ⟨x7, e8, h⟩ := nm_get h
      refine Z_iinc hk 2 (v := x7) (lv' := [(2, .int x7), (0, .ref (eA (kZ K) a0)), (1, .int a1), (3, .int a3)]) dJ7_fill_53178_14 rfl (by rw [zc_iinc_1]; exact e8) (by decide) rfl ?_
      refine Z_goto hk (tgt := 5) dJ7_fill_53178_17 (by decide) ?_
      refine Z_sub [1, 2, 0, 3] rfl ?_
      exact ih a0 a1 x7 a3 ha0 s4 h
set_option maxRecDepth 100000 in
set_option maxHeartbeats 4000000 in
theorem w_J7_fill_53178 {K : zK} (hk : zIs K RJ7 cJ7_fill_53178 4 wsJ7_fill_53178 none r_J7_fill_53178) {τ0 : zST} (hq : zQ K none τ0) (F : Nat) (ln : Nat) (a0 : Nat) (a1 : Int32) (ha0 : aI (kZ K) a0 ln) (σ : zST) (h : m_J7_fill_53178 F ln a0 a1 σ = some τ0) : Z K 0 0 0 [(0, .ref (eA (kZ K) a0)), (1, .int a1)] [] σ := by
  unfold m_J7_fill_53178 at h
  refine Z_iconst hk dJ7_fill_53178_0 zc_iconst_0 ?_
  refine Z_istore_n hk (lv' := [(2, .int 0), (0, .ref (eA (kZ K) a0)), (1, .int a1)]) dJ7_fill_53178_1 rfl (by decide) rfl ?_
  refine Z_aload_n hk 1 dJ7_fill_53178_2 rfl rfl ?_
  refine Z_ialen hk ha0 dJ7_fill_53178_3 ?_
  obtain ⟨x1, e2, h⟩ := nm_get h
  refine Z_eqI e2 ?_
  refine Z_istore_n hk (lv' := [(3, .int x1), (2, .int 0), (0, .ref (eA (kZ K) a0)), (1, .int a1)]) dJ7_fill_53178_4 rfl (by decide) rfl ?_
  refine Z_sub [2, 3, 1, 0] rfl ?_
  exact w_J7_fill_53178_5 hk hq F ln F a0 a1 0 x1 ha0 σ h
theorem c_J7_fill_53178 {l : Launch} {E : zE} (hL : eL E) (hJ : eJ E) (F : Nat) (ln : Nat) (a0 : Nat) (a1 : Int32) (ha0 : aI E a0 ln) (σ : zST) {τ0 : zST} (h : m_J7_fill_53178 F ln a0 a1 σ = some τ0) : Ct l yJ7_fill_53178 wsJ7_fill_53178 r_J7_fill_53178 E [.ref (eA E a0), .int a1] σ none τ0 := by
  refine Ct_of (by decide) rfl hL hJ (Nat.le_of_ble_eq_true rfl) (fun K hE hl hk hq => ?_)
  subst hE
  exact w_J7_fill_53178 hk hq F ln a0 a1 ha0 σ h
end

-- CanonCote.below (I)I
section
theorem dX7_below_0 : decode cX7_below 0 = .ok (.iconst 1, 1) := by decide +kernel
theorem dX7_below_1 : decode cX7_below 1 = .ok (.iload_n 0, 1) := by decide +kernel
theorem dX7_below_2 : decode cX7_below 2 = .ok (.ishl, 1) := by decide +kernel
theorem dX7_below_3 : decode cX7_below 3 = .ok (.iconst 1, 1) := by decide +kernel
theorem dX7_below_4 : decode cX7_below 4 = .ok (.isub, 1) := by decide +kernel
theorem dX7_below_5 : decode cX7_below 5 = .ok (.ireturn, 1) := by decide +kernel
def r_X7_below : Room := { frames := 1, cells := 0, slots := 0, locals := 12 }
set_option maxRecDepth 100000 in
set_option maxHeartbeats 4000000 in
theorem w_X7_below {K : zK} (hk : zIs K RX7 cX7_below 1 wsX7_below (some .int) r_X7_below) {r0 : Int32} {τ0 : zST} (hq : zQ K (some (.int r0)) τ0) (F : Nat) (a0 : Int32) (σ : zST) (h : m_X7_below F a0 σ = some (r0, τ0)) : Z K 0 0 0 [(0, .int a0)] [] σ := by
  unfold m_X7_below at h
  refine Z_iconst hk dX7_below_0 zc_iconst_1 ?_
  refine Z_iload_n hk 0 dX7_below_1 rfl rfl ?_
  refine Z_ishl hk dX7_below_2 ?_
  refine Z_iconst hk dX7_below_3 zc_iconst_1 ?_
  refine Z_isub hk dX7_below_4 ?_
  cases h
  exact Z_iret hk hq dX7_below_5
theorem c_X7_below {l : Launch} {E : zE} (hL : eL E) (hJ : eJ E) (F : Nat) (a0 : Int32) (σ : zST) {r0 : Int32} {τ0 : zST} (h : m_X7_below F a0 σ = some (r0, τ0)) : Ct l yX7_below wsX7_below r_X7_below E [.int a0] σ (some (.int r0)) τ0 := by
  refine Ct_of (by decide) rfl hL hJ (Nat.le_of_ble_eq_true rfl) (fun K hE hl hk hq => ?_)
  subst hE
  exact w_X7_below hk hq F a0 σ h
end

-- java/util/Arrays.fill ([JJ)V
section
theorem dJ7_fill_d0a16_0 : decode cJ7_fill_d0a16 0 = .ok (.iconst 0, 1) := by decide +kernel
theorem dJ7_fill_d0a16_1 : decode cJ7_fill_d0a16 1 = .ok (.istore_n 3, 1) := by decide +kernel
theorem dJ7_fill_d0a16_2 : decode cJ7_fill_d0a16 2 = .ok (.aload_n 0, 1) := by decide +kernel
theorem dJ7_fill_d0a16_3 : decode cJ7_fill_d0a16 3 = .ok (.arraylength, 1) := by decide +kernel
theorem dJ7_fill_d0a16_4 : decode cJ7_fill_d0a16 4 = .ok (.istore 4, 2) := by decide +kernel
theorem dJ7_fill_d0a16_6 : decode cJ7_fill_d0a16 6 = .ok (.iload_n 3, 1) := by decide +kernel
theorem dJ7_fill_d0a16_7 : decode cJ7_fill_d0a16 7 = .ok (.iload 4, 2) := by decide +kernel
theorem dJ7_fill_d0a16_9 : decode cJ7_fill_d0a16 9 = .ok (.if_icmp .ge 13, 3) := by decide +kernel
theorem dJ7_fill_d0a16_12 : decode cJ7_fill_d0a16 12 = .ok (.aload_n 0, 1) := by decide +kernel
theorem dJ7_fill_d0a16_13 : decode cJ7_fill_d0a16 13 = .ok (.iload_n 3, 1) := by decide +kernel
theorem dJ7_fill_d0a16_14 : decode cJ7_fill_d0a16 14 = .ok (.lload_n 1, 1) := by decide +kernel
theorem dJ7_fill_d0a16_15 : decode cJ7_fill_d0a16 15 = .ok (.lastore, 1) := by decide +kernel
theorem dJ7_fill_d0a16_16 : decode cJ7_fill_d0a16 16 = .ok (.iinc 3 1, 3) := by decide +kernel
theorem dJ7_fill_d0a16_19 : decode cJ7_fill_d0a16 19 = .ok (.goto (-13), 3) := by decide +kernel
theorem dJ7_fill_d0a16_22 : decode cJ7_fill_d0a16 22 = .ok (.return_, 1) := by decide +kernel
def r_J7_fill_d0a16 : Room := { frames := 1, cells := 0, slots := 0, locals := 12 }
set_option maxRecDepth 100000 in
set_option maxHeartbeats 4000000 in
theorem w_J7_fill_d0a16_6 {K : zK} (hk : zIs K RJ7 cJ7_fill_d0a16 5 wsJ7_fill_d0a16 none r_J7_fill_d0a16) {τ0 : zST} (hq : zQ K none τ0) (F : Nat) (ln : Nat) : ∀ (n : Nat) (a0 : Nat) (a1 : Int64) (a3 : Int32) (a4 : Int32) (ha0 : aJ (kZ K) a0 ln) (σ : zST), m_J7_fill_d0a16_6 F ln n a0 a1 a3 a4 σ = some τ0 → Z K 0 0 6 [(0, .ref (eA (kZ K) a0)), (1, .long a1), (3, .int a3), (4, .int a4)] [] σ := by
  intro n
  induction n with
  | zero => intro a0 a1 a3 a4 ha0 σ h; cases h
  | succ n ih =>
    intro a0 a1 a3 a4 ha0 σ h
    rw [m_J7_fill_d0a16_6] at h
    refine Z_iload_n hk 2 dJ7_fill_d0a16_6 rfl rfl ?_
    refine Z_iload hk 3 dJ7_fill_d0a16_7 rfl ?_
    refine Z_icmp_ge hk (tgt := 22) dJ7_fill_d0a16_9 (by decide) (fun c3 => ?_) (fun c3 => ?_)
    · have h := if_yes h c3
      cases h
      exact Z_vret hk hq dJ7_fill_d0a16_22
    · have h := if_no h c3
      refine Z_aload_n hk 0 dJ7_fill_d0a16_12 rfl rfl ?_
      refine Z_iload_n hk 2 dJ7_fill_d0a16_13 rfl rfl ?_
      refine Z_lload_n hk 1 dJ7_fill_d0a16_14 rfl rfl ?_
      obtain ⟨i6, s4, e5, h⟩ := stL_get h
      refine Z_last hk ha0 i6 dJ7_fill_d0a16_15 ?_
      refine Z_eqS e5 ?_
      obtain ⟨x7, e8, h⟩ := nm_get h
      refine Z_iinc hk 2 (v := x7) (lv' := [(3, .int x7), (0, .ref (eA (kZ K) a0)), (1, .long a1), (4, .int a4)]) dJ7_fill_d0a16_16 rfl (by rw [zc_iinc_1]; exact e8) (by decide) rfl ?_
      refine Z_goto hk (tgt := 6) dJ7_fill_d0a16_19 (by decide) ?_
      refine Z_sub [1, 2, 0, 3] rfl ?_
      exact ih a0 a1 x7 a4 ha0 s4 h
set_option maxRecDepth 100000 in
set_option maxHeartbeats 4000000 in
theorem w_J7_fill_d0a16 {K : zK} (hk : zIs K RJ7 cJ7_fill_d0a16 5 wsJ7_fill_d0a16 none r_J7_fill_d0a16) {τ0 : zST} (hq : zQ K none τ0) (F : Nat) (ln : Nat) (a0 : Nat) (a1 : Int64) (ha0 : aJ (kZ K) a0 ln) (σ : zST) (h : m_J7_fill_d0a16 F ln a0 a1 σ = some τ0) : Z K 0 0 0 [(0, .ref (eA (kZ K) a0)), (1, .long a1)] [] σ := by
  unfold m_J7_fill_d0a16 at h
  refine Z_iconst hk dJ7_fill_d0a16_0 zc_iconst_0 ?_
  refine Z_istore_n hk (lv' := [(3, .int 0), (0, .ref (eA (kZ K) a0)), (1, .long a1)]) dJ7_fill_d0a16_1 rfl (by decide) rfl ?_
  refine Z_aload_n hk 1 dJ7_fill_d0a16_2 rfl rfl ?_
  refine Z_lalen hk ha0 dJ7_fill_d0a16_3 ?_
  obtain ⟨x1, e2, h⟩ := nm_get h
  refine Z_eqI e2 ?_
  refine Z_istore hk (lv' := [(4, .int x1), (3, .int 0), (0, .ref (eA (kZ K) a0)), (1, .long a1)]) dJ7_fill_d0a16_4 (by decide) rfl ?_
  refine Z_sub [2, 3, 1, 0] rfl ?_
  exact w_J7_fill_d0a16_6 hk hq F ln F a0 a1 0 x1 ha0 σ h
theorem c_J7_fill_d0a16 {l : Launch} {E : zE} (hL : eL E) (hJ : eJ E) (F : Nat) (ln : Nat) (a0 : Nat) (a1 : Int64) (ha0 : aJ E a0 ln) (σ : zST) {τ0 : zST} (h : m_J7_fill_d0a16 F ln a0 a1 σ = some τ0) : Ct l yJ7_fill_d0a16 wsJ7_fill_d0a16 r_J7_fill_d0a16 E [.ref (eA E a0), .long a1] σ none τ0 := by
  refine Ct_of (by decide) rfl hL hJ (Nat.le_of_ble_eq_true rfl) (fun K hE hl hk hq => ?_)
  subst hE
  exact w_J7_fill_d0a16 hk hq F ln a0 a1 ha0 σ h
end

-- CanonCote.isIn (II)Z
section
theorem dX7_isIn_0 : decode cX7_isIn 0 = .ok (.iload_n 0, 1) := by decide +kernel
theorem dX7_isIn_1 : decode cX7_isIn 1 = .ok (.iload_n 1, 1) := by decide +kernel
theorem dX7_isIn_2 : decode cX7_isIn 2 = .ok (.ishr, 1) := by decide +kernel
theorem dX7_isIn_3 : decode cX7_isIn 3 = .ok (.iconst 1, 1) := by decide +kernel
theorem dX7_isIn_4 : decode cX7_isIn 4 = .ok (.iand, 1) := by decide +kernel
theorem dX7_isIn_5 : decode cX7_isIn 5 = .ok (.ifCond .eq 7, 3) := by decide +kernel
theorem dX7_isIn_8 : decode cX7_isIn 8 = .ok (.iconst 1, 1) := by decide +kernel
theorem dX7_isIn_9 : decode cX7_isIn 9 = .ok (.goto 4, 3) := by decide +kernel
theorem dX7_isIn_12 : decode cX7_isIn 12 = .ok (.iconst 0, 1) := by decide +kernel
theorem dX7_isIn_13 : decode cX7_isIn 13 = .ok (.ireturn, 1) := by decide +kernel
def r_X7_isIn : Room := { frames := 1, cells := 0, slots := 0, locals := 12 }
set_option maxRecDepth 100000 in
set_option maxHeartbeats 4000000 in
theorem w_X7_isIn {K : zK} (hk : zIs K RX7 cX7_isIn 2 wsX7_isIn (some .boolean) r_X7_isIn) {r0 : Int32} {τ0 : zST} (hq : zQ K (some (.int r0)) τ0) (F : Nat) (a0 : Int32) (a1 : Int32) (σ : zST) (h : m_X7_isIn F a0 a1 σ = some (r0, τ0)) : Z K 0 0 0 [(0, .int a0), (1, .int a1)] [] σ := by
  unfold m_X7_isIn at h
  refine Z_iload_n hk 0 dX7_isIn_0 rfl rfl ?_
  refine Z_iload_n hk 1 dX7_isIn_1 rfl rfl ?_
  refine Z_ishr hk dX7_isIn_2 ?_
  refine Z_iconst hk dX7_isIn_3 zc_iconst_1 ?_
  refine Z_iand hk dX7_isIn_4 ?_
  refine Z_if_eq hk (tgt := 12) dX7_isIn_5 (by decide) (fun c1 => ?_) (fun c1 => ?_)
  · have h := if_yes h c1
    refine Z_iconst hk dX7_isIn_12 zc_iconst_0 ?_
    cases h
    exact Z_zret hk (by decide) hq dX7_isIn_13
  · have h := if_no h c1
    refine Z_iconst hk dX7_isIn_8 zc_iconst_1 ?_
    refine Z_goto hk (tgt := 13) dX7_isIn_9 (by decide) ?_
    cases h
    exact Z_zret hk (by decide) hq dX7_isIn_13
theorem c_X7_isIn {l : Launch} {E : zE} (hL : eL E) (hJ : eJ E) (F : Nat) (a0 : Int32) (a1 : Int32) (σ : zST) {r0 : Int32} {τ0 : zST} (h : m_X7_isIn F a0 a1 σ = some (r0, τ0)) : Ct l yX7_isIn wsX7_isIn r_X7_isIn E [.int a0, .int a1] σ (some (.int r0)) τ0 := by
  refine Ct_of (by decide) rfl hL hJ (Nat.le_of_ble_eq_true rfl) (fun K hE hl hk hq => ?_)
  subst hE
  exact w_X7_isIn hk hq F a0 a1 σ h
end

-- CanonCote$Graph.clear (I)V
section
theorem dX2_clear_0 : decode cX2_clear 0 = .ok (.aload_n 0, 1) := by decide +kernel
theorem dX2_clear_1 : decode cX2_clear 1 = .ok (.iload_n 1, 1) := by decide +kernel
theorem dX2_clear_2 : decode cX2_clear 2 = .ok (.putfield 9, 3) := by decide +kernel
theorem dX2_clear_5 : decode cX2_clear 5 = .ok (.aload_n 0, 1) := by decide +kernel
theorem dX2_clear_6 : decode cX2_clear 6 = .ok (.getfield 15, 3) := by decide +kernel
theorem dX2_clear_9 : decode cX2_clear 9 = .ok (.iconst 0, 1) := by decide +kernel
theorem dX2_clear_10 : decode cX2_clear 10 = .ok (.invokestatic 22, 3) := by decide +kernel
theorem dX2_clear_13 : decode cX2_clear 13 = .ok (.aload_n 0, 1) := by decide +kernel
theorem dX2_clear_14 : decode cX2_clear 14 = .ok (.getfield 19, 3) := by decide +kernel
theorem dX2_clear_17 : decode cX2_clear 17 = .ok (.iconst 0, 1) := by decide +kernel
theorem dX2_clear_18 : decode cX2_clear 18 = .ok (.invokestatic 22, 3) := by decide +kernel
theorem dX2_clear_21 : decode cX2_clear 21 = .ok (.return_, 1) := by decide +kernel
set_option maxRecDepth 20000 in
theorem ggX2_clear_J7_fill_53178 : GoodIn wsX2_clear wsJ7_fill_53178 := goodIn_r _ [7] (by decide +kernel) (by decide +kernel)
set_option maxRecDepth 20000 in
theorem gX2_clear_J7_fill_53178 : GoodIn wsX2_clear (va_wsS RX2 22 yJ7_fill_53178 wsJ7_fill_53178) := goodIn_app (goodIn_of _ (by decide +kernel)) ggX2_clear_J7_fill_53178
theorem in_X2_clear_Graph : ∀ w ∈ u_ws RX2 TX2 3, w ∈ wsX2_clear := by decide +kernel
theorem wd_X2_clear_1 : Cond.fieldLink RX2 9 (TX2 0).1 (TX2 0).2.1 (TX2 0).2.2.1 ∈ wsX2_clear := by decide +kernel
theorem wd_X2_clear_2 : Cond.fieldLink RX2 15 (TX2 1).1 (TX2 1).2.1 (TX2 1).2.2.1 ∈ wsX2_clear := by decide +kernel
theorem wd_X2_clear_3 : Cond.fieldLink RX2 19 (TX2 2).1 (TX2 2).2.1 (TX2 2).2.2.1 ∈ wsX2_clear := by decide +kernel
def r_X2_clear : Room := { frames := 2, cells := 0, slots := 0, locals := 35 }
set_option maxRecDepth 100000 in
set_option maxHeartbeats 4000000 in
theorem w_X2_clear {K : zK} (hk : zIs K RX2 cX2_clear 2 wsX2_clear none r_X2_clear) {τ0 : zST} (hq : zQ K none τ0) (F : Nat) (a0 : Nat) (a1 : Int32) (ha0 : atGraph (kZ K) a0) (σ : zST) (h : m_X2_clear F a0 a1 σ = some τ0) : Z K 0 0 0 [(0, .ref (eA (kZ K) a0)), (1, .int a1)] [] σ := by
  unfold m_X2_clear at h
  refine Z_aload_n hk 0 dX2_clear_0 rfl rfl ?_
  refine Z_iload_n hk 1 dX2_clear_1 rfl rfl ?_
  obtain ⟨s1, e2, h⟩ := nm_get h
  refine Z_put hk in_X2_clear_Graph tyX2 tok_TX2 tnm_TX2 rfl ha0.cell.1 (ha0.cell.2 _) 0 (by decide) wd_X2_clear_1 rfl (by decide) (Nat.le_of_ble_eq_true rfl) (ha0.put_size _ _) dX2_clear_2 ?_
  refine Z_eqS e2 ?_
  refine Z_aload_n hk 0 dX2_clear_5 rfl rfl ?_
  refine Z_get hk in_X2_clear_Graph rfl ha0.cell.1 (ha0.cell.2 _) 1 (by decide) wd_X2_clear_2 rfl dX2_clear_6 ?_
  refine Z_iconst hk dX2_clear_9 zc_iconst_0 ?_
  obtain ⟨s4, h5, h⟩ := bv_ok h
  refine Z_callT 2 hk [.ref (eA (kZ K) (a0 + 1)), .int 0] (c_J7_fill_53178 hk.loc hk.inj F 8 (a0 + 1) 0 (ha0.near) s1 h5) gX2_clear_J7_fill_53178 rfl ⟨rfl, rfl⟩ (by decide +kernel) ⟨Nat.le_of_ble_eq_true rfl, Nat.le_of_ble_eq_true rfl⟩ rfl rfl (Nat.le_of_ble_eq_true rfl) ⟨Nat.zero_le _, Nat.zero_le _⟩ dX2_clear_10 ?_
  show Z K 0 0 13 [(0, .ref (eA (kZ K) a0)), (1, .int a1)] [] s4
  refine Z_aload_n hk 0 dX2_clear_13 rfl rfl ?_
  refine Z_get hk in_X2_clear_Graph rfl ha0.cell.1 (ha0.cell.2 _) 2 (by decide) wd_X2_clear_3 rfl dX2_clear_14 ?_
  refine Z_iconst hk dX2_clear_17 zc_iconst_0 ?_
  obtain ⟨s7, h8, h⟩ := bv_ok h
  refine Z_callT 2 hk [.ref (eA (kZ K) (a0 + 2)), .int 0] (c_J7_fill_53178 hk.loc hk.inj F 8 (a0 + 2) 0 (ha0.colours) s4 h8) gX2_clear_J7_fill_53178 rfl ⟨rfl, rfl⟩ (by decide +kernel) ⟨Nat.le_of_ble_eq_true rfl, Nat.le_of_ble_eq_true rfl⟩ rfl rfl (Nat.le_of_ble_eq_true rfl) ⟨Nat.zero_le _, Nat.zero_le _⟩ dX2_clear_18 ?_
  show Z K 0 0 21 [(0, .ref (eA (kZ K) a0)), (1, .int a1)] [] s7
  cases h
  exact Z_vret hk hq dX2_clear_21
theorem c_X2_clear {l : Launch} {E : zE} (hL : eL E) (hJ : eJ E) (F : Nat) (a0 : Nat) (a1 : Int32) (ha0 : atGraph E a0) (σ : zST) {τ0 : zST} (h : m_X2_clear F a0 a1 σ = some τ0) : Ct l yX2_clear wsX2_clear r_X2_clear E [.ref (eA E a0), .int a1] σ none τ0 := by
  refine Ct_of (by decide) rfl hL hJ (Nat.le_of_ble_eq_true rfl) (fun K hE hl hk hq => ?_)
  subst hE
  exact w_X2_clear hk hq F a0 a1 ha0 σ h
end

-- CanonCote$Graph.hasEdge (II)Z
section
theorem dX2_hasEdge_0 : decode cX2_hasEdge 0 = .ok (.aload_n 0, 1) := by decide +kernel
theorem dX2_hasEdge_1 : decode cX2_hasEdge 1 = .ok (.getfield 15, 3) := by decide +kernel
theorem dX2_hasEdge_4 : decode cX2_hasEdge 4 = .ok (.iload_n 1, 1) := by decide +kernel
theorem dX2_hasEdge_5 : decode cX2_hasEdge 5 = .ok (.iaload, 1) := by decide +kernel
theorem dX2_hasEdge_6 : decode cX2_hasEdge 6 = .ok (.iload_n 2, 1) := by decide +kernel
theorem dX2_hasEdge_7 : decode cX2_hasEdge 7 = .ok (.invokestatic 28, 3) := by decide +kernel
theorem dX2_hasEdge_10 : decode cX2_hasEdge 10 = .ok (.ireturn, 1) := by decide +kernel
set_option maxRecDepth 20000 in
theorem ggX2_hasEdge_X7_isIn : GoodIn wsX2_hasEdge wsX7_isIn := goodIn_r _ [4] (by decide +kernel) (by decide +kernel)
set_option maxRecDepth 20000 in
theorem gX2_hasEdge_X7_isIn_n28 : GoodIn wsX2_hasEdge (wsX7_isIn) := ggX2_hasEdge_X7_isIn
theorem in_X2_hasEdge_Graph : ∀ w ∈ u_ws RX2 TX2 3, w ∈ wsX2_hasEdge := by decide +kernel
theorem wd_X2_hasEdge_1 : Cond.fieldLink RX2 15 (TX2 1).1 (TX2 1).2.1 (TX2 1).2.2.1 ∈ wsX2_hasEdge := by decide +kernel
theorem wd_X2_hasEdge_2 : Cond.initialized yX7_isIn.cls ∈ wsX2_hasEdge := by decide +kernel
theorem wd_X2_hasEdge_3 : Cond.static yX7_isIn ∈ wsX2_hasEdge := by decide +kernel
def r_X2_hasEdge : Room := { frames := 2, cells := 0, slots := 0, locals := 33 }
set_option maxRecDepth 100000 in
set_option maxHeartbeats 4000000 in
theorem w_X2_hasEdge {K : zK} (hk : zIs K RX2 cX2_hasEdge 3 wsX2_hasEdge (some .boolean) r_X2_hasEdge) {r0 : Int32} {τ0 : zST} (hq : zQ K (some (.int r0)) τ0) (F : Nat) (a0 : Nat) (a1 : Int32) (a2 : Int32) (ha0 : atGraph (kZ K) a0) (σ : zST) (h : m_X2_hasEdge F a0 a1 a2 σ = some (r0, τ0)) : Z K 0 0 0 [(0, .ref (eA (kZ K) a0)), (1, .int a1), (2, .int a2)] [] σ := by
  unfold m_X2_hasEdge at h
  refine Z_aload_n hk 0 dX2_hasEdge_0 rfl rfl ?_
  refine Z_get hk in_X2_hasEdge_Graph rfl ha0.cell.1 (ha0.cell.2 _) 1 (by decide) wd_X2_hasEdge_1 rfl dX2_hasEdge_1 ?_
  refine Z_iload_n hk 1 dX2_hasEdge_4 rfl rfl ?_
  obtain ⟨i3, x1, e2, h⟩ := ldI_get h
  refine Z_iald hk (ha0.near) i3 dX2_hasEdge_5 ?_
  refine Z_eqI e2 ?_
  refine Z_iload_n hk 2 dX2_hasEdge_6 rfl rfl ?_
  obtain ⟨x4, s5, h6, h⟩ := bd_ok h
  refine Z_callSN 2 hk [.int x1, .int a2] (c_X7_isIn hk.loc hk.inj F x1 a2 σ h6) gX2_hasEdge_X7_isIn_n28 nw_9 rfl ⟨rfl, rfl⟩ ⟨wd_X2_hasEdge_2, wd_X2_hasEdge_3⟩ (by decide +kernel) ⟨Nat.le_of_ble_eq_true rfl, Nat.le_of_ble_eq_true rfl⟩ rfl rfl (Nat.le_of_ble_eq_true rfl) ⟨Nat.zero_le _, Nat.zero_le _⟩ dX2_hasEdge_7 ?_
  show Z K 0 0 10 [(0, .ref (eA (kZ K) a0)), (1, .int a1), (2, .int a2)] [.int x4] s5
  obtain ⟨hz, h⟩ := gd_some h
  cases h
  exact Z_zret hk hz hq dX2_hasEdge_10
theorem c_X2_hasEdge {l : Launch} {E : zE} (hL : eL E) (hJ : eJ E) (F : Nat) (a0 : Nat) (a1 : Int32) (a2 : Int32) (ha0 : atGraph E a0) (σ : zST) {r0 : Int32} {τ0 : zST} (h : m_X2_hasEdge F a0 a1 a2 σ = some (r0, τ0)) : Ct l yX2_hasEdge wsX2_hasEdge r_X2_hasEdge E [.ref (eA E a0), .int a1, .int a2] σ (some (.int r0)) τ0 := by
  refine Ct_of (by decide) rfl hL hJ (Nat.le_of_ble_eq_true rfl) (fun K hE hl hk hq => ?_)
  subst hE
  exact w_X2_hasEdge hk hq F a0 a1 a2 ha0 σ h
end

-- CanonCote$Graph.flipEdge (II)V
section
theorem dX2_flipEdge_0 : decode cX2_flipEdge 0 = .ok (.aload_n 0, 1) := by decide +kernel
theorem dX2_flipEdge_1 : decode cX2_flipEdge 1 = .ok (.getfield 15, 3) := by decide +kernel
theorem dX2_flipEdge_4 : decode cX2_flipEdge 4 = .ok (.iload_n 1, 1) := by decide +kernel
theorem dX2_flipEdge_5 : decode cX2_flipEdge 5 = .ok (.dup2, 1) := by decide +kernel
theorem dX2_flipEdge_6 : decode cX2_flipEdge 6 = .ok (.iaload, 1) := by decide +kernel
theorem dX2_flipEdge_7 : decode cX2_flipEdge 7 = .ok (.iconst 1, 1) := by decide +kernel
theorem dX2_flipEdge_8 : decode cX2_flipEdge 8 = .ok (.iload_n 2, 1) := by decide +kernel
theorem dX2_flipEdge_9 : decode cX2_flipEdge 9 = .ok (.ishl, 1) := by decide +kernel
theorem dX2_flipEdge_10 : decode cX2_flipEdge 10 = .ok (.ixor, 1) := by decide +kernel
theorem dX2_flipEdge_11 : decode cX2_flipEdge 11 = .ok (.iastore, 1) := by decide +kernel
theorem dX2_flipEdge_12 : decode cX2_flipEdge 12 = .ok (.aload_n 0, 1) := by decide +kernel
theorem dX2_flipEdge_13 : decode cX2_flipEdge 13 = .ok (.getfield 15, 3) := by decide +kernel
theorem dX2_flipEdge_16 : decode cX2_flipEdge 16 = .ok (.iload_n 2, 1) := by decide +kernel
theorem dX2_flipEdge_17 : decode cX2_flipEdge 17 = .ok (.dup2, 1) := by decide +kernel
theorem dX2_flipEdge_18 : decode cX2_flipEdge 18 = .ok (.iaload, 1) := by decide +kernel
theorem dX2_flipEdge_19 : decode cX2_flipEdge 19 = .ok (.iconst 1, 1) := by decide +kernel
theorem dX2_flipEdge_20 : decode cX2_flipEdge 20 = .ok (.iload_n 1, 1) := by decide +kernel
theorem dX2_flipEdge_21 : decode cX2_flipEdge 21 = .ok (.ishl, 1) := by decide +kernel
theorem dX2_flipEdge_22 : decode cX2_flipEdge 22 = .ok (.ixor, 1) := by decide +kernel
theorem dX2_flipEdge_23 : decode cX2_flipEdge 23 = .ok (.iastore, 1) := by decide +kernel
theorem dX2_flipEdge_24 : decode cX2_flipEdge 24 = .ok (.return_, 1) := by decide +kernel
theorem in_X2_flipEdge_Graph : ∀ w ∈ u_ws RX2 TX2 3, w ∈ wsX2_flipEdge := by decide +kernel
theorem wd_X2_flipEdge_1 : Cond.fieldLink RX2 15 (TX2 1).1 (TX2 1).2.1 (TX2 1).2.2.1 ∈ wsX2_flipEdge := by decide +kernel
def r_X2_flipEdge : Room := { frames := 1, cells := 0, slots := 0, locals := 12 }
set_option maxRecDepth 100000 in
set_option maxHeartbeats 4000000 in
theorem w_X2_flipEdge {K : zK} (hk : zIs K RX2 cX2_flipEdge 3 wsX2_flipEdge none r_X2_flipEdge) {τ0 : zST} (hq : zQ K none τ0) (F : Nat) (a0 : Nat) (a1 : Int32) (a2 : Int32) (ha0 : atGraph (kZ K) a0) (σ : zST) (h : m_X2_flipEdge F a0 a1 a2 σ = some τ0) : Z K 0 0 0 [(0, .ref (eA (kZ K) a0)), (1, .int a1), (2, .int a2)] [] σ := by
  unfold m_X2_flipEdge at h
  refine Z_aload_n hk 0 dX2_flipEdge_0 rfl rfl ?_
  refine Z_get hk in_X2_flipEdge_Graph rfl ha0.cell.1 (ha0.cell.2 _) 1 (by decide) wd_X2_flipEdge_1 rfl dX2_flipEdge_1 ?_
  refine Z_iload_n hk 1 dX2_flipEdge_4 rfl rfl ?_
  refine Z_dup2 hk dX2_flipEdge_5 rfl rfl ?_
  obtain ⟨i3, x1, e2, h⟩ := ldI_get h
  refine Z_iald hk (ha0.near) i3 dX2_flipEdge_6 ?_
  refine Z_eqI e2 ?_
  refine Z_iconst hk dX2_flipEdge_7 zc_iconst_1 ?_
  refine Z_iload_n hk 2 dX2_flipEdge_8 rfl rfl ?_
  refine Z_ishl hk dX2_flipEdge_9 ?_
  refine Z_ixor hk dX2_flipEdge_10 ?_
  obtain ⟨i6, s4, e5, h⟩ := stI_get h
  refine Z_iast hk (ha0.near) i6 dX2_flipEdge_11 ?_
  refine Z_eqS e5 ?_
  refine Z_aload_n hk 0 dX2_flipEdge_12 rfl rfl ?_
  refine Z_get hk in_X2_flipEdge_Graph rfl ha0.cell.1 (ha0.cell.2 _) 1 (by decide) wd_X2_flipEdge_1 rfl dX2_flipEdge_13 ?_
  refine Z_iload_n hk 2 dX2_flipEdge_16 rfl rfl ?_
  refine Z_dup2 hk dX2_flipEdge_17 rfl rfl ?_
  obtain ⟨i9, x7, e8, h⟩ := ldI_get h
  refine Z_iald hk (ha0.near) i9 dX2_flipEdge_18 ?_
  refine Z_eqI e8 ?_
  refine Z_iconst hk dX2_flipEdge_19 zc_iconst_1 ?_
  refine Z_iload_n hk 1 dX2_flipEdge_20 rfl rfl ?_
  refine Z_ishl hk dX2_flipEdge_21 ?_
  refine Z_ixor hk dX2_flipEdge_22 ?_
  obtain ⟨i12, s10, e11, h⟩ := stI_get h
  refine Z_iast hk (ha0.near) i12 dX2_flipEdge_23 ?_
  refine Z_eqS e11 ?_
  cases h
  exact Z_vret hk hq dX2_flipEdge_24
theorem c_X2_flipEdge {l : Launch} {E : zE} (hL : eL E) (hJ : eJ E) (F : Nat) (a0 : Nat) (a1 : Int32) (a2 : Int32) (ha0 : atGraph E a0) (σ : zST) {τ0 : zST} (h : m_X2_flipEdge F a0 a1 a2 σ = some τ0) : Ct l yX2_flipEdge wsX2_flipEdge r_X2_flipEdge E [.ref (eA E a0), .int a1, .int a2] σ none τ0 := by
  refine Ct_of (by decide) rfl hL hJ (Nat.le_of_ble_eq_true rfl) (fun K hE hl hk hq => ?_)
  subst hE
  exact w_X2_flipEdge hk hq F a0 a1 a2 ha0 σ h
end

-- CanonCote$Graph.exchange (II)V
section
theorem dX2_exchange_0 : decode cX2_exchange 0 = .ok (.aload_n 0, 1) := by decide +kernel
theorem dX2_exchange_1 : decode cX2_exchange 1 = .ok (.getfield 19, 3) := by decide +kernel
theorem dX2_exchange_4 : decode cX2_exchange 4 = .ok (.iload_n 1, 1) := by decide +kernel
theorem dX2_exchange_5 : decode cX2_exchange 5 = .ok (.iaload, 1) := by decide +kernel
theorem dX2_exchange_6 : decode cX2_exchange 6 = .ok (.istore_n 3, 1) := by decide +kernel
theorem dX2_exchange_7 : decode cX2_exchange 7 = .ok (.aload_n 0, 1) := by decide +kernel
theorem dX2_exchange_8 : decode cX2_exchange 8 = .ok (.getfield 19, 3) := by decide +kernel
theorem dX2_exchange_11 : decode cX2_exchange 11 = .ok (.iload_n 1, 1) := by decide +kernel
theorem dX2_exchange_12 : decode cX2_exchange 12 = .ok (.aload_n 0, 1) := by decide +kernel
theorem dX2_exchange_13 : decode cX2_exchange 13 = .ok (.getfield 19, 3) := by decide +kernel
theorem dX2_exchange_16 : decode cX2_exchange 16 = .ok (.iload_n 2, 1) := by decide +kernel
theorem dX2_exchange_17 : decode cX2_exchange 17 = .ok (.iaload, 1) := by decide +kernel
theorem dX2_exchange_18 : decode cX2_exchange 18 = .ok (.iastore, 1) := by decide +kernel
theorem dX2_exchange_19 : decode cX2_exchange 19 = .ok (.aload_n 0, 1) := by decide +kernel
theorem dX2_exchange_20 : decode cX2_exchange 20 = .ok (.getfield 19, 3) := by decide +kernel
theorem dX2_exchange_23 : decode cX2_exchange 23 = .ok (.iload_n 2, 1) := by decide +kernel
theorem dX2_exchange_24 : decode cX2_exchange 24 = .ok (.iload_n 3, 1) := by decide +kernel
theorem dX2_exchange_25 : decode cX2_exchange 25 = .ok (.iastore, 1) := by decide +kernel
theorem dX2_exchange_26 : decode cX2_exchange 26 = .ok (.aload_n 0, 1) := by decide +kernel
theorem dX2_exchange_27 : decode cX2_exchange 27 = .ok (.getfield 15, 3) := by decide +kernel
theorem dX2_exchange_30 : decode cX2_exchange 30 = .ok (.iload_n 1, 1) := by decide +kernel
theorem dX2_exchange_31 : decode cX2_exchange 31 = .ok (.iaload, 1) := by decide +kernel
theorem dX2_exchange_32 : decode cX2_exchange 32 = .ok (.istore 4, 2) := by decide +kernel
theorem dX2_exchange_34 : decode cX2_exchange 34 = .ok (.aload_n 0, 1) := by decide +kernel
theorem dX2_exchange_35 : decode cX2_exchange 35 = .ok (.getfield 15, 3) := by decide +kernel
theorem dX2_exchange_38 : decode cX2_exchange 38 = .ok (.iload_n 1, 1) := by decide +kernel
theorem dX2_exchange_39 : decode cX2_exchange 39 = .ok (.aload_n 0, 1) := by decide +kernel
theorem dX2_exchange_40 : decode cX2_exchange 40 = .ok (.getfield 15, 3) := by decide +kernel
theorem dX2_exchange_43 : decode cX2_exchange 43 = .ok (.iload_n 2, 1) := by decide +kernel
theorem dX2_exchange_44 : decode cX2_exchange 44 = .ok (.iaload, 1) := by decide +kernel
theorem dX2_exchange_45 : decode cX2_exchange 45 = .ok (.iastore, 1) := by decide +kernel
theorem dX2_exchange_46 : decode cX2_exchange 46 = .ok (.aload_n 0, 1) := by decide +kernel
theorem dX2_exchange_47 : decode cX2_exchange 47 = .ok (.getfield 15, 3) := by decide +kernel
theorem dX2_exchange_50 : decode cX2_exchange 50 = .ok (.iload_n 2, 1) := by decide +kernel
theorem dX2_exchange_51 : decode cX2_exchange 51 = .ok (.iload 4, 2) := by decide +kernel
theorem dX2_exchange_53 : decode cX2_exchange 53 = .ok (.iastore, 1) := by decide +kernel
theorem dX2_exchange_54 : decode cX2_exchange 54 = .ok (.iconst 0, 1) := by decide +kernel
theorem dX2_exchange_55 : decode cX2_exchange 55 = .ok (.istore 5, 2) := by decide +kernel
theorem dX2_exchange_57 : decode cX2_exchange 57 = .ok (.iload 5, 2) := by decide +kernel
theorem dX2_exchange_59 : decode cX2_exchange 59 = .ok (.aload_n 0, 1) := by decide +kernel
theorem dX2_exchange_60 : decode cX2_exchange 60 = .ok (.getfield 9, 3) := by decide +kernel
theorem dX2_exchange_63 : decode cX2_exchange 63 = .ok (.if_icmp .ge 51, 3) := by decide +kernel
theorem dX2_exchange_66 : decode cX2_exchange 66 = .ok (.aload_n 0, 1) := by decide +kernel
theorem dX2_exchange_67 : decode cX2_exchange 67 = .ok (.getfield 15, 3) := by decide +kernel
theorem dX2_exchange_70 : decode cX2_exchange 70 = .ok (.iload 5, 2) := by decide +kernel
theorem dX2_exchange_72 : decode cX2_exchange 72 = .ok (.iaload, 1) := by decide +kernel
theorem dX2_exchange_73 : decode cX2_exchange 73 = .ok (.iload_n 1, 1) := by decide +kernel
theorem dX2_exchange_74 : decode cX2_exchange 74 = .ok (.invokestatic 28, 3) := by decide +kernel
theorem dX2_exchange_77 : decode cX2_exchange 77 = .ok (.aload_n 0, 1) := by decide +kernel
theorem dX2_exchange_78 : decode cX2_exchange 78 = .ok (.getfield 15, 3) := by decide +kernel
theorem dX2_exchange_81 : decode cX2_exchange 81 = .ok (.iload 5, 2) := by decide +kernel
theorem dX2_exchange_83 : decode cX2_exchange 83 = .ok (.iaload, 1) := by decide +kernel
theorem dX2_exchange_84 : decode cX2_exchange 84 = .ok (.iload_n 2, 1) := by decide +kernel
theorem dX2_exchange_85 : decode cX2_exchange 85 = .ok (.invokestatic 28, 3) := by decide +kernel
theorem dX2_exchange_88 : decode cX2_exchange 88 = .ok (.if_icmp .eq 20, 3) := by decide +kernel
theorem dX2_exchange_91 : decode cX2_exchange 91 = .ok (.aload_n 0, 1) := by decide +kernel
theorem dX2_exchange_92 : decode cX2_exchange 92 = .ok (.getfield 15, 3) := by decide +kernel
theorem dX2_exchange_95 : decode cX2_exchange 95 = .ok (.iload 5, 2) := by decide +kernel
theorem dX2_exchange_97 : decode cX2_exchange 97 = .ok (.dup2, 1) := by decide +kernel
theorem dX2_exchange_98 : decode cX2_exchange 98 = .ok (.iaload, 1) := by decide +kernel
theorem dX2_exchange_99 : decode cX2_exchange 99 = .ok (.iconst 1, 1) := by decide +kernel
theorem dX2_exchange_100 : decode cX2_exchange 100 = .ok (.iload_n 1, 1) := by decide +kernel
theorem dX2_exchange_101 : decode cX2_exchange 101 = .ok (.ishl, 1) := by decide +kernel
theorem dX2_exchange_102 : decode cX2_exchange 102 = .ok (.iconst 1, 1) := by decide +kernel
theorem dX2_exchange_103 : decode cX2_exchange 103 = .ok (.iload_n 2, 1) := by decide +kernel
theorem dX2_exchange_104 : decode cX2_exchange 104 = .ok (.ishl, 1) := by decide +kernel
theorem dX2_exchange_105 : decode cX2_exchange 105 = .ok (.ior, 1) := by decide +kernel
theorem dX2_exchange_106 : decode cX2_exchange 106 = .ok (.ixor, 1) := by decide +kernel
theorem dX2_exchange_107 : decode cX2_exchange 107 = .ok (.iastore, 1) := by decide +kernel
theorem dX2_exchange_108 : decode cX2_exchange 108 = .ok (.iinc 5 1, 3) := by decide +kernel
theorem dX2_exchange_111 : decode cX2_exchange 111 = .ok (.goto (-54), 3) := by decide +kernel
theorem dX2_exchange_114 : decode cX2_exchange 114 = .ok (.return_, 1) := by decide +kernel
set_option maxRecDepth 20000 in
theorem ggX2_exchange_X7_isIn : GoodIn wsX2_exchange wsX7_isIn := goodIn_r _ [6] (by decide +kernel) (by decide +kernel)
set_option maxRecDepth 20000 in
theorem gX2_exchange_X7_isIn_n28 : GoodIn wsX2_exchange (wsX7_isIn) := ggX2_exchange_X7_isIn
theorem in_X2_exchange_Graph : ∀ w ∈ u_ws RX2 TX2 3, w ∈ wsX2_exchange := by decide +kernel
theorem wd_X2_exchange_1 : Cond.fieldLink RX2 19 (TX2 2).1 (TX2 2).2.1 (TX2 2).2.2.1 ∈ wsX2_exchange := by decide +kernel
theorem wd_X2_exchange_2 : Cond.fieldLink RX2 15 (TX2 1).1 (TX2 1).2.1 (TX2 1).2.2.1 ∈ wsX2_exchange := by decide +kernel
theorem wd_X2_exchange_3 : Cond.fieldLink RX2 9 (TX2 0).1 (TX2 0).2.1 (TX2 0).2.2.1 ∈ wsX2_exchange := by decide +kernel
theorem wd_X2_exchange_4 : Cond.initialized yX7_isIn.cls ∈ wsX2_exchange := by decide +kernel
theorem wd_X2_exchange_5 : Cond.static yX7_isIn ∈ wsX2_exchange := by decide +kernel
def r_X2_exchange : Room := { frames := 2, cells := 0, slots := 0, locals := 33 }
set_option maxRecDepth 100000 in
set_option maxHeartbeats 4000000 in
theorem w_X2_exchange_108 {K : zK} (hk : zIs K RX2 cX2_exchange 6 wsX2_exchange none r_X2_exchange) {τ0 : zST} (hq : zQ K none τ0) (F : Nat) (k57 : Nat → Int32 → Int32 → Int32 → zST → Option zST) (hk57 : ∀ (a0 : Nat) (a1 : Int32) (a2 : Int32) (a5 : Int32) (ha0 : atGraph (kZ K) a0) (σ : zST), k57 a0 a1 a2 a5 σ = some τ0 → Z K 0 0 57 [(0, .ref (eA (kZ K) a0)), (1, .int a1), (2, .int a2), (5, .int a5)] [] σ) (a0 : Nat) (a1 : Int32) (a2 : Int32) (a5 : Int32) (ha0 : atGraph (kZ K) a0) (σ : zST) (h : m_X2_exchange_108 F k57 a0 a1 a2 a5 σ = some τ0) : Z K 0 0 108 [(0, .ref (eA (kZ K) a0)), (1, .int a1), (2, .int a2), (5, .int a5)] [] σ := by
  unfold m_X2_exchange_108 at h
  obtain ⟨x45, e46, h⟩ := nm_get h
  refine Z_iinc hk 3 (v := x45) (lv' := [(5, .int x45), (0, .ref (eA (kZ K) a0)), (1, .int a1), (2, .int a2)]) dX2_exchange_108 rfl (by rw [zc_iinc_1]; exact e46) (by decide) rfl ?_
  refine Z_goto hk (tgt := 57) dX2_exchange_111 (by decide) ?_
  refine Z_sub [1, 2, 3, 0] rfl ?_
  exact hk57 a0 a1 a2 x45 ha0 σ h
set_option maxRecDepth 100000 in
set_option maxHeartbeats 4000000 in
theorem w_X2_exchange_57 {K : zK} (hk : zIs K RX2 cX2_exchange 6 wsX2_exchange none r_X2_exchange) {τ0 : zST} (hq : zQ K none τ0) (F : Nat) : ∀ (n : Nat) (a0 : Nat) (a1 : Int32) (a2 : Int32) (a5 : Int32) (ha0 : atGraph (kZ K) a0) (σ : zST), m_X2_exchange_57 F n a0 a1 a2 a5 σ = some τ0 → Z K 0 0 57 [(0, .ref (eA (kZ K) a0)), (1, .int a1), (2, .int a2), (5, .int a5)] [] σ := by
  intro n
  induction n with
  | zero => intro a0 a1 a2 a5 ha0 σ h; cases h
  | succ n ih =>
    intro a0 a1 a2 a5 ha0 σ h
    rw [m_X2_exchange_57] at h
    refine Z_iload hk 3 dX2_exchange_57 rfl ?_
    refine Z_aload_n hk 0 dX2_exchange_59 rfl rfl ?_
    refine Z_get hk in_X2_exchange_Graph rfl ha0.cell.1 (ha0.cell.2 _) 0 (by decide) wd_X2_exchange_3 rfl dX2_exchange_60 ?_
    refine Z_icmp_ge hk (tgt := 114) dX2_exchange_63 (by decide) (fun c25 => ?_) (fun c25 => ?_)
    · have h := if_yes h c25
      cases h
      exact Z_vret hk hq dX2_exchange_114
    · have h := if_no h c25
      refine Z_aload_n hk 0 dX2_exchange_66 rfl rfl ?_
      refine Z_get hk in_X2_exchange_Graph rfl ha0.cell.1 (ha0.cell.2 _) 1 (by decide) wd_X2_exchange_2 rfl dX2_exchange_67 ?_
      refine Z_iload hk 3 dX2_exchange_70 rfl ?_
      obtain ⟨i28, x26, e27, h⟩ := ldI_get h
      refine Z_iald hk (ha0.near) i28 dX2_exchange_72 ?_
      refine Z_eqI e27 ?_
      refine Z_iload_n hk 1 dX2_exchange_73 rfl rfl ?_
      obtain ⟨x29, s30, h31, h⟩ := bd_ok h
      refine Z_callSN 2 hk [.int x26, .int a1] (c_X7_isIn hk.loc hk.inj F x26 a1 σ h31) gX2_exchange_X7_isIn_n28 nw_9 rfl ⟨rfl, rfl⟩ ⟨wd_X2_exchange_4, wd_X2_exchange_5⟩ (by decide +kernel) ⟨Nat.le_of_ble_eq_true rfl, Nat.le_of_ble_eq_true rfl⟩ rfl rfl (Nat.le_of_ble_eq_true rfl) ⟨Nat.zero_le _, Nat.zero_le _⟩ dX2_exchange_74 ?_
      show Z K 0 0 77 [(0, .ref (eA (kZ K) a0)), (1, .int a1), (2, .int a2), (5, .int a5)] [.int x29] s30
      refine Z_aload_n hk 0 dX2_exchange_77 rfl rfl ?_
      refine Z_get hk in_X2_exchange_Graph rfl ha0.cell.1 (ha0.cell.2 _) 1 (by decide) wd_X2_exchange_2 rfl dX2_exchange_78 ?_
      refine Z_iload hk 3 dX2_exchange_81 rfl ?_
      obtain ⟨i34, x32, e33, h⟩ := ldI_get h
      refine Z_iald hk (ha0.near) i34 dX2_exchange_83 ?_
      refine Z_eqI e33 ?_
      refine Z_iload_n hk 2 dX2_exchange_84 rfl rfl ?_
      obtain ⟨x35, s36, h37, h⟩ := bd_ok h
      refine Z_callSN 2 hk [.int x32, .int a2] (c_X7_isIn hk.loc hk.inj F x32 a2 s30 h37) gX2_exchange_X7_isIn_n28 nw_9 rfl ⟨rfl, rfl⟩ ⟨wd_X2_exchange_4, wd_X2_exchange_5⟩ (by decide +kernel) ⟨Nat.le_of_ble_eq_true rfl, Nat.le_of_ble_eq_true rfl⟩ rfl rfl (Nat.le_of_ble_eq_true rfl) ⟨Nat.zero_le _, Nat.zero_le _⟩ dX2_exchange_85 ?_
      show Z K 0 0 88 [(0, .ref (eA (kZ K) a0)), (1, .int a1), (2, .int a2), (5, .int a5)] [.int x35, .int x29] s36
      refine Z_icmp_eq hk (tgt := 108) dX2_exchange_88 (by decide) (fun c38 => ?_) (fun c38 => ?_)
      · have h := if_yes h c38
        refine Z_sub [0, 1, 2, 3] rfl ?_
        exact w_X2_exchange_108 hk hq F (m_X2_exchange_57 F n) ih a0 a1 a2 a5 ha0 s36 h
      · have h := if_no h c38
        refine Z_aload_n hk 0 dX2_exchange_91 rfl rfl ?_
        refine Z_get hk in_X2_exchange_Graph rfl ha0.cell.1 (ha0.cell.2 _) 1 (by decide) wd_X2_exchange_2 rfl dX2_exchange_92 ?_
        refine Z_iload hk 3 dX2_exchange_95 rfl ?_
        refine Z_dup2 hk dX2_exchange_97 rfl rfl ?_
        obtain ⟨i41, x39, e40, h⟩ := ldI_get h
        refine Z_iald hk (ha0.near) i41 dX2_exchange_98 ?_
        refine Z_eqI e40 ?_
        refine Z_iconst hk dX2_exchange_99 zc_iconst_1 ?_
        refine Z_iload_n hk 1 dX2_exchange_100 rfl rfl ?_
        refine Z_ishl hk dX2_exchange_101 ?_
        refine Z_iconst hk dX2_exchange_102 zc_iconst_1 ?_
        refine Z_iload_n hk 2 dX2_exchange_103 rfl rfl ?_
        refine Z_ishl hk dX2_exchange_104 ?_
        refine Z_ior hk dX2_exchange_105 ?_
        refine Z_ixor hk dX2_exchange_106 ?_
        obtain ⟨i44, s42, e43, h⟩ := stI_get h
        refine Z_iast hk (ha0.near) i44 dX2_exchange_107 ?_
        refine Z_eqS e43 ?_
        refine Z_sub [0, 1, 2, 3] rfl ?_
        exact w_X2_exchange_108 hk hq F (m_X2_exchange_57 F n) ih a0 a1 a2 a5 ha0 s42 h
set_option maxRecDepth 100000 in
set_option maxHeartbeats 4000000 in
theorem w_X2_exchange {K : zK} (hk : zIs K RX2 cX2_exchange 6 wsX2_exchange none r_X2_exchange) {τ0 : zST} (hq : zQ K none τ0) (F : Nat) (a0 : Nat) (a1 : Int32) (a2 : Int32) (ha0 : atGraph (kZ K) a0) (σ : zST) (h : m_X2_exchange F a0 a1 a2 σ = some τ0) : Z K 0 0 0 [(0, .ref (eA (kZ K) a0)), (1, .int a1), (2, .int a2)] [] σ := by
  unfold m_X2_exchange at h
  refine Z_aload_n hk 0 dX2_exchange_0 rfl rfl ?_
  refine Z_get hk in_X2_exchange_Graph rfl ha0.cell.1 (ha0.cell.2 _) 2 (by decide) wd_X2_exchange_1 rfl dX2_exchange_1 ?_
  refine Z_iload_n hk 1 dX2_exchange_4 rfl rfl ?_
  obtain ⟨i3, x1, e2, h⟩ := ldI_get h
  refine Z_iald hk (ha0.colours) i3 dX2_exchange_5 ?_
  refine Z_eqI e2 ?_
  refine Z_istore_n hk (lv' := [(3, .int x1), (0, .ref (eA (kZ K) a0)), (1, .int a1), (2, .int a2)]) dX2_exchange_6 rfl (by decide) rfl ?_
  refine Z_aload_n hk 1 dX2_exchange_7 rfl rfl ?_
  refine Z_get hk in_X2_exchange_Graph rfl ha0.cell.1 (ha0.cell.2 _) 2 (by decide) wd_X2_exchange_1 rfl dX2_exchange_8 ?_
  refine Z_iload_n hk 2 dX2_exchange_11 rfl rfl ?_
  refine Z_aload_n hk 1 dX2_exchange_12 rfl rfl ?_
  refine Z_get hk in_X2_exchange_Graph rfl ha0.cell.1 (ha0.cell.2 _) 2 (by decide) wd_X2_exchange_1 rfl dX2_exchange_13 ?_
  refine Z_iload_n hk 3 dX2_exchange_16 rfl rfl ?_
  obtain ⟨i6, x4, e5, h⟩ := ldI_get h
  refine Z_iald hk (ha0.colours) i6 dX2_exchange_17 ?_
  refine Z_eqI e5 ?_
  obtain ⟨i9, s7, e8, h⟩ := stI_get h
  refine Z_iast hk (ha0.colours) i9 dX2_exchange_18 ?_
  refine Z_eqS e8 ?_
  refine Z_aload_n hk 1 dX2_exchange_19 rfl rfl ?_
  refine Z_get hk in_X2_exchange_Graph rfl ha0.cell.1 (ha0.cell.2 _) 2 (by decide) wd_X2_exchange_1 rfl dX2_exchange_20 ?_
  refine Z_iload_n hk 3 dX2_exchange_23 rfl rfl ?_
  refine Z_iload_n hk 0 dX2_exchange_24 rfl rfl ?_
  obtain ⟨i12, s10, e11, h⟩ := stI_get h
  refine Z_iast hk (ha0.colours) i12 dX2_exchange_25 ?_
  refine Z_eqS e11 ?_
  refine Z_aload_n hk 1 dX2_exchange_26 rfl rfl ?_
  refine Z_get hk in_X2_exchange_Graph rfl ha0.cell.1 (ha0.cell.2 _) 1 (by decide) wd_X2_exchange_2 rfl dX2_exchange_27 ?_
  refine Z_iload_n hk 2 dX2_exchange_30 rfl rfl ?_
  obtain ⟨i15, x13, e14, h⟩ := ldI_get h
  refine Z_iald hk (ha0.near) i15 dX2_exchange_31 ?_
  refine Z_eqI e14 ?_
  refine Z_istore hk (lv' := [(4, .int x13), (3, .int x1), (0, .ref (eA (kZ K) a0)), (1, .int a1), (2, .int a2)]) dX2_exchange_32 (by decide) rfl ?_
  refine Z_aload_n hk 2 dX2_exchange_34 rfl rfl ?_
  refine Z_get hk in_X2_exchange_Graph rfl ha0.cell.1 (ha0.cell.2 _) 1 (by decide) wd_X2_exchange_2 rfl dX2_exchange_35 ?_
  refine Z_iload_n hk 3 dX2_exchange_38 rfl rfl ?_
  refine Z_aload_n hk 2 dX2_exchange_39 rfl rfl ?_
  refine Z_get hk in_X2_exchange_Graph rfl ha0.cell.1 (ha0.cell.2 _) 1 (by decide) wd_X2_exchange_2 rfl dX2_exchange_40 ?_
  refine Z_iload_n hk 4 dX2_exchange_43 rfl rfl ?_
  obtain ⟨i18, x16, e17, h⟩ := ldI_get h
  refine Z_iald hk (ha0.near) i18 dX2_exchange_44 ?_
  refine Z_eqI e17 ?_
  obtain ⟨i21, s19, e20, h⟩ := stI_get h
  refine Z_iast hk (ha0.near) i21 dX2_exchange_45 ?_
  refine Z_eqS e20 ?_
  refine Z_aload_n hk 2 dX2_exchange_46 rfl rfl ?_
  refine Z_get hk in_X2_exchange_Graph rfl ha0.cell.1 (ha0.cell.2 _) 1 (by decide) wd_X2_exchange_2 rfl dX2_exchange_47 ?_
  refine Z_iload_n hk 4 dX2_exchange_50 rfl rfl ?_
  refine Z_iload hk 0 dX2_exchange_51 rfl ?_
  obtain ⟨i24, s22, e23, h⟩ := stI_get h
  refine Z_iast hk (ha0.near) i24 dX2_exchange_53 ?_
  refine Z_eqS e23 ?_
  refine Z_iconst hk dX2_exchange_54 zc_iconst_0 ?_
  refine Z_istore hk (lv' := [(5, .int 0), (4, .int x13), (3, .int x1), (0, .ref (eA (kZ K) a0)), (1, .int a1), (2, .int a2)]) dX2_exchange_55 (by decide) rfl ?_
  refine Z_sub [3, 4, 5, 0] rfl ?_
  exact w_X2_exchange_57 hk hq F F a0 a1 a2 0 ha0 s22 h
theorem c_X2_exchange {l : Launch} {E : zE} (hL : eL E) (hJ : eJ E) (F : Nat) (a0 : Nat) (a1 : Int32) (a2 : Int32) (ha0 : atGraph E a0) (σ : zST) {τ0 : zST} (h : m_X2_exchange F a0 a1 a2 σ = some τ0) : Ct l yX2_exchange wsX2_exchange r_X2_exchange E [.ref (eA E a0), .int a1, .int a2] σ none τ0 := by
  refine Ct_of (by decide) rfl hL hJ (Nat.le_of_ble_eq_true rfl) (fun K hE hl hk hq => ?_)
  subst hE
  exact w_X2_exchange hk hq F a0 a1 a2 ha0 σ h
end

-- CanonCote$Graph.become (LCanonCote$Graph;)V
section
theorem dX2_become_0 : decode cX2_become 0 = .ok (.aload_n 0, 1) := by decide +kernel
theorem dX2_become_1 : decode cX2_become 1 = .ok (.aload_n 1, 1) := by decide +kernel
theorem dX2_become_2 : decode cX2_become 2 = .ok (.getfield 9, 3) := by decide +kernel
theorem dX2_become_5 : decode cX2_become 5 = .ok (.putfield 9, 3) := by decide +kernel
theorem dX2_become_8 : decode cX2_become 8 = .ok (.iconst 0, 1) := by decide +kernel
theorem dX2_become_9 : decode cX2_become 9 = .ok (.istore_n 2, 1) := by decide +kernel
theorem dX2_become_10 : decode cX2_become 10 = .ok (.iload_n 2, 1) := by decide +kernel
theorem dX2_become_11 : decode cX2_become 11 = .ok (.bipush 8, 2) := by decide +kernel
theorem dX2_become_13 : decode cX2_become 13 = .ok (.if_icmp .ge 33, 3) := by decide +kernel
theorem dX2_become_16 : decode cX2_become 16 = .ok (.aload_n 0, 1) := by decide +kernel
theorem dX2_become_17 : decode cX2_become 17 = .ok (.getfield 15, 3) := by decide +kernel
theorem dX2_become_20 : decode cX2_become 20 = .ok (.iload_n 2, 1) := by decide +kernel
theorem dX2_become_21 : decode cX2_become 21 = .ok (.aload_n 1, 1) := by decide +kernel
theorem dX2_become_22 : decode cX2_become 22 = .ok (.getfield 15, 3) := by decide +kernel
theorem dX2_become_25 : decode cX2_become 25 = .ok (.iload_n 2, 1) := by decide +kernel
theorem dX2_become_26 : decode cX2_become 26 = .ok (.iaload, 1) := by decide +kernel
theorem dX2_become_27 : decode cX2_become 27 = .ok (.iastore, 1) := by decide +kernel
theorem dX2_become_28 : decode cX2_become 28 = .ok (.aload_n 0, 1) := by decide +kernel
theorem dX2_become_29 : decode cX2_become 29 = .ok (.getfield 19, 3) := by decide +kernel
theorem dX2_become_32 : decode cX2_become 32 = .ok (.iload_n 2, 1) := by decide +kernel
theorem dX2_become_33 : decode cX2_become 33 = .ok (.aload_n 1, 1) := by decide +kernel
theorem dX2_become_34 : decode cX2_become 34 = .ok (.getfield 19, 3) := by decide +kernel
theorem dX2_become_37 : decode cX2_become 37 = .ok (.iload_n 2, 1) := by decide +kernel
theorem dX2_become_38 : decode cX2_become 38 = .ok (.iaload, 1) := by decide +kernel
theorem dX2_become_39 : decode cX2_become 39 = .ok (.iastore, 1) := by decide +kernel
theorem dX2_become_40 : decode cX2_become 40 = .ok (.iinc 2 1, 3) := by decide +kernel
theorem dX2_become_43 : decode cX2_become 43 = .ok (.goto (-33), 3) := by decide +kernel
theorem dX2_become_46 : decode cX2_become 46 = .ok (.return_, 1) := by decide +kernel
theorem in_X2_become_Graph : ∀ w ∈ u_ws RX2 TX2 3, w ∈ wsX2_become := by decide +kernel
theorem wd_X2_become_1 : Cond.fieldLink RX2 9 (TX2 0).1 (TX2 0).2.1 (TX2 0).2.2.1 ∈ wsX2_become := by decide +kernel
theorem wd_X2_become_2 : Cond.fieldLink RX2 15 (TX2 1).1 (TX2 1).2.1 (TX2 1).2.2.1 ∈ wsX2_become := by decide +kernel
theorem wd_X2_become_3 : Cond.fieldLink RX2 19 (TX2 2).1 (TX2 2).2.1 (TX2 2).2.2.1 ∈ wsX2_become := by decide +kernel
def r_X2_become : Room := { frames := 1, cells := 0, slots := 0, locals := 12 }
set_option maxRecDepth 100000 in
set_option maxHeartbeats 4000000 in
theorem w_X2_become_10 {K : zK} (hk : zIs K RX2 cX2_become 3 wsX2_become none r_X2_become) {τ0 : zST} (hq : zQ K none τ0) (F : Nat) : ∀ (n : Nat) (a0 : Nat) (a1 : Nat) (a2 : Int32) (ha0 : atGraph (kZ K) a0) (ha1 : atGraph (kZ K) a1) (σ : zST), m_X2_become_10 F n a0 a1 a2 σ = some τ0 → Z K 0 0 10 [(0, .ref (eA (kZ K) a0)), (1, .ref (eA (kZ K) a1)), (2, .int a2)] [] σ := by
  intro n
  induction n with
  | zero => intro a0 a1 a2 ha0 ha1 σ h; cases h
  | succ n ih =>
    intro a0 a1 a2 ha0 ha1 σ h
    rw [m_X2_become_10] at h
    refine Z_iload_n hk 2 dX2_become_10 rfl rfl ?_
    refine Z_bipush hk dX2_become_11 zc_bipush_8 ?_
    refine Z_icmp_ge hk (tgt := 46) dX2_become_13 (by decide) (fun c3 => ?_) (fun c3 => ?_)
    · have h := if_yes h c3
      cases h
      exact Z_vret hk hq dX2_become_46
    · have h := if_no h c3
      refine Z_aload_n hk 0 dX2_become_16 rfl rfl ?_
      refine Z_get hk in_X2_become_Graph rfl ha0.cell.1 (ha0.cell.2 _) 1 (by decide) wd_X2_become_2 rfl dX2_become_17 ?_
      refine Z_iload_n hk 2 dX2_become_20 rfl rfl ?_
      refine Z_aload_n hk 1 dX2_become_21 rfl rfl ?_
      refine Z_get hk in_X2_become_Graph rfl ha1.cell.1 (ha1.cell.2 _) 1 (by decide) wd_X2_become_2 rfl dX2_become_22 ?_
      refine Z_iload_n hk 2 dX2_become_25 rfl rfl ?_
      obtain ⟨i6, x4, e5, h⟩ := ldI_get h
      refine Z_iald hk (ha1.near) i6 dX2_become_26 ?_
      refine Z_eqI e5 ?_
      obtain ⟨i9, s7, e8, h⟩ := stI_get h
      refine Z_iast hk (ha0.near) i9 dX2_become_27 ?_
      refine Z_eqS e8 ?_
      refine Z_aload_n hk 0 dX2_become_28 rfl rfl ?_
      refine Z_get hk in_X2_become_Graph rfl ha0.cell.1 (ha0.cell.2 _) 2 (by decide) wd_X2_become_3 rfl dX2_become_29 ?_
      refine Z_iload_n hk 2 dX2_become_32 rfl rfl ?_
      refine Z_aload_n hk 1 dX2_become_33 rfl rfl ?_
      refine Z_get hk in_X2_become_Graph rfl ha1.cell.1 (ha1.cell.2 _) 2 (by decide) wd_X2_become_3 rfl dX2_become_34 ?_
      refine Z_iload_n hk 2 dX2_become_37 rfl rfl ?_
      obtain ⟨i12, x10, e11, h⟩ := ldI_get h
      refine Z_iald hk (ha1.colours) i12 dX2_become_38 ?_
      refine Z_eqI e11 ?_
      obtain ⟨i15, s13, e14, h⟩ := stI_get h
      refine Z_iast hk (ha0.colours) i15 dX2_become_39 ?_
      refine Z_eqS e14 ?_
      obtain ⟨x16, e17, h⟩ := nm_get h
      refine Z_iinc hk 2 (v := x16) (lv' := [(2, .int x16), (0, .ref (eA (kZ K) a0)), (1, .ref (eA (kZ K) a1))]) dX2_become_40 rfl (by rw [zc_iinc_1]; exact e17) (by decide) rfl ?_
      refine Z_goto hk (tgt := 10) dX2_become_43 (by decide) ?_
      refine Z_sub [1, 2, 0] rfl ?_
      exact ih a0 a1 x16 ha0 ha1 s13 h
set_option maxRecDepth 100000 in
set_option maxHeartbeats 4000000 in
theorem w_X2_become {K : zK} (hk : zIs K RX2 cX2_become 3 wsX2_become none r_X2_become) {τ0 : zST} (hq : zQ K none τ0) (F : Nat) (a0 : Nat) (a1 : Nat) (ha0 : atGraph (kZ K) a0) (ha1 : atGraph (kZ K) a1) (σ : zST) (h : m_X2_become F a0 a1 σ = some τ0) : Z K 0 0 0 [(0, .ref (eA (kZ K) a0)), (1, .ref (eA (kZ K) a1))] [] σ := by
  unfold m_X2_become at h
  refine Z_aload_n hk 0 dX2_become_0 rfl rfl ?_
  refine Z_aload_n hk 1 dX2_become_1 rfl rfl ?_
  refine Z_get hk in_X2_become_Graph rfl ha1.cell.1 (ha1.cell.2 _) 0 (by decide) wd_X2_become_1 rfl dX2_become_2 ?_
  obtain ⟨s1, e2, h⟩ := nm_get h
  refine Z_put hk in_X2_become_Graph tyX2 tok_TX2 tnm_TX2 rfl ha0.cell.1 (ha0.cell.2 _) 0 (by decide) wd_X2_become_1 rfl (by decide) (Nat.le_of_ble_eq_true rfl) (ha0.put_size _ _) dX2_become_5 ?_
  refine Z_eqS e2 ?_
  refine Z_iconst hk dX2_become_8 zc_iconst_0 ?_
  refine Z_istore_n hk (lv' := [(2, .int 0), (0, .ref (eA (kZ K) a0)), (1, .ref (eA (kZ K) a1))]) dX2_become_9 rfl (by decide) rfl ?_
  refine Z_sub [1, 2, 0] rfl ?_
  exact w_X2_become_10 hk hq F F a0 a1 0 ha0 ha1 s1 h
theorem c_X2_become {l : Launch} {E : zE} (hL : eL E) (hJ : eJ E) (F : Nat) (a0 : Nat) (a1 : Nat) (ha0 : atGraph E a0) (ha1 : atGraph E a1) (σ : zST) {τ0 : zST} (h : m_X2_become F a0 a1 σ = some τ0) : Ct l yX2_become wsX2_become r_X2_become E [.ref (eA E a0), .ref (eA E a1)] σ none τ0 := by
  refine Ct_of (by decide) rfl hL hJ (Nat.le_of_ble_eq_true rfl) (fun K hE hl hk hq => ?_)
  subst hE
  exact w_X2_become hk hq F a0 a1 ha0 ha1 σ h
end

-- CanonCote$Graph.invertEdges ()V
section
theorem dX2_invertEdges_0 : decode cX2_invertEdges 0 = .ok (.iconst 0, 1) := by decide +kernel
theorem dX2_invertEdges_1 : decode cX2_invertEdges 1 = .ok (.istore_n 1, 1) := by decide +kernel
theorem dX2_invertEdges_2 : decode cX2_invertEdges 2 = .ok (.iload_n 1, 1) := by decide +kernel
theorem dX2_invertEdges_3 : decode cX2_invertEdges 3 = .ok (.aload_n 0, 1) := by decide +kernel
theorem dX2_invertEdges_4 : decode cX2_invertEdges 4 = .ok (.getfield 9, 3) := by decide +kernel
theorem dX2_invertEdges_7 : decode cX2_invertEdges 7 = .ok (.if_icmp .ge 31, 3) := by decide +kernel
theorem dX2_invertEdges_10 : decode cX2_invertEdges 10 = .ok (.aload_n 0, 1) := by decide +kernel
theorem dX2_invertEdges_11 : decode cX2_invertEdges 11 = .ok (.getfield 15, 3) := by decide +kernel
theorem dX2_invertEdges_14 : decode cX2_invertEdges 14 = .ok (.iload_n 1, 1) := by decide +kernel
theorem dX2_invertEdges_15 : decode cX2_invertEdges 15 = .ok (.dup2, 1) := by decide +kernel
theorem dX2_invertEdges_16 : decode cX2_invertEdges 16 = .ok (.iaload, 1) := by decide +kernel
theorem dX2_invertEdges_17 : decode cX2_invertEdges 17 = .ok (.aload_n 0, 1) := by decide +kernel
theorem dX2_invertEdges_18 : decode cX2_invertEdges 18 = .ok (.getfield 9, 3) := by decide +kernel
theorem dX2_invertEdges_21 : decode cX2_invertEdges 21 = .ok (.invokestatic 32, 3) := by decide +kernel
theorem dX2_invertEdges_24 : decode cX2_invertEdges 24 = .ok (.iconst 1, 1) := by decide +kernel
theorem dX2_invertEdges_25 : decode cX2_invertEdges 25 = .ok (.iload_n 1, 1) := by decide +kernel
theorem dX2_invertEdges_26 : decode cX2_invertEdges 26 = .ok (.ishl, 1) := by decide +kernel
theorem dX2_invertEdges_27 : decode cX2_invertEdges 27 = .ok (.iconst (-1), 1) := by decide +kernel
theorem dX2_invertEdges_28 : decode cX2_invertEdges 28 = .ok (.ixor, 1) := by decide +kernel
theorem dX2_invertEdges_29 : decode cX2_invertEdges 29 = .ok (.iand, 1) := by decide +kernel
theorem dX2_invertEdges_30 : decode cX2_invertEdges 30 = .ok (.ixor, 1) := by decide +kernel
theorem dX2_invertEdges_31 : decode cX2_invertEdges 31 = .ok (.iastore, 1) := by decide +kernel
theorem dX2_invertEdges_32 : decode cX2_invertEdges 32 = .ok (.iinc 1 1, 3) := by decide +kernel
theorem dX2_invertEdges_35 : decode cX2_invertEdges 35 = .ok (.goto (-33), 3) := by decide +kernel
theorem dX2_invertEdges_38 : decode cX2_invertEdges 38 = .ok (.return_, 1) := by decide +kernel
set_option maxRecDepth 20000 in
theorem ggX2_invertEdges_X7_below : GoodIn wsX2_invertEdges wsX7_below := goodIn_r _ [5] (by decide +kernel) (by decide +kernel)
set_option maxRecDepth 20000 in
theorem gX2_invertEdges_X7_below_n32 : GoodIn wsX2_invertEdges (wsX7_below) := ggX2_invertEdges_X7_below
theorem in_X2_invertEdges_Graph : ∀ w ∈ u_ws RX2 TX2 3, w ∈ wsX2_invertEdges := by decide +kernel
theorem wd_X2_invertEdges_1 : Cond.fieldLink RX2 9 (TX2 0).1 (TX2 0).2.1 (TX2 0).2.2.1 ∈ wsX2_invertEdges := by decide +kernel
theorem wd_X2_invertEdges_2 : Cond.fieldLink RX2 15 (TX2 1).1 (TX2 1).2.1 (TX2 1).2.2.1 ∈ wsX2_invertEdges := by decide +kernel
theorem wd_X2_invertEdges_3 : Cond.initialized yX7_below.cls ∈ wsX2_invertEdges := by decide +kernel
theorem wd_X2_invertEdges_4 : Cond.static yX7_below ∈ wsX2_invertEdges := by decide +kernel
def r_X2_invertEdges : Room := { frames := 2, cells := 0, slots := 0, locals := 32 }
set_option maxRecDepth 100000 in
set_option maxHeartbeats 4000000 in
theorem w_X2_invertEdges_2 {K : zK} (hk : zIs K RX2 cX2_invertEdges 2 wsX2_invertEdges none r_X2_invertEdges) {τ0 : zST} (hq : zQ K none τ0) (F : Nat) : ∀ (n : Nat) (a0 : Nat) (a1 : Int32) (ha0 : atGraph (kZ K) a0) (σ : zST), m_X2_invertEdges_2 F n a0 a1 σ = some τ0 → Z K 0 0 2 [(0, .ref (eA (kZ K) a0)), (1, .int a1)] [] σ := by
  intro n
  induction n with
  | zero => intro a0 a1 ha0 σ h; cases h
  | succ n ih =>
    intro a0 a1 ha0 σ h
    rw [m_X2_invertEdges_2] at h
    refine Z_iload_n hk 1 dX2_invertEdges_2 rfl rfl ?_
    refine Z_aload_n hk 0 dX2_invertEdges_3 rfl rfl ?_
    refine Z_get hk in_X2_invertEdges_Graph rfl ha0.cell.1 (ha0.cell.2 _) 0 (by decide) wd_X2_invertEdges_1 rfl dX2_invertEdges_4 ?_
    refine Z_icmp_ge hk (tgt := 38) dX2_invertEdges_7 (by decide) (fun c1 => ?_) (fun c1 => ?_)
    · have h := if_yes h c1
      cases h
      exact Z_vret hk hq dX2_invertEdges_38
    · have h := if_no h c1
      refine Z_aload_n hk 0 dX2_invertEdges_10 rfl rfl ?_
      refine Z_get hk in_X2_invertEdges_Graph rfl ha0.cell.1 (ha0.cell.2 _) 1 (by decide) wd_X2_invertEdges_2 rfl dX2_invertEdges_11 ?_
      refine Z_iload_n hk 1 dX2_invertEdges_14 rfl rfl ?_
      refine Z_dup2 hk dX2_invertEdges_15 rfl rfl ?_
      obtain ⟨i4, x2, e3, h⟩ := ldI_get h
      refine Z_iald hk (ha0.near) i4 dX2_invertEdges_16 ?_
      refine Z_eqI e3 ?_
      refine Z_aload_n hk 0 dX2_invertEdges_17 rfl rfl ?_
      refine Z_get hk in_X2_invertEdges_Graph rfl ha0.cell.1 (ha0.cell.2 _) 0 (by decide) wd_X2_invertEdges_1 rfl dX2_invertEdges_18 ?_
      obtain ⟨x5, s6, h7, h⟩ := bd_ok h
      refine Z_callSN 1 hk [.int (gI σ a0 0)] (c_X7_below hk.loc hk.inj F (gI σ a0 0) σ h7) gX2_invertEdges_X7_below_n32 nw_10 rfl ⟨rfl, rfl⟩ ⟨wd_X2_invertEdges_3, wd_X2_invertEdges_4⟩ (by decide +kernel) ⟨Nat.le_of_ble_eq_true rfl, Nat.le_of_ble_eq_true rfl⟩ rfl rfl (Nat.le_of_ble_eq_true rfl) ⟨Nat.zero_le _, Nat.zero_le _⟩ dX2_invertEdges_21 ?_
      show Z K 0 0 24 [(0, .ref (eA (kZ K) a0)), (1, .int a1)] [.int x5, .int x2, .int a1, .ref (eA (kZ K) (a0 + 1))] s6
      refine Z_iconst hk dX2_invertEdges_24 zc_iconst_1 ?_
      refine Z_iload_n hk 1 dX2_invertEdges_25 rfl rfl ?_
      refine Z_ishl hk dX2_invertEdges_26 ?_
      refine Z_iconst hk dX2_invertEdges_27 zc_iconst_m1 ?_
      refine Z_ixor hk dX2_invertEdges_28 ?_
      refine Z_iand hk dX2_invertEdges_29 ?_
      refine Z_ixor hk dX2_invertEdges_30 ?_
      obtain ⟨i10, s8, e9, h⟩ := stI_get h
      refine Z_iast hk (ha0.near) i10 dX2_invertEdges_31 ?_
      refine Z_eqS e9 ?_
      obtain ⟨x11, e12, h⟩ := nm_get h
      refine Z_iinc hk 1 (v := x11) (lv' := [(1, .int x11), (0, .ref (eA (kZ K) a0))]) dX2_invertEdges_32 rfl (by rw [zc_iinc_1]; exact e12) (by decide) rfl ?_
      refine Z_goto hk (tgt := 2) dX2_invertEdges_35 (by decide) ?_
      refine Z_sub [1, 0] rfl ?_
      exact ih a0 x11 ha0 s8 h
set_option maxRecDepth 100000 in
set_option maxHeartbeats 4000000 in
theorem w_X2_invertEdges {K : zK} (hk : zIs K RX2 cX2_invertEdges 2 wsX2_invertEdges none r_X2_invertEdges) {τ0 : zST} (hq : zQ K none τ0) (F : Nat) (a0 : Nat) (ha0 : atGraph (kZ K) a0) (σ : zST) (h : m_X2_invertEdges F a0 σ = some τ0) : Z K 0 0 0 [(0, .ref (eA (kZ K) a0))] [] σ := by
  unfold m_X2_invertEdges at h
  refine Z_iconst hk dX2_invertEdges_0 zc_iconst_0 ?_
  refine Z_istore_n hk (lv' := [(1, .int 0), (0, .ref (eA (kZ K) a0))]) dX2_invertEdges_1 rfl (by decide) rfl ?_
  refine Z_sub [1, 0] rfl ?_
  exact w_X2_invertEdges_2 hk hq F F a0 0 ha0 σ h
theorem c_X2_invertEdges {l : Launch} {E : zE} (hL : eL E) (hJ : eJ E) (F : Nat) (a0 : Nat) (ha0 : atGraph E a0) (σ : zST) {τ0 : zST} (h : m_X2_invertEdges F a0 σ = some τ0) : Ct l yX2_invertEdges wsX2_invertEdges r_X2_invertEdges E [.ref (eA E a0)] σ none τ0 := by
  refine Ct_of (by decide) rfl hL hJ (Nat.le_of_ble_eq_true rfl) (fun K hE hl hk hq => ?_)
  subst hE
  exact w_X2_invertEdges hk hq F a0 ha0 σ h
end

-- CanonCote$Graph.countEdges ()I
section
theorem dX2_countEdges_0 : decode cX2_countEdges 0 = .ok (.iconst 0, 1) := by decide +kernel
theorem dX2_countEdges_1 : decode cX2_countEdges 1 = .ok (.istore_n 1, 1) := by decide +kernel
theorem dX2_countEdges_2 : decode cX2_countEdges 2 = .ok (.iconst 0, 1) := by decide +kernel
theorem dX2_countEdges_3 : decode cX2_countEdges 3 = .ok (.istore_n 2, 1) := by decide +kernel
theorem dX2_countEdges_4 : decode cX2_countEdges 4 = .ok (.iload_n 2, 1) := by decide +kernel
theorem dX2_countEdges_5 : decode cX2_countEdges 5 = .ok (.aload_n 0, 1) := by decide +kernel
theorem dX2_countEdges_6 : decode cX2_countEdges 6 = .ok (.getfield 9, 3) := by decide +kernel
theorem dX2_countEdges_9 : decode cX2_countEdges 9 = .ok (.if_icmp .ge 21, 3) := by decide +kernel
theorem dX2_countEdges_12 : decode cX2_countEdges 12 = .ok (.iload_n 1, 1) := by decide +kernel
theorem dX2_countEdges_13 : decode cX2_countEdges 13 = .ok (.aload_n 0, 1) := by decide +kernel
theorem dX2_countEdges_14 : decode cX2_countEdges 14 = .ok (.getfield 15, 3) := by decide +kernel
theorem dX2_countEdges_17 : decode cX2_countEdges 17 = .ok (.iload_n 2, 1) := by decide +kernel
theorem dX2_countEdges_18 : decode cX2_countEdges 18 = .ok (.iaload, 1) := by decide +kernel
theorem dX2_countEdges_19 : decode cX2_countEdges 19 = .ok (.invokestatic 36, 3) := by decide +kernel
theorem dX2_countEdges_22 : decode cX2_countEdges 22 = .ok (.iadd, 1) := by decide +kernel
theorem dX2_countEdges_23 : decode cX2_countEdges 23 = .ok (.istore_n 1, 1) := by decide +kernel
theorem dX2_countEdges_24 : decode cX2_countEdges 24 = .ok (.iinc 2 1, 3) := by decide +kernel
theorem dX2_countEdges_27 : decode cX2_countEdges 27 = .ok (.goto (-23), 3) := by decide +kernel
theorem dX2_countEdges_30 : decode cX2_countEdges 30 = .ok (.iload_n 1, 1) := by decide +kernel
theorem dX2_countEdges_31 : decode cX2_countEdges 31 = .ok (.iconst 2, 1) := by decide +kernel
theorem dX2_countEdges_32 : decode cX2_countEdges 32 = .ok (.idiv, 1) := by decide +kernel
theorem dX2_countEdges_33 : decode cX2_countEdges 33 = .ok (.ireturn, 1) := by decide +kernel
set_option maxRecDepth 20000 in
theorem ggX2_countEdges_J6_bitCount_0f7a4 : GoodIn wsX2_countEdges wsJ6_bitCount_0f7a4 := goodIn_r _ [6, 7, 8, 9] (by decide +kernel) (by decide +kernel)
set_option maxRecDepth 20000 in
theorem gX2_countEdges_J6_bitCount_0f7a4 : GoodIn wsX2_countEdges (va_wsS RX2 36 yJ6_bitCount_0f7a4 wsJ6_bitCount_0f7a4) := goodIn_app (goodIn_of _ (by decide +kernel)) ggX2_countEdges_J6_bitCount_0f7a4
theorem in_X2_countEdges_Graph : ∀ w ∈ u_ws RX2 TX2 3, w ∈ wsX2_countEdges := by decide +kernel
theorem wd_X2_countEdges_1 : Cond.fieldLink RX2 9 (TX2 0).1 (TX2 0).2.1 (TX2 0).2.2.1 ∈ wsX2_countEdges := by decide +kernel
theorem wd_X2_countEdges_2 : Cond.fieldLink RX2 15 (TX2 1).1 (TX2 1).2.1 (TX2 1).2.2.1 ∈ wsX2_countEdges := by decide +kernel
def r_X2_countEdges : Room := { frames := 2, cells := 0, slots := 0, locals := 32 }
set_option maxRecDepth 100000 in
set_option maxHeartbeats 4000000 in
theorem w_X2_countEdges_4 {K : zK} (hk : zIs K RX2 cX2_countEdges 3 wsX2_countEdges (some .int) r_X2_countEdges) {r0 : Int32} {τ0 : zST} (hq : zQ K (some (.int r0)) τ0) (F : Nat) : ∀ (n : Nat) (a0 : Nat) (a1 : Int32) (a2 : Int32) (ha0 : atGraph (kZ K) a0) (σ : zST), m_X2_countEdges_4 F n a0 a1 a2 σ = some (r0, τ0) → Z K 0 0 4 [(0, .ref (eA (kZ K) a0)), (1, .int a1), (2, .int a2)] [] σ := by
  intro n
  induction n with
  | zero => intro a0 a1 a2 ha0 σ h; cases h
  | succ n ih =>
    intro a0 a1 a2 ha0 σ h
    rw [m_X2_countEdges_4] at h
    refine Z_iload_n hk 2 dX2_countEdges_4 rfl rfl ?_
    refine Z_aload_n hk 0 dX2_countEdges_5 rfl rfl ?_
    refine Z_get hk in_X2_countEdges_Graph rfl ha0.cell.1 (ha0.cell.2 _) 0 (by decide) wd_X2_countEdges_1 rfl dX2_countEdges_6 ?_
    refine Z_icmp_ge hk (tgt := 30) dX2_countEdges_9 (by decide) (fun c1 => ?_) (fun c1 => ?_)
    · have h := if_yes h c1
      refine Z_iload_n hk 1 dX2_countEdges_30 rfl rfl ?_
      refine Z_iconst hk dX2_countEdges_31 zc_iconst_2 ?_
      refine Z_idiv hk dX2_countEdges_32 (by decide) ?_
      cases h
      exact Z_iret hk hq dX2_countEdges_33
    · have h := if_no h c1
      refine Z_iload_n hk 1 dX2_countEdges_12 rfl rfl ?_
      refine Z_aload_n hk 0 dX2_countEdges_13 rfl rfl ?_
      refine Z_get hk in_X2_countEdges_Graph rfl ha0.cell.1 (ha0.cell.2 _) 1 (by decide) wd_X2_countEdges_2 rfl dX2_countEdges_14 ?_
      refine Z_iload_n hk 2 dX2_countEdges_17 rfl rfl ?_
      obtain ⟨i4, x2, e3, h⟩ := ldI_get h
      refine Z_iald hk (ha0.near) i4 dX2_countEdges_18 ?_
      refine Z_eqI e3 ?_
      obtain ⟨x5, s6, h7, h⟩ := bd_ok h
      refine Z_callT 1 hk [.int x2] (c_J6_bitCount_0f7a4 hk.loc hk.inj F x2 σ h7) gX2_countEdges_J6_bitCount_0f7a4 rfl ⟨rfl, rfl⟩ (by decide +kernel) ⟨Nat.le_of_ble_eq_true rfl, Nat.le_of_ble_eq_true rfl⟩ rfl rfl (Nat.le_of_ble_eq_true rfl) ⟨Nat.zero_le _, Nat.zero_le _⟩ dX2_countEdges_19 ?_
      show Z K 0 0 22 [(0, .ref (eA (kZ K) a0)), (1, .int a1), (2, .int a2)] [.int x5, .int a1] s6
      refine Z_iadd hk dX2_countEdges_22 ?_
      obtain ⟨x8, e9, h⟩ := nm_get h
      refine Z_eqI e9 ?_
      refine Z_istore_n hk (lv' := [(1, .int x8), (0, .ref (eA (kZ K) a0)), (2, .int a2)]) dX2_countEdges_23 rfl (by decide) rfl ?_
      obtain ⟨x10, e11, h⟩ := nm_get h
      refine Z_iinc hk 2 (v := x10) (lv' := [(2, .int x10), (1, .int x8), (0, .ref (eA (kZ K) a0))]) dX2_countEdges_24 rfl (by rw [zc_iinc_1]; exact e11) (by decide) rfl ?_
      refine Z_goto hk (tgt := 4) dX2_countEdges_27 (by decide) ?_
      refine Z_sub [2, 1, 0] rfl ?_
      exact ih a0 x8 x10 ha0 s6 h
set_option maxRecDepth 100000 in
set_option maxHeartbeats 4000000 in
theorem w_X2_countEdges {K : zK} (hk : zIs K RX2 cX2_countEdges 3 wsX2_countEdges (some .int) r_X2_countEdges) {r0 : Int32} {τ0 : zST} (hq : zQ K (some (.int r0)) τ0) (F : Nat) (a0 : Nat) (ha0 : atGraph (kZ K) a0) (σ : zST) (h : m_X2_countEdges F a0 σ = some (r0, τ0)) : Z K 0 0 0 [(0, .ref (eA (kZ K) a0))] [] σ := by
  unfold m_X2_countEdges at h
  refine Z_iconst hk dX2_countEdges_0 zc_iconst_0 ?_
  refine Z_istore_n hk (lv' := [(1, .int 0), (0, .ref (eA (kZ K) a0))]) dX2_countEdges_1 rfl (by decide) rfl ?_
  refine Z_iconst hk dX2_countEdges_2 zc_iconst_0 ?_
  refine Z_istore_n hk (lv' := [(2, .int 0), (1, .int 0), (0, .ref (eA (kZ K) a0))]) dX2_countEdges_3 rfl (by decide) rfl ?_
  refine Z_sub [2, 1, 0] rfl ?_
  exact w_X2_countEdges_4 hk hq F F a0 0 0 ha0 σ h
theorem c_X2_countEdges {l : Launch} {E : zE} (hL : eL E) (hJ : eJ E) (F : Nat) (a0 : Nat) (ha0 : atGraph E a0) (σ : zST) {r0 : Int32} {τ0 : zST} (h : m_X2_countEdges F a0 σ = some (r0, τ0)) : Ct l yX2_countEdges wsX2_countEdges r_X2_countEdges E [.ref (eA E a0)] σ (some (.int r0)) τ0 := by
  refine Ct_of (by decide) rfl hL hJ (Nat.le_of_ble_eq_true rfl) (fun K hE hl hk hq => ?_)
  subst hE
  exact w_X2_countEdges hk hq F a0 ha0 σ h
end

-- CanonCote$Graph.squeeze (II)I
section
theorem dX2_squeeze_0 : decode cX2_squeeze 0 = .ok (.iconst 0, 1) := by decide +kernel
theorem dX2_squeeze_1 : decode cX2_squeeze 1 = .ok (.istore_n 2, 1) := by decide +kernel
theorem dX2_squeeze_2 : decode cX2_squeeze 2 = .ok (.iconst 0, 1) := by decide +kernel
theorem dX2_squeeze_3 : decode cX2_squeeze 3 = .ok (.istore_n 3, 1) := by decide +kernel
theorem dX2_squeeze_4 : decode cX2_squeeze 4 = .ok (.iconst 0, 1) := by decide +kernel
theorem dX2_squeeze_5 : decode cX2_squeeze 5 = .ok (.istore 4, 2) := by decide +kernel
theorem dX2_squeeze_7 : decode cX2_squeeze 7 = .ok (.iload 4, 2) := by decide +kernel
theorem dX2_squeeze_9 : decode cX2_squeeze 9 = .ok (.bipush 8, 2) := by decide +kernel
theorem dX2_squeeze_11 : decode cX2_squeeze 11 = .ok (.if_icmp .ge 32, 3) := by decide +kernel
theorem dX2_squeeze_14 : decode cX2_squeeze 14 = .ok (.iload_n 1, 1) := by decide +kernel
theorem dX2_squeeze_15 : decode cX2_squeeze 15 = .ok (.iload 4, 2) := by decide +kernel
theorem dX2_squeeze_17 : decode cX2_squeeze 17 = .ok (.invokestatic 28, 3) := by decide +kernel
theorem dX2_squeeze_20 : decode cX2_squeeze 20 = .ok (.ifCond .eq 17, 3) := by decide +kernel
theorem dX2_squeeze_23 : decode cX2_squeeze 23 = .ok (.iload_n 2, 1) := by decide +kernel
theorem dX2_squeeze_24 : decode cX2_squeeze 24 = .ok (.iload_n 0, 1) := by decide +kernel
theorem dX2_squeeze_25 : decode cX2_squeeze 25 = .ok (.iload 4, 2) := by decide +kernel
theorem dX2_squeeze_27 : decode cX2_squeeze 27 = .ok (.ishr, 1) := by decide +kernel
theorem dX2_squeeze_28 : decode cX2_squeeze 28 = .ok (.iconst 1, 1) := by decide +kernel
theorem dX2_squeeze_29 : decode cX2_squeeze 29 = .ok (.iand, 1) := by decide +kernel
theorem dX2_squeeze_30 : decode cX2_squeeze 30 = .ok (.iload_n 3, 1) := by decide +kernel
theorem dX2_squeeze_31 : decode cX2_squeeze 31 = .ok (.ishl, 1) := by decide +kernel
theorem dX2_squeeze_32 : decode cX2_squeeze 32 = .ok (.ior, 1) := by decide +kernel
theorem dX2_squeeze_33 : decode cX2_squeeze 33 = .ok (.istore_n 2, 1) := by decide +kernel
theorem dX2_squeeze_34 : decode cX2_squeeze 34 = .ok (.iinc 3 1, 3) := by decide +kernel
theorem dX2_squeeze_37 : decode cX2_squeeze 37 = .ok (.iinc 4 1, 3) := by decide +kernel
theorem dX2_squeeze_40 : decode cX2_squeeze 40 = .ok (.goto (-33), 3) := by decide +kernel
theorem dX2_squeeze_43 : decode cX2_squeeze 43 = .ok (.iload_n 2, 1) := by decide +kernel
theorem dX2_squeeze_44 : decode cX2_squeeze 44 = .ok (.ireturn, 1) := by decide +kernel
set_option maxRecDepth 20000 in
theorem ggX2_squeeze_X7_isIn : GoodIn wsX2_squeeze wsX7_isIn := goodIn_r _ [3] (by decide +kernel) (by decide +kernel)
set_option maxRecDepth 20000 in
theorem gX2_squeeze_X7_isIn_n28 : GoodIn wsX2_squeeze (wsX7_isIn) := ggX2_squeeze_X7_isIn
theorem wd_X2_squeeze_0 : Cond.initialized yX7_isIn.cls ∈ wsX2_squeeze := by decide +kernel
theorem wd_X2_squeeze_1 : Cond.static yX7_isIn ∈ wsX2_squeeze := by decide +kernel
def r_X2_squeeze : Room := { frames := 2, cells := 0, slots := 0, locals := 33 }
set_option maxRecDepth 100000 in
set_option maxHeartbeats 4000000 in
theorem w_X2_squeeze_37 {K : zK} (hk : zIs K RX2 cX2_squeeze 5 wsX2_squeeze (some .int) r_X2_squeeze) {r0 : Int32} {τ0 : zST} (hq : zQ K (some (.int r0)) τ0) (F : Nat) (k7 : Int32 → Int32 → Int32 → Int32 → Int32 → zST → Option (Int32 × zST)) (hk7 : ∀ (a0 : Int32) (a1 : Int32) (a2 : Int32) (a3 : Int32) (a4 : Int32) (σ : zST), k7 a0 a1 a2 a3 a4 σ = some (r0, τ0) → Z K 0 0 7 [(0, .int a0), (1, .int a1), (2, .int a2), (3, .int a3), (4, .int a4)] [] σ) (a0 : Int32) (a1 : Int32) (a2 : Int32) (a3 : Int32) (a4 : Int32) (σ : zST) (h : m_X2_squeeze_37 F k7 a0 a1 a2 a3 a4 σ = some (r0, τ0)) : Z K 0 0 37 [(0, .int a0), (1, .int a1), (2, .int a2), (3, .int a3), (4, .int a4)] [] σ := by
  unfold m_X2_squeeze_37 at h
  obtain ⟨x10, e11, h⟩ := nm_get h
  refine Z_iinc hk 4 (v := x10) (lv' := [(4, .int x10), (0, .int a0), (1, .int a1), (2, .int a2), (3, .int a3)]) dX2_squeeze_37 rfl (by rw [zc_iinc_1]; exact e11) (by decide) rfl ?_
  refine Z_goto hk (tgt := 7) dX2_squeeze_40 (by decide) ?_
  refine Z_sub [1, 2, 3, 4, 0] rfl ?_
  exact hk7 a0 a1 a2 a3 x10 σ h
set_option maxRecDepth 100000 in
set_option maxHeartbeats 4000000 in
theorem w_X2_squeeze_7 {K : zK} (hk : zIs K RX2 cX2_squeeze 5 wsX2_squeeze (some .int) r_X2_squeeze) {r0 : Int32} {τ0 : zST} (hq : zQ K (some (.int r0)) τ0) (F : Nat) : ∀ (n : Nat) (a0 : Int32) (a1 : Int32) (a2 : Int32) (a3 : Int32) (a4 : Int32) (σ : zST), m_X2_squeeze_7 F n a0 a1 a2 a3 a4 σ = some (r0, τ0) → Z K 0 0 7 [(0, .int a0), (1, .int a1), (2, .int a2), (3, .int a3), (4, .int a4)] [] σ := by
  intro n
  induction n with
  | zero => intro a0 a1 a2 a3 a4 σ h; cases h
  | succ n ih =>
    intro a0 a1 a2 a3 a4 σ h
    rw [m_X2_squeeze_7] at h
    refine Z_iload hk 4 dX2_squeeze_7 rfl ?_
    refine Z_bipush hk dX2_squeeze_9 zc_bipush_8 ?_
    refine Z_icmp_ge hk (tgt := 43) dX2_squeeze_11 (by decide) (fun c1 => ?_) (fun c1 => ?_)
    · have h := if_yes h c1
      refine Z_iload_n hk 2 dX2_squeeze_43 rfl rfl ?_
      cases h
      exact Z_iret hk hq dX2_squeeze_44
    · have h := if_no h c1
      refine Z_iload_n hk 1 dX2_squeeze_14 rfl rfl ?_
      refine Z_iload hk 4 dX2_squeeze_15 rfl ?_
      obtain ⟨x2, s3, h4, h⟩ := bd_ok h
      refine Z_callSN 2 hk [.int a1, .int a4] (c_X7_isIn hk.loc hk.inj F a1 a4 σ h4) gX2_squeeze_X7_isIn_n28 nw_9 rfl ⟨rfl, rfl⟩ ⟨wd_X2_squeeze_0, wd_X2_squeeze_1⟩ (by decide +kernel) ⟨Nat.le_of_ble_eq_true rfl, Nat.le_of_ble_eq_true rfl⟩ rfl rfl (Nat.le_of_ble_eq_true rfl) ⟨Nat.zero_le _, Nat.zero_le _⟩ dX2_squeeze_17 ?_
      show Z K 0 0 20 [(0, .int a0), (1, .int a1), (2, .int a2), (3, .int a3), (4, .int a4)] [.int x2] s3
      refine Z_if_eq hk (tgt := 37) dX2_squeeze_20 (by decide) (fun c5 => ?_) (fun c5 => ?_)
      · have h := if_yes h c5
        refine Z_sub [0, 1, 2, 3, 4] rfl ?_
        exact w_X2_squeeze_37 hk hq F (m_X2_squeeze_7 F n) ih a0 a1 a2 a3 a4 s3 h
      · have h := if_no h c5
        refine Z_iload_n hk 2 dX2_squeeze_23 rfl rfl ?_
        refine Z_iload_n hk 0 dX2_squeeze_24 rfl rfl ?_
        refine Z_iload hk 4 dX2_squeeze_25 rfl ?_
        refine Z_ishr hk dX2_squeeze_27 ?_
        refine Z_iconst hk dX2_squeeze_28 zc_iconst_1 ?_
        refine Z_iand hk dX2_squeeze_29 ?_
        refine Z_iload_n hk 3 dX2_squeeze_30 rfl rfl ?_
        refine Z_ishl hk dX2_squeeze_31 ?_
        refine Z_ior hk dX2_squeeze_32 ?_
        obtain ⟨x6, e7, h⟩ := nm_get h
        refine Z_eqI e7 ?_
        refine Z_istore_n hk (lv' := [(2, .int x6), (0, .int a0), (1, .int a1), (3, .int a3), (4, .int a4)]) dX2_squeeze_33 rfl (by decide) rfl ?_
        obtain ⟨x8, e9, h⟩ := nm_get h
        refine Z_iinc hk 3 (v := x8) (lv' := [(3, .int x8), (2, .int x6), (0, .int a0), (1, .int a1), (4, .int a4)]) dX2_squeeze_34 rfl (by rw [zc_iinc_1]; exact e9) (by decide) rfl ?_
        refine Z_sub [2, 3, 1, 0, 4] rfl ?_
        exact w_X2_squeeze_37 hk hq F (m_X2_squeeze_7 F n) ih a0 a1 x6 x8 a4 s3 h
set_option maxRecDepth 100000 in
set_option maxHeartbeats 4000000 in
theorem w_X2_squeeze {K : zK} (hk : zIs K RX2 cX2_squeeze 5 wsX2_squeeze (some .int) r_X2_squeeze) {r0 : Int32} {τ0 : zST} (hq : zQ K (some (.int r0)) τ0) (F : Nat) (a0 : Int32) (a1 : Int32) (σ : zST) (h : m_X2_squeeze F a0 a1 σ = some (r0, τ0)) : Z K 0 0 0 [(0, .int a0), (1, .int a1)] [] σ := by
  unfold m_X2_squeeze at h
  refine Z_iconst hk dX2_squeeze_0 zc_iconst_0 ?_
  refine Z_istore_n hk (lv' := [(2, .int 0), (0, .int a0), (1, .int a1)]) dX2_squeeze_1 rfl (by decide) rfl ?_
  refine Z_iconst hk dX2_squeeze_2 zc_iconst_0 ?_
  refine Z_istore_n hk (lv' := [(3, .int 0), (2, .int 0), (0, .int a0), (1, .int a1)]) dX2_squeeze_3 rfl (by decide) rfl ?_
  refine Z_iconst hk dX2_squeeze_4 zc_iconst_0 ?_
  refine Z_istore hk (lv' := [(4, .int 0), (3, .int 0), (2, .int 0), (0, .int a0), (1, .int a1)]) dX2_squeeze_5 (by decide) rfl ?_
  refine Z_sub [3, 4, 2, 1, 0] rfl ?_
  exact w_X2_squeeze_7 hk hq F F a0 a1 0 0 0 σ h
theorem c_X2_squeeze {l : Launch} {E : zE} (hL : eL E) (hJ : eJ E) (F : Nat) (a0 : Int32) (a1 : Int32) (σ : zST) {r0 : Int32} {τ0 : zST} (h : m_X2_squeeze F a0 a1 σ = some (r0, τ0)) : Ct l yX2_squeeze wsX2_squeeze r_X2_squeeze E [.int a0, .int a1] σ (some (.int r0)) τ0 := by
  refine Ct_of (by decide) rfl hL hJ (Nat.le_of_ble_eq_true rfl) (fun K hE hl hk hq => ?_)
  subst hE
  exact w_X2_squeeze hk hq F a0 a1 σ h
end

-- CanonCote$Graph.becomePart (LCanonCote$Graph;I)V
section
theorem dX2_becomePart_0 : decode cX2_becomePart 0 = .ok (.aload_n 0, 1) := by decide +kernel
theorem dX2_becomePart_1 : decode cX2_becomePart 1 = .ok (.iconst 0, 1) := by decide +kernel
theorem dX2_becomePart_2 : decode cX2_becomePart 2 = .ok (.putfield 9, 3) := by decide +kernel
theorem dX2_becomePart_5 : decode cX2_becomePart 5 = .ok (.iconst 0, 1) := by decide +kernel
theorem dX2_becomePart_6 : decode cX2_becomePart 6 = .ok (.istore_n 3, 1) := by decide +kernel
theorem dX2_becomePart_7 : decode cX2_becomePart 7 = .ok (.iload_n 3, 1) := by decide +kernel
theorem dX2_becomePart_8 : decode cX2_becomePart 8 = .ok (.aload_n 1, 1) := by decide +kernel
theorem dX2_becomePart_9 : decode cX2_becomePart 9 = .ok (.getfield 9, 3) := by decide +kernel
theorem dX2_becomePart_12 : decode cX2_becomePart 12 = .ok (.if_icmp .ge 61, 3) := by decide +kernel
theorem dX2_becomePart_15 : decode cX2_becomePart 15 = .ok (.iload_n 2, 1) := by decide +kernel
theorem dX2_becomePart_16 : decode cX2_becomePart 16 = .ok (.iload_n 3, 1) := by decide +kernel
theorem dX2_becomePart_17 : decode cX2_becomePart 17 = .ok (.invokestatic 28, 3) := by decide +kernel
theorem dX2_becomePart_20 : decode cX2_becomePart 20 = .ok (.ifCond .eq 47, 3) := by decide +kernel
theorem dX2_becomePart_23 : decode cX2_becomePart 23 = .ok (.aload_n 0, 1) := by decide +kernel
theorem dX2_becomePart_24 : decode cX2_becomePart 24 = .ok (.getfield 19, 3) := by decide +kernel
theorem dX2_becomePart_27 : decode cX2_becomePart 27 = .ok (.aload_n 0, 1) := by decide +kernel
theorem dX2_becomePart_28 : decode cX2_becomePart 28 = .ok (.getfield 9, 3) := by decide +kernel
theorem dX2_becomePart_31 : decode cX2_becomePart 31 = .ok (.aload_n 1, 1) := by decide +kernel
theorem dX2_becomePart_32 : decode cX2_becomePart 32 = .ok (.getfield 19, 3) := by decide +kernel
theorem dX2_becomePart_35 : decode cX2_becomePart 35 = .ok (.iload_n 3, 1) := by decide +kernel
theorem dX2_becomePart_36 : decode cX2_becomePart 36 = .ok (.iaload, 1) := by decide +kernel
theorem dX2_becomePart_37 : decode cX2_becomePart 37 = .ok (.iastore, 1) := by decide +kernel
theorem dX2_becomePart_38 : decode cX2_becomePart 38 = .ok (.aload_n 0, 1) := by decide +kernel
theorem dX2_becomePart_39 : decode cX2_becomePart 39 = .ok (.getfield 15, 3) := by decide +kernel
theorem dX2_becomePart_42 : decode cX2_becomePart 42 = .ok (.aload_n 0, 1) := by decide +kernel
theorem dX2_becomePart_43 : decode cX2_becomePart 43 = .ok (.getfield 9, 3) := by decide +kernel
theorem dX2_becomePart_46 : decode cX2_becomePart 46 = .ok (.aload_n 1, 1) := by decide +kernel
theorem dX2_becomePart_47 : decode cX2_becomePart 47 = .ok (.getfield 15, 3) := by decide +kernel
theorem dX2_becomePart_50 : decode cX2_becomePart 50 = .ok (.iload_n 3, 1) := by decide +kernel
theorem dX2_becomePart_51 : decode cX2_becomePart 51 = .ok (.iaload, 1) := by decide +kernel
theorem dX2_becomePart_52 : decode cX2_becomePart 52 = .ok (.iload_n 2, 1) := by decide +kernel
theorem dX2_becomePart_53 : decode cX2_becomePart 53 = .ok (.invokestatic 41, 3) := by decide +kernel
theorem dX2_becomePart_56 : decode cX2_becomePart 56 = .ok (.iastore, 1) := by decide +kernel
theorem dX2_becomePart_57 : decode cX2_becomePart 57 = .ok (.aload_n 0, 1) := by decide +kernel
theorem dX2_becomePart_58 : decode cX2_becomePart 58 = .ok (.dup, 1) := by decide +kernel
theorem dX2_becomePart_59 : decode cX2_becomePart 59 = .ok (.getfield 9, 3) := by decide +kernel
theorem dX2_becomePart_62 : decode cX2_becomePart 62 = .ok (.iconst 1, 1) := by decide +kernel
theorem dX2_becomePart_63 : decode cX2_becomePart 63 = .ok (.iadd, 1) := by decide +kernel
theorem dX2_becomePart_64 : decode cX2_becomePart 64 = .ok (.putfield 9, 3) := by decide +kernel
theorem dX2_becomePart_67 : decode cX2_becomePart 67 = .ok (.iinc 3 1, 3) := by decide +kernel
theorem dX2_becomePart_70 : decode cX2_becomePart 70 = .ok (.goto (-63), 3) := by decide +kernel
theorem dX2_becomePart_73 : decode cX2_becomePart 73 = .ok (.return_, 1) := by decide +kernel
set_option maxRecDepth 20000 in
theorem ggX2_becomePart_X7_isIn : GoodIn wsX2_becomePart wsX7_isIn := goodIn_r _ [6] (by decide +kernel) (by decide +kernel)
set_option maxRecDepth 20000 in
theorem gX2_becomePart_X7_isIn_n28 : GoodIn wsX2_becomePart (wsX7_isIn) := ggX2_becomePart_X7_isIn
set_option maxRecDepth 20000 in
theorem ggX2_becomePart_X2_squeeze : GoodIn wsX2_becomePart wsX2_squeeze := goodIn_r _ [10, 4, 5, 6] (by decide +kernel) (by decide +kernel)
set_option maxRecDepth 20000 in
theorem gX2_becomePart_X2_squeeze : GoodIn wsX2_becomePart (va_wsS RX2 41 yX2_squeeze wsX2_squeeze) := goodIn_app (goodIn_of _ (by decide +kernel)) ggX2_becomePart_X2_squeeze
theorem in_X2_becomePart_Graph : ∀ w ∈ u_ws RX2 TX2 3, w ∈ wsX2_becomePart := by decide +kernel
theorem wd_X2_becomePart_1 : Cond.fieldLink RX2 9 (TX2 0).1 (TX2 0).2.1 (TX2 0).2.2.1 ∈ wsX2_becomePart := by decide +kernel
theorem wd_X2_becomePart_2 : Cond.initialized yX7_isIn.cls ∈ wsX2_becomePart := by decide +kernel
theorem wd_X2_becomePart_3 : Cond.static yX7_isIn ∈ wsX2_becomePart := by decide +kernel
theorem wd_X2_becomePart_4 : Cond.fieldLink RX2 19 (TX2 2).1 (TX2 2).2.1 (TX2 2).2.2.1 ∈ wsX2_becomePart := by decide +kernel
theorem wd_X2_becomePart_5 : Cond.fieldLink RX2 15 (TX2 1).1 (TX2 1).2.1 (TX2 1).2.2.1 ∈ wsX2_becomePart := by decide +kernel
def r_X2_becomePart : Room := { frames := 3, cells := 0, slots := 0, locals := 57 }
set_option maxRecDepth 100000 in
set_option maxHeartbeats 4000000 in
theorem w_X2_becomePart_67 {K : zK} (hk : zIs K RX2 cX2_becomePart 4 wsX2_becomePart none r_X2_becomePart) {τ0 : zST} (hq : zQ K none τ0) (F : Nat) (k7 : Nat → Nat → Int32 → Int32 → zST → Option zST) (hk7 : ∀ (a0 : Nat) (a1 : Nat) (a2 : Int32) (a3 : Int32) (ha0 : atGraph (kZ K) a0) (ha1 : atGraph (kZ K) a1) (σ : zST), k7 a0 a1 a2 a3 σ = some τ0 → Z K 0 0 7 [(0, .ref (eA (kZ K) a0)), (1, .ref (eA (kZ K) a1)), (2, .int a2), (3, .int a3)] [] σ) (a0 : Nat) (a1 : Nat) (a2 : Int32) (a3 : Int32) (ha0 : atGraph (kZ K) a0) (ha1 : atGraph (kZ K) a1) (σ : zST) (h : m_X2_becomePart_67 F k7 a0 a1 a2 a3 σ = some τ0) : Z K 0 0 67 [(0, .ref (eA (kZ K) a0)), (1, .ref (eA (kZ K) a1)), (2, .int a2), (3, .int a3)] [] σ := by
  unfold m_X2_becomePart_67 at h
  obtain ⟨x25, e26, h⟩ := nm_get h
  refine Z_iinc hk 3 (v := x25) (lv' := [(3, .int x25), (0, .ref (eA (kZ K) a0)), (1, .ref (eA (kZ K) a1)), (2, .int a2)]) dX2_becomePart_67 rfl (by rw [zc_iinc_1]; exact e26) (by decide) rfl ?_
  refine Z_goto hk (tgt := 7) dX2_becomePart_70 (by decide) ?_
  refine Z_sub [1, 2, 3, 0] rfl ?_
  exact hk7 a0 a1 a2 x25 ha0 ha1 σ h
set_option maxRecDepth 100000 in
set_option maxHeartbeats 4000000 in
theorem w_X2_becomePart_7 {K : zK} (hk : zIs K RX2 cX2_becomePart 4 wsX2_becomePart none r_X2_becomePart) {τ0 : zST} (hq : zQ K none τ0) (F : Nat) : ∀ (n : Nat) (a0 : Nat) (a1 : Nat) (a2 : Int32) (a3 : Int32) (ha0 : atGraph (kZ K) a0) (ha1 : atGraph (kZ K) a1) (σ : zST), m_X2_becomePart_7 F n a0 a1 a2 a3 σ = some τ0 → Z K 0 0 7 [(0, .ref (eA (kZ K) a0)), (1, .ref (eA (kZ K) a1)), (2, .int a2), (3, .int a3)] [] σ := by
  intro n
  induction n with
  | zero => intro a0 a1 a2 a3 ha0 ha1 σ h; cases h
  | succ n ih =>
    intro a0 a1 a2 a3 ha0 ha1 σ h
    rw [m_X2_becomePart_7] at h
    refine Z_iload_n hk 3 dX2_becomePart_7 rfl rfl ?_
    refine Z_aload_n hk 1 dX2_becomePart_8 rfl rfl ?_
    refine Z_get hk in_X2_becomePart_Graph rfl ha1.cell.1 (ha1.cell.2 _) 0 (by decide) wd_X2_becomePart_1 rfl dX2_becomePart_9 ?_
    refine Z_icmp_ge hk (tgt := 73) dX2_becomePart_12 (by decide) (fun c3 => ?_) (fun c3 => ?_)
    · have h := if_yes h c3
      cases h
      exact Z_vret hk hq dX2_becomePart_73
    · have h := if_no h c3
      refine Z_iload_n hk 2 dX2_becomePart_15 rfl rfl ?_
      refine Z_iload_n hk 3 dX2_becomePart_16 rfl rfl ?_
      obtain ⟨x4, s5, h6, h⟩ := bd_ok h
      refine Z_callSN 2 hk [.int a2, .int a3] (c_X7_isIn hk.loc hk.inj F a2 a3 σ h6) gX2_becomePart_X7_isIn_n28 nw_9 rfl ⟨rfl, rfl⟩ ⟨wd_X2_becomePart_2, wd_X2_becomePart_3⟩ (by decide +kernel) ⟨Nat.le_of_ble_eq_true rfl, Nat.le_of_ble_eq_true rfl⟩ rfl rfl (Nat.le_of_ble_eq_true rfl) ⟨Nat.zero_le _, Nat.zero_le _⟩ dX2_becomePart_17 ?_
      show Z K 0 0 20 [(0, .ref (eA (kZ K) a0)), (1, .ref (eA (kZ K) a1)), (2, .int a2), (3, .int a3)] [.int x4] s5
      refine Z_if_eq hk (tgt := 67) dX2_becomePart_20 (by decide) (fun c7 => ?_) (fun c7 => ?_)
      · have h := if_yes h c7
        refine Z_sub [0, 1, 2, 3] rfl ?_
        exact w_X2_becomePart_67 hk hq F (m_X2_becomePart_7 F n) ih a0 a1 a2 a3 ha0 ha1 s5 h
      · have h := if_no h c7
        refine Z_aload_n hk 0 dX2_becomePart_23 rfl rfl ?_
        refine Z_get hk in_X2_becomePart_Graph rfl ha0.cell.1 (ha0.cell.2 _) 2 (by decide) wd_X2_becomePart_4 rfl dX2_becomePart_24 ?_
        refine Z_aload_n hk 0 dX2_becomePart_27 rfl rfl ?_
        refine Z_get hk in_X2_becomePart_Graph rfl ha0.cell.1 (ha0.cell.2 _) 0 (by decide) wd_X2_becomePart_1 rfl dX2_becomePart_28 ?_
        refine Z_aload_n hk 1 dX2_becomePart_31 rfl rfl ?_
        refine Z_get hk in_X2_becomePart_Graph rfl ha1.cell.1 (ha1.cell.2 _) 2 (by decide) wd_X2_becomePart_4 rfl dX2_becomePart_32 ?_
        refine Z_iload_n hk 3 dX2_becomePart_35 rfl rfl ?_
        obtain ⟨i10, x8, e9, h⟩ := ldI_get h
        refine Z_iald hk (ha1.colours) i10 dX2_becomePart_36 ?_
        refine Z_eqI e9 ?_
        obtain ⟨i13, s11, e12, h⟩ := stI_get h
        refine Z_iast hk (ha0.colours) i13 dX2_becomePart_37 ?_
        refine Z_eqS e12 ?_
        refine Z_aload_n hk 0 dX2_becomePart_38 rfl rfl ?_
        refine Z_get hk in_X2_becomePart_Graph rfl ha0.cell.1 (ha0.cell.2 _) 1 (by decide) wd_X2_becomePart_5 rfl dX2_becomePart_39 ?_
        refine Z_aload_n hk 0 dX2_becomePart_42 rfl rfl ?_
        refine Z_get hk in_X2_becomePart_Graph rfl ha0.cell.1 (ha0.cell.2 _) 0 (by decide) wd_X2_becomePart_1 rfl dX2_becomePart_43 ?_
        refine Z_aload_n hk 1 dX2_becomePart_46 rfl rfl ?_
        refine Z_get hk in_X2_becomePart_Graph rfl ha1.cell.1 (ha1.cell.2 _) 1 (by decide) wd_X2_becomePart_5 rfl dX2_becomePart_47 ?_
        refine Z_iload_n hk 3 dX2_becomePart_50 rfl rfl ?_
        obtain ⟨i16, x14, e15, h⟩ := ldI_get h
        refine Z_iald hk (ha1.near) i16 dX2_becomePart_51 ?_
        refine Z_eqI e15 ?_
        refine Z_iload_n hk 2 dX2_becomePart_52 rfl rfl ?_
        obtain ⟨x17, s18, h19, h⟩ := bd_ok h
        refine Z_callT 2 hk [.int x14, .int a2] (c_X2_squeeze hk.loc hk.inj F x14 a2 s11 h19) gX2_becomePart_X2_squeeze rfl ⟨rfl, rfl⟩ (by decide +kernel) ⟨Nat.le_of_ble_eq_true rfl, Nat.le_of_ble_eq_true rfl⟩ rfl rfl (Nat.le_of_ble_eq_true rfl) ⟨Nat.zero_le _, Nat.zero_le _⟩ dX2_becomePart_53 ?_
        show Z K 0 0 56 [(0, .ref (eA (kZ K) a0)), (1, .ref (eA (kZ K) a1)), (2, .int a2), (3, .int a3)] [.int x17, .int (gI s11 a0 0), .ref (eA (kZ K) (a0 + 1))] s18
        obtain ⟨i22, s20, e21, h⟩ := stI_get h
        refine Z_iast hk (ha0.near) i22 dX2_becomePart_56 ?_
        refine Z_eqS e21 ?_
        refine Z_aload_n hk 0 dX2_becomePart_57 rfl rfl ?_
        refine Z_dup hk dX2_becomePart_58 rfl ?_
        refine Z_get hk in_X2_becomePart_Graph rfl ha0.cell.1 (ha0.cell.2 _) 0 (by decide) wd_X2_becomePart_1 rfl dX2_becomePart_59 ?_
        refine Z_iconst hk dX2_becomePart_62 zc_iconst_1 ?_
        refine Z_iadd hk dX2_becomePart_63 ?_
        obtain ⟨s23, e24, h⟩ := nm_get h
        refine Z_put hk in_X2_becomePart_Graph tyX2 tok_TX2 tnm_TX2 rfl ha0.cell.1 (ha0.cell.2 _) 0 (by decide) wd_X2_becomePart_1 rfl (by decide) (Nat.le_of_ble_eq_true rfl) (ha0.put_size _ _) dX2_becomePart_64 ?_
        refine Z_eqS e24 ?_
        refine Z_sub [0, 1, 2, 3] rfl ?_
        exact w_X2_becomePart_67 hk hq F (m_X2_becomePart_7 F n) ih a0 a1 a2 a3 ha0 ha1 s23 h
set_option maxRecDepth 100000 in
set_option maxHeartbeats 4000000 in
theorem w_X2_becomePart {K : zK} (hk : zIs K RX2 cX2_becomePart 4 wsX2_becomePart none r_X2_becomePart) {τ0 : zST} (hq : zQ K none τ0) (F : Nat) (a0 : Nat) (a1 : Nat) (a2 : Int32) (ha0 : atGraph (kZ K) a0) (ha1 : atGraph (kZ K) a1) (σ : zST) (h : m_X2_becomePart F a0 a1 a2 σ = some τ0) : Z K 0 0 0 [(0, .ref (eA (kZ K) a0)), (1, .ref (eA (kZ K) a1)), (2, .int a2)] [] σ := by
  unfold m_X2_becomePart at h
  refine Z_aload_n hk 0 dX2_becomePart_0 rfl rfl ?_
  refine Z_iconst hk dX2_becomePart_1 zc_iconst_0 ?_
  obtain ⟨s1, e2, h⟩ := nm_get h
  refine Z_put hk in_X2_becomePart_Graph tyX2 tok_TX2 tnm_TX2 rfl ha0.cell.1 (ha0.cell.2 _) 0 (by decide) wd_X2_becomePart_1 rfl (by decide) (Nat.le_of_ble_eq_true rfl) (ha0.put_size _ _) dX2_becomePart_2 ?_
  refine Z_eqS e2 ?_
  refine Z_iconst hk dX2_becomePart_5 zc_iconst_0 ?_
  refine Z_istore_n hk (lv' := [(3, .int 0), (0, .ref (eA (kZ K) a0)), (1, .ref (eA (kZ K) a1)), (2, .int a2)]) dX2_becomePart_6 rfl (by decide) rfl ?_
  refine Z_sub [1, 2, 3, 0] rfl ?_
  exact w_X2_becomePart_7 hk hq F F a0 a1 a2 0 ha0 ha1 s1 h
theorem c_X2_becomePart {l : Launch} {E : zE} (hL : eL E) (hJ : eJ E) (F : Nat) (a0 : Nat) (a1 : Nat) (a2 : Int32) (ha0 : atGraph E a0) (ha1 : atGraph E a1) (σ : zST) {τ0 : zST} (h : m_X2_becomePart F a0 a1 a2 σ = some τ0) : Ct l yX2_becomePart wsX2_becomePart r_X2_becomePart E [.ref (eA E a0), .ref (eA E a1), .int a2] σ none τ0 := by
  refine Ct_of (by decide) rfl hL hJ (Nat.le_of_ble_eq_true rfl) (fun K hE hl hk hq => ?_)
  subst hE
  exact w_X2_becomePart hk hq F a0 a1 a2 ha0 ha1 σ h
end
