-- CanonCote$Mapping.fits (LCanonCote$Graph;LCanonCote$Graph;II)Z
section
theorem dX4_fits_0 : decode cX4_fits 0 = .ok (.aload_n 0, 1) := by decide +kernel
theorem dX4_fits_1 : decode cX4_fits 1 = .ok (.getfield 18, 3) := by decide +kernel
theorem dX4_fits_4 : decode cX4_fits 4 = .ok (.getfield 47, 3) := by decide +kernel
theorem dX4_fits_7 : decode cX4_fits 7 = .ok (.iload_n 3, 1) := by decide +kernel
theorem dX4_fits_8 : decode cX4_fits 8 = .ok (.iaload, 1) := by decide +kernel
theorem dX4_fits_9 : decode cX4_fits 9 = .ok (.aload_n 0, 1) := by decide +kernel
theorem dX4_fits_10 : decode cX4_fits 10 = .ok (.getfield 22, 3) := by decide +kernel
theorem dX4_fits_13 : decode cX4_fits 13 = .ok (.getfield 47, 3) := by decide +kernel
theorem dX4_fits_16 : decode cX4_fits 16 = .ok (.iload 4, 2) := by decide +kernel
theorem dX4_fits_18 : decode cX4_fits 18 = .ok (.iaload, 1) := by decide +kernel
theorem dX4_fits_19 : decode cX4_fits 19 = .ok (.if_icmp .eq 5, 3) := by decide +kernel
theorem dX4_fits_22 : decode cX4_fits 22 = .ok (.iconst 0, 1) := by decide +kernel
theorem dX4_fits_23 : decode cX4_fits 23 = .ok (.ireturn, 1) := by decide +kernel
theorem dX4_fits_24 : decode cX4_fits 24 = .ok (.iconst 0, 1) := by decide +kernel
theorem dX4_fits_25 : decode cX4_fits 25 = .ok (.istore 5, 2) := by decide +kernel
theorem dX4_fits_27 : decode cX4_fits 27 = .ok (.iload 5, 2) := by decide +kernel
theorem dX4_fits_29 : decode cX4_fits 29 = .ok (.iload_n 3, 1) := by decide +kernel
theorem dX4_fits_30 : decode cX4_fits 30 = .ok (.if_icmp .ge 34, 3) := by decide +kernel
theorem dX4_fits_33 : decode cX4_fits 33 = .ok (.aload_n 1, 1) := by decide +kernel
theorem dX4_fits_34 : decode cX4_fits 34 = .ok (.iload 5, 2) := by decide +kernel
theorem dX4_fits_36 : decode cX4_fits 36 = .ok (.iload_n 3, 1) := by decide +kernel
theorem dX4_fits_37 : decode cX4_fits 37 = .ok (.invokevirtual 50, 3) := by decide +kernel
theorem dX4_fits_40 : decode cX4_fits 40 = .ok (.aload_n 2, 1) := by decide +kernel
theorem dX4_fits_41 : decode cX4_fits 41 = .ok (.aload_n 0, 1) := by decide +kernel
theorem dX4_fits_42 : decode cX4_fits 42 = .ok (.getfield 9, 3) := by decide +kernel
theorem dX4_fits_45 : decode cX4_fits 45 = .ok (.iload 5, 2) := by decide +kernel
theorem dX4_fits_47 : decode cX4_fits 47 = .ok (.iaload, 1) := by decide +kernel
theorem dX4_fits_48 : decode cX4_fits 48 = .ok (.iload 4, 2) := by decide +kernel
theorem dX4_fits_50 : decode cX4_fits 50 = .ok (.invokevirtual 50, 3) := by decide +kernel
theorem dX4_fits_53 : decode cX4_fits 53 = .ok (.if_icmp .eq 5, 3) := by decide +kernel
theorem dX4_fits_56 : decode cX4_fits 56 = .ok (.iconst 0, 1) := by decide +kernel
theorem dX4_fits_57 : decode cX4_fits 57 = .ok (.ireturn, 1) := by decide +kernel
theorem dX4_fits_58 : decode cX4_fits 58 = .ok (.iinc 5 1, 3) := by decide +kernel
theorem dX4_fits_61 : decode cX4_fits 61 = .ok (.goto (-34), 3) := by decide +kernel
theorem dX4_fits_64 : decode cX4_fits 64 = .ok (.iconst 1, 1) := by decide +kernel
theorem dX4_fits_65 : decode cX4_fits 65 = .ok (.ireturn, 1) := by decide +kernel
set_option maxRecDepth 20000 in
theorem ggX4_fits_X2_hasEdge : GoodIn wsX4_fits wsX2_hasEdge := goodIn_r _ [7, 8, 9, 10, 11, 20, 21, 22] (by decide +kernel) (by decide +kernel)
set_option maxRecDepth 20000 in
theorem gX4_fits_X2_hasEdge_n50 : GoodIn wsX4_fits (wsX2_hasEdge) := ggX4_fits_X2_hasEdge
theorem in_X4_fits_Mapping : ∀ w ∈ u_ws RX4 TX4 3, w ∈ wsX4_fits := by decide +kernel
theorem wd_X4_fits_1 : Cond.fieldLink RX4 18 (TX4 1).1 (TX4 1).2.1 (TX4 1).2.2.1 ∈ wsX4_fits := by decide +kernel
theorem in_X4_fits_Refinement : ∀ w ∈ u_ws RX6 TX6 5, w ∈ wsX4_fits := by decide +kernel
theorem wd_X4_fits_3 : Cond.fieldLink RX4 22 (TX4 2).1 (TX4 2).2.1 (TX4 2).2.2.1 ∈ wsX4_fits := by decide +kernel
theorem wd_X4_fits_4 : Cond.initialized yX2_hasEdge.cls ∈ wsX4_fits := by decide +kernel
theorem wd_X4_fits_5 : Cond.instanceMethod yX2_hasEdge ∈ wsX4_fits := by decide +kernel
theorem wd_X4_fits_6 : Cond.selects RX2 yX2_hasEdge yX2_hasEdge ∈ wsX4_fits := by decide +kernel
theorem wd_X4_fits_7 : Cond.fieldLink RX4 9 (TX4 0).1 (TX4 0).2.1 (TX4 0).2.2.1 ∈ wsX4_fits := by decide +kernel
def r_X4_fits : Room := { frames := 3, cells := 0, slots := 0, locals := 55 }
set_option maxRecDepth 100000 in
set_option maxHeartbeats 4000000 in
theorem w_X4_fits_27 {K : zK} (hk : zIs K RX4 cX4_fits 6 wsX4_fits (some .boolean) r_X4_fits) {r0 : Int32} {τ0 : zST} (hq : zQ K (some (.int r0)) τ0) (F : Nat) : ∀ (n : Nat) (a0 : Nat) (a1 : Nat) (a2 : Nat) (a3 : Int32) (a4 : Int32) (a5 : Int32) (ha0 : atMapping (kZ K) a0) (ha1 : atGraph (kZ K) a1) (ha2 : atGraph (kZ K) a2) (σ : zST), m_X4_fits_27 F n a0 a1 a2 a3 a4 a5 σ = some (r0, τ0) → Z K 0 0 27 [(0, .ref (eA (kZ K) a0)), (1, .ref (eA (kZ K) a1)), (2, .ref (eA (kZ K) a2)), (3, .int a3), (4, .int a4), (5, .int a5)] [] σ := by
  intro n
  induction n with
  | zero => intro a0 a1 a2 a3 a4 a5 ha0 ha1 ha2 σ h; cases h
  | succ n ih =>
    intro a0 a1 a2 a3 a4 a5 ha0 ha1 ha2 σ h
    rw [m_X4_fits_27] at h
    refine Z_iload hk 5 dX4_fits_27 rfl ?_
    refine Z_iload_n hk 3 dX4_fits_29 rfl rfl ?_
    refine Z_icmp_ge hk (tgt := 64) dX4_fits_30 (by decide) (fun c8 => ?_) (fun c8 => ?_)
    · have h := if_yes h c8
      refine Z_iconst hk dX4_fits_64 zc_iconst_1 ?_
      cases h
      exact Z_zret hk (by decide) hq dX4_fits_65
    · have h := if_no h c8
      refine Z_aload_n hk 1 dX4_fits_33 rfl rfl ?_
      refine Z_iload hk 5 dX4_fits_34 rfl ?_
      refine Z_iload_n hk 3 dX4_fits_36 rfl rfl ?_
      obtain ⟨x9, s10, h11, h⟩ := bd_ok h
      refine Z_callVN 2 hk (C := RX2) [.int a5, .int a3] (c_X2_hasEdge hk.loc hk.inj F a1 a5 a3 ha1 σ h11) gX4_fits_X2_hasEdge_n50 nw_22 rfl ⟨rfl, rfl⟩ ⟨wd_X4_fits_4, wd_X4_fits_5, wd_X4_fits_6⟩ (by decide +kernel) ⟨Nat.le_of_ble_eq_true rfl, Nat.le_of_ble_eq_true rfl⟩ ha1.cell.1 (ha1.cell.2 _) rfl rfl rfl (Nat.le_of_ble_eq_true rfl) ⟨Nat.zero_le _, Nat.zero_le _⟩ dX4_fits_37 ?_
      show Z K 0 0 40 [(0, .ref (eA (kZ K) a0)), (1, .ref (eA (kZ K) a1)), (2, .ref (eA (kZ K) a2)), (3, .int a3), (4, .int a4), (5, .int a5)] [.int x9] s10
      refine Z_aload_n hk 2 dX4_fits_40 rfl rfl ?_
      refine Z_aload_n hk 0 dX4_fits_41 rfl rfl ?_
      refine Z_get hk in_X4_fits_Mapping rfl ha0.cell.1 (ha0.cell.2 _) 0 (by decide) wd_X4_fits_7 rfl dX4_fits_42 ?_
      refine Z_iload hk 5 dX4_fits_45 rfl ?_
      obtain ⟨i14, x12, e13, h⟩ := ldI_get h
      refine Z_iald hk (ha0.images) i14 dX4_fits_47 ?_
      refine Z_eqI e13 ?_
      refine Z_iload hk 4 dX4_fits_48 rfl ?_
      obtain ⟨x15, s16, h17, h⟩ := bd_ok h
      refine Z_callVN 2 hk (C := RX2) [.int x12, .int a4] (c_X2_hasEdge hk.loc hk.inj F a2 x12 a4 ha2 s10 h17) gX4_fits_X2_hasEdge_n50 nw_22 rfl ⟨rfl, rfl⟩ ⟨wd_X4_fits_4, wd_X4_fits_5, wd_X4_fits_6⟩ (by decide +kernel) ⟨Nat.le_of_ble_eq_true rfl, Nat.le_of_ble_eq_true rfl⟩ ha2.cell.1 (ha2.cell.2 _) rfl rfl rfl (Nat.le_of_ble_eq_true rfl) ⟨Nat.zero_le _, Nat.zero_le _⟩ dX4_fits_50 ?_
      show Z K 0 0 53 [(0, .ref (eA (kZ K) a0)), (1, .ref (eA (kZ K) a1)), (2, .ref (eA (kZ K) a2)), (3, .int a3), (4, .int a4), (5, .int a5)] [.int x15, .int x9] s16
      refine Z_icmp_eq hk (tgt := 58) dX4_fits_53 (by decide) (fun c18 => ?_) (fun c18 => ?_)
      · have h := if_yes h c18
        obtain ⟨x19, e20, h⟩ := nm_get h
        refine Z_iinc hk 5 (v := x19) (lv' := [(5, .int x19), (0, .ref (eA (kZ K) a0)), (1, .ref (eA (kZ K) a1)), (2, .ref (eA (kZ K) a2)), (3, .int a3), (4, .int a4)]) dX4_fits_58 rfl (by rw [zc_iinc_1]; exact e20) (by decide) rfl ?_
        refine Z_goto hk (tgt := 27) dX4_fits_61 (by decide) ?_
        refine Z_sub [1, 2, 3, 4, 5, 0] rfl ?_
        exact ih a0 a1 a2 a3 a4 x19 ha0 ha1 ha2 s16 h
      · have h := if_no h c18
        refine Z_iconst hk dX4_fits_56 zc_iconst_0 ?_
        cases h
        exact Z_zret hk (by decide) hq dX4_fits_57
set_option maxRecDepth 100000 in
set_option maxHeartbeats 4000000 in
theorem w_X4_fits {K : zK} (hk : zIs K RX4 cX4_fits 6 wsX4_fits (some .boolean) r_X4_fits) {r0 : Int32} {τ0 : zST} (hq : zQ K (some (.int r0)) τ0) (F : Nat) (a0 : Nat) (a1 : Nat) (a2 : Nat) (a3 : Int32) (a4 : Int32) (ha0 : atMapping (kZ K) a0) (ha1 : atGraph (kZ K) a1) (ha2 : atGraph (kZ K) a2) (σ : zST) (h : m_X4_fits F a0 a1 a2 a3 a4 σ = some (r0, τ0)) : Z K 0 0 0 [(0, .ref (eA (kZ K) a0)), (1, .ref (eA (kZ K) a1)), (2, .ref (eA (kZ K) a2)), (3, .int a3), (4, .int a4)] [] σ := by
  unfold m_X4_fits at h
  refine Z_aload_n hk 0 dX4_fits_0 rfl rfl ?_
  refine Z_get hk in_X4_fits_Mapping rfl ha0.cell.1 (ha0.cell.2 _) 1 (by decide) wd_X4_fits_1 rfl dX4_fits_1 ?_
  refine Z_getN hk in_X4_fits_Refinement rfl (ha0.classesHere).cell.1 ((ha0.classesHere).cell.2 _) 2 (by decide) nw_21 rfl dX4_fits_4 ?_
  refine Z_iload_n hk 3 dX4_fits_7 rfl rfl ?_
  obtain ⟨i3, x1, e2, h⟩ := ldI_get h
  refine Z_iald hk (((ha0.classesHere).numbers)) i3 dX4_fits_8 ?_
  refine Z_eqI e2 ?_
  refine Z_aload_n hk 0 dX4_fits_9 rfl rfl ?_
  refine Z_get hk in_X4_fits_Mapping rfl ha0.cell.1 (ha0.cell.2 _) 2 (by decide) wd_X4_fits_3 rfl dX4_fits_10 ?_
  refine Z_getN hk in_X4_fits_Refinement rfl (ha0.classesThere).cell.1 ((ha0.classesThere).cell.2 _) 2 (by decide) nw_21 rfl dX4_fits_13 ?_
  refine Z_iload hk 4 dX4_fits_16 rfl ?_
  obtain ⟨i6, x4, e5, h⟩ := ldI_get h
  refine Z_iald hk (((ha0.classesThere).numbers)) i6 dX4_fits_18 ?_
  refine Z_eqI e5 ?_
  refine Z_icmp_eq hk (tgt := 24) dX4_fits_19 (by decide) (fun c7 => ?_) (fun c7 => ?_)
  · have h := if_yes h c7
    refine Z_iconst hk dX4_fits_24 zc_iconst_0 ?_
    refine Z_istore hk (lv' := [(5, .int 0), (0, .ref (eA (kZ K) a0)), (1, .ref (eA (kZ K) a1)), (2, .ref (eA (kZ K) a2)), (3, .int a3), (4, .int a4)]) dX4_fits_25 (by decide) rfl ?_
    refine Z_sub [1, 2, 3, 4, 5, 0] rfl ?_
    exact w_X4_fits_27 hk hq F F a0 a1 a2 a3 a4 0 ha0 ha1 ha2 σ h
  · have h := if_no h c7
    refine Z_iconst hk dX4_fits_22 zc_iconst_0 ?_
    cases h
    exact Z_zret hk (by decide) hq dX4_fits_23
theorem c_X4_fits {l : Launch} {E : zE} (hL : eL E) (hJ : eJ E) (F : Nat) (a0 : Nat) (a1 : Nat) (a2 : Nat) (a3 : Int32) (a4 : Int32) (ha0 : atMapping E a0) (ha1 : atGraph E a1) (ha2 : atGraph E a2) (σ : zST) {r0 : Int32} {τ0 : zST} (h : m_X4_fits F a0 a1 a2 a3 a4 σ = some (r0, τ0)) : Ct l yX4_fits wsX4_fits r_X4_fits E [.ref (eA E a0), .ref (eA E a1), .ref (eA E a2), .int a3, .int a4] σ (some (.int r0)) τ0 := by
  refine Ct_of (by decide) rfl hL hJ (Nat.le_of_ble_eq_true rfl) (fun K hE hl hk hq => ?_)
  subst hE
  exact w_X4_fits hk hq F a0 a1 a2 a3 a4 ha0 ha1 ha2 σ h
end

-- CanonCote$Mapping.extend (LCanonCote$Mapping;LCanonCote$Graph;LCanonCote$Graph;II)Z
section
theorem dX4_extend_0 : decode cX4_extend 0 = .ok (.iload_n 3, 1) := by decide +kernel
theorem dX4_extend_1 : decode cX4_extend 1 = .ok (.aload_n 1, 1) := by decide +kernel
theorem dX4_extend_2 : decode cX4_extend 2 = .ok (.getfield 25, 3) := by decide +kernel
theorem dX4_extend_5 : decode cX4_extend 5 = .ok (.if_icmp .ge 9, 3) := by decide +kernel
theorem dX4_extend_8 : decode cX4_extend 8 = .ok (.iload_n 3, 1) := by decide +kernel
theorem dX4_extend_9 : decode cX4_extend 9 = .ok (.bipush 8, 2) := by decide +kernel
theorem dX4_extend_11 : decode cX4_extend 11 = .ok (.if_icmp .lt 5, 3) := by decide +kernel
theorem dX4_extend_14 : decode cX4_extend 14 = .ok (.iconst 1, 1) := by decide +kernel
theorem dX4_extend_15 : decode cX4_extend 15 = .ok (.ireturn, 1) := by decide +kernel
theorem dX4_extend_16 : decode cX4_extend 16 = .ok (.iconst 0, 1) := by decide +kernel
theorem dX4_extend_17 : decode cX4_extend 17 = .ok (.istore 5, 2) := by decide +kernel
theorem dX4_extend_19 : decode cX4_extend 19 = .ok (.iload 5, 2) := by decide +kernel
theorem dX4_extend_21 : decode cX4_extend 21 = .ok (.aload_n 2, 1) := by decide +kernel
theorem dX4_extend_22 : decode cX4_extend 22 = .ok (.getfield 25, 3) := by decide +kernel
theorem dX4_extend_25 : decode cX4_extend 25 = .ok (.if_icmp .ge 60, 3) := by decide +kernel
theorem dX4_extend_28 : decode cX4_extend 28 = .ok (.iload 4, 2) := by decide +kernel
theorem dX4_extend_30 : decode cX4_extend 30 = .ok (.iload 5, 2) := by decide +kernel
theorem dX4_extend_32 : decode cX4_extend 32 = .ok (.invokestatic 39, 3) := by decide +kernel
theorem dX4_extend_35 : decode cX4_extend 35 = .ok (.ifCond .ne 44, 3) := by decide +kernel
theorem dX4_extend_38 : decode cX4_extend 38 = .ok (.aload_n 0, 1) := by decide +kernel
theorem dX4_extend_39 : decode cX4_extend 39 = .ok (.aload_n 1, 1) := by decide +kernel
theorem dX4_extend_40 : decode cX4_extend 40 = .ok (.aload_n 2, 1) := by decide +kernel
theorem dX4_extend_41 : decode cX4_extend 41 = .ok (.iload_n 3, 1) := by decide +kernel
theorem dX4_extend_42 : decode cX4_extend 42 = .ok (.iload 5, 2) := by decide +kernel
theorem dX4_extend_44 : decode cX4_extend 44 = .ok (.invokevirtual 43, 3) := by decide +kernel
theorem dX4_extend_47 : decode cX4_extend 47 = .ok (.ifCond .eq 32, 3) := by decide +kernel
theorem dX4_extend_50 : decode cX4_extend 50 = .ok (.aload_n 0, 1) := by decide +kernel
theorem dX4_extend_51 : decode cX4_extend 51 = .ok (.getfield 9, 3) := by decide +kernel
theorem dX4_extend_54 : decode cX4_extend 54 = .ok (.iload_n 3, 1) := by decide +kernel
theorem dX4_extend_55 : decode cX4_extend 55 = .ok (.iload 5, 2) := by decide +kernel
theorem dX4_extend_57 : decode cX4_extend 57 = .ok (.iastore, 1) := by decide +kernel
theorem dX4_extend_58 : decode cX4_extend 58 = .ok (.aload_n 0, 1) := by decide +kernel
theorem dX4_extend_59 : decode cX4_extend 59 = .ok (.aload_n 1, 1) := by decide +kernel
theorem dX4_extend_60 : decode cX4_extend 60 = .ok (.aload_n 2, 1) := by decide +kernel
theorem dX4_extend_61 : decode cX4_extend 61 = .ok (.iload_n 3, 1) := by decide +kernel
theorem dX4_extend_62 : decode cX4_extend 62 = .ok (.iconst 1, 1) := by decide +kernel
theorem dX4_extend_63 : decode cX4_extend 63 = .ok (.iadd, 1) := by decide +kernel
theorem dX4_extend_64 : decode cX4_extend 64 = .ok (.iload 4, 2) := by decide +kernel
theorem dX4_extend_66 : decode cX4_extend 66 = .ok (.iconst 1, 1) := by decide +kernel
theorem dX4_extend_67 : decode cX4_extend 67 = .ok (.iload 5, 2) := by decide +kernel
theorem dX4_extend_69 : decode cX4_extend 69 = .ok (.ishl, 1) := by decide +kernel
theorem dX4_extend_70 : decode cX4_extend 70 = .ok (.ior, 1) := by decide +kernel
theorem dX4_extend_71 : decode cX4_extend 71 = .ok (.invokestatic 35, 3) := by decide +kernel
theorem dX4_extend_74 : decode cX4_extend 74 = .ok (.ifCond .eq 5, 3) := by decide +kernel
theorem dX4_extend_77 : decode cX4_extend 77 = .ok (.iconst 1, 1) := by decide +kernel
theorem dX4_extend_78 : decode cX4_extend 78 = .ok (.ireturn, 1) := by decide +kernel
theorem dX4_extend_79 : decode cX4_extend 79 = .ok (.iinc 5 1, 3) := by decide +kernel
theorem dX4_extend_82 : decode cX4_extend 82 = .ok (.goto (-63), 3) := by decide +kernel
theorem dX4_extend_85 : decode cX4_extend 85 = .ok (.iconst 0, 1) := by decide +kernel
theorem dX4_extend_86 : decode cX4_extend 86 = .ok (.ireturn, 1) := by decide +kernel
set_option maxRecDepth 20000 in
theorem ggX4_extend_X7_isIn : GoodIn wsX4_extend wsX7_isIn := goodIn_r _ [4] (by decide +kernel) (by decide +kernel)
set_option maxRecDepth 20000 in
theorem gX4_extend_X7_isIn_n39 : GoodIn wsX4_extend (wsX7_isIn) := ggX4_extend_X7_isIn
set_option maxRecDepth 20000 in
theorem ggX4_extend_X4_fits : GoodIn wsX4_extend wsX4_fits := goodIn_r _ [9, 10, 11, 1, 12, 13, 14, 15, 16, 2, 3, 4, 22, 23, 24, 25, 26, 27, 28, 29, 19, 20, 21] (by decide +kernel) (by decide +kernel)
set_option maxRecDepth 20000 in
theorem gX4_extend_X4_fits : GoodIn wsX4_extend (wsV RX4 43 RX4 yX4_fits wsX4_fits) := goodIn_app (goodIn_of _ (by decide +kernel)) ggX4_extend_X4_fits
set_option maxRecDepth 20000 in
theorem ggX4_extend_X4_extend : GoodIn wsX4_extend wsX4_extend := goodIn_r _ [0, 1, 2, 3, 4, 5, 6, 7, 8, 9, 10, 11, 12, 13, 14, 15, 16, 17, 18, 19, 20, 21, 22, 23, 24, 25, 26, 27, 28, 29] (by decide +kernel) (by decide +kernel)
set_option maxRecDepth 20000 in
theorem gX4_extend_X4_extend : GoodIn wsX4_extend (va_wsS RX4 35 yX4_extend wsX4_extend) := goodIn_app (goodIn_of _ (by decide +kernel)) ggX4_extend_X4_extend
theorem in_X4_extend_Graph : ∀ w ∈ u_ws RX2 TX2 3, w ∈ wsX4_extend := by decide +kernel
theorem wd_X4_extend_1 : Cond.initialized yX7_isIn.cls ∈ wsX4_extend := by decide +kernel
theorem wd_X4_extend_2 : Cond.static yX7_isIn ∈ wsX4_extend := by decide +kernel
theorem in_X4_extend_Mapping : ∀ w ∈ u_ws RX4 TX4 3, w ∈ wsX4_extend := by decide +kernel
theorem wd_X4_extend_4 : Cond.fieldLink RX4 9 (TX4 0).1 (TX4 0).2.1 (TX4 0).2.2.1 ∈ wsX4_extend := by decide +kernel
def r_X4_extend (d : Nat) : Room := { frames := 4 + d, cells := 0, slots := 0, locals := 80 + d * 25 }
set_option maxRecDepth 100000 in
set_option maxHeartbeats 4000000 in
theorem w_X4_extend_14 {K : zK} (d : Nat) (hk : zIs K RX4 cX4_extend 6 wsX4_extend (some .boolean) (r_X4_extend (d + 1))) {r0 : Int32} {τ0 : zST} (hq : zQ K (some (.int r0)) τ0) (F : Nat) (rc : Nat → Nat → Nat → Int32 → Int32 → zST → Option (Int32 × zST)) (hrc : ∀ (a0 : Nat) (a1 : Nat) (a2 : Nat) (a3 : Int32) (a4 : Int32) (ha0 : atMapping (kZ K) a0) (ha1 : atGraph (kZ K) a1) (ha2 : atGraph (kZ K) a2) (σ : zST) (r0 : Int32) (τ0 : zST), rc a0 a1 a2 a3 a4 σ = some (r0, τ0) → Ct (kL K) yX4_extend wsX4_extend (r_X4_extend d) (kZ K) [.ref (eA (kZ K) a0), .ref (eA (kZ K) a1), .ref (eA (kZ K) a2), .int a3, .int a4] σ (some (.int r0)) τ0)  (σ : zST) (h : m_X4_extend_14 F rc σ = some (r0, τ0)) : Z K 0 0 14 [] [] σ := by
  unfold m_X4_extend_14 at h
  refine Z_iconst hk dX4_extend_14 zc_iconst_1 ?_
  cases h
  exact Z_zret hk (by decide) hq dX4_extend_15
set_option maxRecDepth 100000 in
set_option maxHeartbeats 4000000 in
theorem w_X4_extend_79 {K : zK} (d : Nat) (hk : zIs K RX4 cX4_extend 6 wsX4_extend (some .boolean) (r_X4_extend (d + 1))) {r0 : Int32} {τ0 : zST} (hq : zQ K (some (.int r0)) τ0) (F : Nat) (rc : Nat → Nat → Nat → Int32 → Int32 → zST → Option (Int32 × zST)) (hrc : ∀ (a0 : Nat) (a1 : Nat) (a2 : Nat) (a3 : Int32) (a4 : Int32) (ha0 : atMapping (kZ K) a0) (ha1 : atGraph (kZ K) a1) (ha2 : atGraph (kZ K) a2) (σ : zST) (r0 : Int32) (τ0 : zST), rc a0 a1 a2 a3 a4 σ = some (r0, τ0) → Ct (kL K) yX4_extend wsX4_extend (r_X4_extend d) (kZ K) [.ref (eA (kZ K) a0), .ref (eA (kZ K) a1), .ref (eA (kZ K) a2), .int a3, .int a4] σ (some (.int r0)) τ0) (k19 : Nat → Nat → Nat → Int32 → Int32 → Int32 → zST → Option (Int32 × zST)) (hk19 : ∀ (a0 : Nat) (a1 : Nat) (a2 : Nat) (a3 : Int32) (a4 : Int32) (a5 : Int32) (ha0 : atMapping (kZ K) a0) (ha1 : atGraph (kZ K) a1) (ha2 : atGraph (kZ K) a2) (σ : zST), k19 a0 a1 a2 a3 a4 a5 σ = some (r0, τ0) → Z K 0 0 19 [(0, .ref (eA (kZ K) a0)), (1, .ref (eA (kZ K) a1)), (2, .ref (eA (kZ K) a2)), (3, .int a3), (4, .int a4), (5, .int a5)] [] σ) (a0 : Nat) (a1 : Nat) (a2 : Nat) (a3 : Int32) (a4 : Int32) (a5 : Int32) (ha0 : atMapping (kZ K) a0) (ha1 : atGraph (kZ K) a1) (ha2 : atGraph (kZ K) a2) (σ : zST) (h : m_X4_extend_79 F rc k19 a0 a1 a2 a3 a4 a5 σ = some (r0, τ0)) : Z K 0 0 79 [(0, .ref (eA (kZ K) a0)), (1, .ref (eA (kZ K) a1)), (2, .ref (eA (kZ K) a2)), (3, .int a3), (4, .int a4), (5, .int a5)] [] σ := by
  unfold m_X4_extend_79 at h
  obtain ⟨x19, e20, h⟩ := nm_get h
  refine Z_iinc hk 5 (v := x19) (lv' := [(5, .int x19), (0, .ref (eA (kZ K) a0)), (1, .ref (eA (kZ K) a1)), (2, .ref (eA (kZ K) a2)), (3, .int a3), (4, .int a4)]) dX4_extend_79 rfl (by rw [zc_iinc_1]; exact e20) (by decide) rfl ?_
  refine Z_goto hk (tgt := 19) dX4_extend_82 (by decide) ?_
  refine Z_sub [1, 2, 3, 4, 5, 0] rfl ?_
  exact hk19 a0 a1 a2 a3 a4 x19 ha0 ha1 ha2 σ h
set_option maxRecDepth 100000 in
set_option maxHeartbeats 4000000 in
theorem w_X4_extend_19 {K : zK} (d : Nat) (hk : zIs K RX4 cX4_extend 6 wsX4_extend (some .boolean) (r_X4_extend (d + 1))) {r0 : Int32} {τ0 : zST} (hq : zQ K (some (.int r0)) τ0) (F : Nat) (rc : Nat → Nat → Nat → Int32 → Int32 → zST → Option (Int32 × zST)) (hrc : ∀ (a0 : Nat) (a1 : Nat) (a2 : Nat) (a3 : Int32) (a4 : Int32) (ha0 : atMapping (kZ K) a0) (ha1 : atGraph (kZ K) a1) (ha2 : atGraph (kZ K) a2) (σ : zST) (r0 : Int32) (τ0 : zST), rc a0 a1 a2 a3 a4 σ = some (r0, τ0) → Ct (kL K) yX4_extend wsX4_extend (r_X4_extend d) (kZ K) [.ref (eA (kZ K) a0), .ref (eA (kZ K) a1), .ref (eA (kZ K) a2), .int a3, .int a4] σ (some (.int r0)) τ0) : ∀ (n : Nat) (a0 : Nat) (a1 : Nat) (a2 : Nat) (a3 : Int32) (a4 : Int32) (a5 : Int32) (ha0 : atMapping (kZ K) a0) (ha1 : atGraph (kZ K) a1) (ha2 : atGraph (kZ K) a2) (σ : zST), m_X4_extend_19 F rc n a0 a1 a2 a3 a4 a5 σ = some (r0, τ0) → Z K 0 0 19 [(0, .ref (eA (kZ K) a0)), (1, .ref (eA (kZ K) a1)), (2, .ref (eA (kZ K) a2)), (3, .int a3), (4, .int a4), (5, .int a5)] [] σ := by
  intro n
  induction n with
  | zero => intro a0 a1 a2 a3 a4 a5 ha0 ha1 ha2 σ h; cases h
  | succ n ih =>
    intro a0 a1 a2 a3 a4 a5 ha0 ha1 ha2 σ h
    rw [m_X4_extend_19] at h
    refine Z_iload hk 5 dX4_extend_19 rfl ?_
    refine Z_aload_n hk 2 dX4_extend_21 rfl rfl ?_
    refine Z_getN hk in_X4_extend_Graph rfl ha2.cell.1 (ha2.cell.2 _) 0 (by decide) nw_23 rfl dX4_extend_22 ?_
    refine Z_icmp_ge hk (tgt := 85) dX4_extend_25 (by decide) (fun c3 => ?_) (fun c3 => ?_)
    · have h := if_yes h c3
      refine Z_iconst hk dX4_extend_85 zc_iconst_0 ?_
      cases h
      exact Z_zret hk (by decide) hq dX4_extend_86
    · have h := if_no h c3
      refine Z_iload hk 4 dX4_extend_28 rfl ?_
      refine Z_iload hk 5 dX4_extend_30 rfl ?_
      obtain ⟨x4, s5, h6, h⟩ := bd_ok h
      refine Z_callSN 2 hk [.int a4, .int a5] (c_X7_isIn hk.loc hk.inj F a4 a5 σ h6) gX4_extend_X7_isIn_n39 nw_24 rfl ⟨rfl, rfl⟩ ⟨wd_X4_extend_1, wd_X4_extend_2⟩ (by decide +kernel) (by refine ⟨?_, ?_⟩ <;> simp only [r_X4_extend, r_X7_isIn] <;> omega) rfl rfl (Nat.le_of_ble_eq_true rfl) ⟨Nat.zero_le _, Nat.zero_le _⟩ dX4_extend_32 ?_
      show Z K 0 0 35 [(0, .ref (eA (kZ K) a0)), (1, .ref (eA (kZ K) a1)), (2, .ref (eA (kZ K) a2)), (3, .int a3), (4, .int a4), (5, .int a5)] [.int x4] s5
      refine Z_if_ne hk (tgt := 79) dX4_extend_35 (by decide) (fun c7 => ?_) (fun c7 => ?_)
      · have h := if_yes h c7
        refine Z_aload_n hk 0 dX4_extend_38 rfl rfl ?_
        refine Z_aload_n hk 1 dX4_extend_39 rfl rfl ?_
        refine Z_aload_n hk 2 dX4_extend_40 rfl rfl ?_
        refine Z_iload_n hk 3 dX4_extend_41 rfl rfl ?_
        refine Z_iload hk 5 dX4_extend_42 rfl ?_
        obtain ⟨x8, s9, h10, h⟩ := bd_ok h
        refine Z_callV 4 hk [.ref (eA (kZ K) a1), .ref (eA (kZ K) a2), .int a3, .int a5] (c_X4_fits hk.loc hk.inj F a0 a1 a2 a3 a5 ha0 ha1 ha2 s5 h10) gX4_extend_X4_fits rfl ⟨rfl, rfl⟩ (by decide +kernel) (by refine ⟨?_, ?_⟩ <;> simp only [r_X4_extend, r_X4_fits] <;> omega) ha0.cell.1 (ha0.cell.2 _) rfl rfl rfl (Nat.le_of_ble_eq_true rfl) ⟨Nat.zero_le _, Nat.zero_le _⟩ dX4_extend_44 ?_
        show Z K 0 0 47 [(0, .ref (eA (kZ K) a0)), (1, .ref (eA (kZ K) a1)), (2, .ref (eA (kZ K) a2)), (3, .int a3), (4, .int a4), (5, .int a5)] [.int x8] s9
        refine Z_if_eq hk (tgt := 79) dX4_extend_47 (by decide) (fun c11 => ?_) (fun c11 => ?_)
        · have h := if_yes h c11
          refine Z_sub [0, 1, 2, 3, 4, 5] rfl ?_
          exact w_X4_extend_79 d hk hq F rc hrc (m_X4_extend_19 F rc n) ih a0 a1 a2 a3 a4 a5 ha0 ha1 ha2 s9 h
        · have h := if_no h c11
          refine Z_aload_n hk 0 dX4_extend_50 rfl rfl ?_
          refine Z_get hk in_X4_extend_Mapping rfl ha0.cell.1 (ha0.cell.2 _) 0 (by decide) wd_X4_extend_4 rfl dX4_extend_51 ?_
          refine Z_iload_n hk 3 dX4_extend_54 rfl rfl ?_
          refine Z_iload hk 5 dX4_extend_55 rfl ?_
          obtain ⟨i14, s12, e13, h⟩ := stI_get h
          refine Z_iast hk (ha0.images) i14 dX4_extend_57 ?_
          refine Z_eqS e13 ?_
          refine Z_aload_n hk 0 dX4_extend_58 rfl rfl ?_
          refine Z_aload_n hk 1 dX4_extend_59 rfl rfl ?_
          refine Z_aload_n hk 2 dX4_extend_60 rfl rfl ?_
          refine Z_iload_n hk 3 dX4_extend_61 rfl rfl ?_
          refine Z_iconst hk dX4_extend_62 zc_iconst_1 ?_
          refine Z_iadd hk dX4_extend_63 ?_
          refine Z_iload hk 4 dX4_extend_64 rfl ?_
          refine Z_iconst hk dX4_extend_66 zc_iconst_1 ?_
          refine Z_iload hk 5 dX4_extend_67 rfl ?_
          refine Z_ishl hk dX4_extend_69 ?_
          refine Z_ior hk dX4_extend_70 ?_
          obtain ⟨x15, s16, h17, h⟩ := bd_ok h
          refine Z_callT 5 hk [.ref (eA (kZ K) a0), .ref (eA (kZ K) a1), .ref (eA (kZ K) a2), .int (a3 + 1), .int (a4 ||| (jshl 1 a5))] (hrc a0 a1 a2 (a3 + 1) (a4 ||| (jshl 1 a5)) ha0 ha1 ha2 s12 _ _ h17) gX4_extend_X4_extend rfl ⟨rfl, rfl⟩ (by decide +kernel) (by refine ⟨?_, ?_⟩ <;> simp only [r_X4_extend] <;> omega) rfl rfl (Nat.le_of_ble_eq_true rfl) ⟨Nat.zero_le _, Nat.zero_le _⟩ dX4_extend_71 ?_
          show Z K 0 0 74 [(0, .ref (eA (kZ K) a0)), (1, .ref (eA (kZ K) a1)), (2, .ref (eA (kZ K) a2)), (3, .int a3), (4, .int a4), (5, .int a5)] [.int x15] s16
          refine Z_if_eq hk (tgt := 79) dX4_extend_74 (by decide) (fun c18 => ?_) (fun c18 => ?_)
          · have h := if_yes h c18
            refine Z_sub [0, 1, 2, 3, 4, 5] rfl ?_
            exact w_X4_extend_79 d hk hq F rc hrc (m_X4_extend_19 F rc n) ih a0 a1 a2 a3 a4 a5 ha0 ha1 ha2 s16 h
          · have h := if_no h c18
            refine Z_iconst hk dX4_extend_77 zc_iconst_1 ?_
            cases h
            exact Z_zret hk (by decide) hq dX4_extend_78
      · have h := if_no h c7
        refine Z_sub [0, 1, 2, 3, 4, 5] rfl ?_
        exact w_X4_extend_79 d hk hq F rc hrc (m_X4_extend_19 F rc n) ih a0 a1 a2 a3 a4 a5 ha0 ha1 ha2 s5 h
set_option maxRecDepth 100000 in
set_option maxHeartbeats 4000000 in
theorem w_X4_extend {K : zK} (d : Nat) (hk : zIs K RX4 cX4_extend 6 wsX4_extend (some .boolean) (r_X4_extend (d + 1))) {r0 : Int32} {τ0 : zST} (hq : zQ K (some (.int r0)) τ0) (F : Nat) (rc : Nat → Nat → Nat → Int32 → Int32 → zST → Option (Int32 × zST)) (hrc : ∀ (a0 : Nat) (a1 : Nat) (a2 : Nat) (a3 : Int32) (a4 : Int32) (ha0 : atMapping (kZ K) a0) (ha1 : atGraph (kZ K) a1) (ha2 : atGraph (kZ K) a2) (σ : zST) (r0 : Int32) (τ0 : zST), rc a0 a1 a2 a3 a4 σ = some (r0, τ0) → Ct (kL K) yX4_extend wsX4_extend (r_X4_extend d) (kZ K) [.ref (eA (kZ K) a0), .ref (eA (kZ K) a1), .ref (eA (kZ K) a2), .int a3, .int a4] σ (some (.int r0)) τ0) (a0 : Nat) (a1 : Nat) (a2 : Nat) (a3 : Int32) (a4 : Int32) (ha0 : atMapping (kZ K) a0) (ha1 : atGraph (kZ K) a1) (ha2 : atGraph (kZ K) a2) (σ : zST) (h : m_X4_extend_0 F rc a0 a1 a2 a3 a4 σ = some (r0, τ0)) : Z K 0 0 0 [(0, .ref (eA (kZ K) a0)), (1, .ref (eA (kZ K) a1)), (2, .ref (eA (kZ K) a2)), (3, .int a3), (4, .int a4)] [] σ := by
  unfold m_X4_extend_0 at h
  refine Z_iload_n hk 3 dX4_extend_0 rfl rfl ?_
  refine Z_aload_n hk 1 dX4_extend_1 rfl rfl ?_
  refine Z_getN hk in_X4_extend_Graph rfl ha1.cell.1 (ha1.cell.2 _) 0 (by decide) nw_23 rfl dX4_extend_2 ?_
  refine Z_icmp_ge hk (tgt := 14) dX4_extend_5 (by decide) (fun c1 => ?_) (fun c1 => ?_)
  · have h := if_yes h c1
    refine Z_sub [] rfl ?_
    exact w_X4_extend_14 d hk hq F rc hrc σ h
  · have h := if_no h c1
    refine Z_iload_n hk 3 dX4_extend_8 rfl rfl ?_
    refine Z_bipush hk dX4_extend_9 zc_bipush_8 ?_
    refine Z_icmp_lt hk (tgt := 16) dX4_extend_11 (by decide) (fun c2 => ?_) (fun c2 => ?_)
    · have h := if_yes h c2
      refine Z_iconst hk dX4_extend_16 zc_iconst_0 ?_
      refine Z_istore hk (lv' := [(5, .int 0), (0, .ref (eA (kZ K) a0)), (1, .ref (eA (kZ K) a1)), (2, .ref (eA (kZ K) a2)), (3, .int a3), (4, .int a4)]) dX4_extend_17 (by decide) rfl ?_
      refine Z_sub [1, 2, 3, 4, 5, 0] rfl ?_
      exact w_X4_extend_19 d hk hq F rc hrc F a0 a1 a2 a3 a4 0 ha0 ha1 ha2 σ h
    · have h := if_no h c2
      refine Z_sub [] rfl ?_
      exact w_X4_extend_14 d hk hq F rc hrc σ h
theorem cc_X4_extend {l : Launch} {E : zE} (hL : eL E) (hJ : eJ E) (F : Nat) : ∀ (d : Nat) (a0 : Nat) (a1 : Nat) (a2 : Nat) (a3 : Int32) (a4 : Int32) (ha0 : atMapping E a0) (ha1 : atGraph E a1) (ha2 : atGraph E a2) (σ : zST) (r0 : Int32) (τ0 : zST), m_X4_extend F d a0 a1 a2 a3 a4 σ = some (r0, τ0) → Ct l yX4_extend wsX4_extend (r_X4_extend d) E [.ref (eA E a0), .ref (eA E a1), .ref (eA E a2), .int a3, .int a4] σ (some (.int r0)) τ0 := by
  intro d
  induction d with
  | zero => intro a0 a1 a2 a3 a4 ha0 ha1 ha2 σ r0 τ0 h; cases h
  | succ d ih =>
    intro a0 a1 a2 a3 a4 ha0 ha1 ha2 σ r0 τ0 h
    refine Ct_of (by decide) rfl hL hJ (Nat.le_of_ble_eq_true rfl) (fun K hE hl hk hq => ?_)
    subst hE
    subst hl
    exact w_X4_extend d hk hq F (m_X4_extend F d) ih a0 a1 a2 a3 a4 ha0 ha1 ha2 σ h
theorem c_X4_extend {l : Launch} {E : zE} (hL : eL E) (hJ : eJ E) (F d : Nat) (a0 : Nat) (a1 : Nat) (a2 : Nat) (a3 : Int32) (a4 : Int32) (ha0 : atMapping E a0) (ha1 : atGraph E a1) (ha2 : atGraph E a2) (σ : zST) {r0 : Int32} {τ0 : zST} (h : m_X4_extend F d a0 a1 a2 a3 a4 σ = some (r0, τ0)) : Ct l yX4_extend wsX4_extend (r_X4_extend d) E [.ref (eA E a0), .ref (eA E a1), .ref (eA E a2), .int a3, .int a4] σ (some (.int r0)) τ0 := cc_X4_extend hL hJ F d a0 a1 a2 a3 a4 ha0 ha1 ha2 σ _ _ h
end

-- CanonCote$Mapping.find (LCanonCote$Graph;LCanonCote$Graph;)Z
section
theorem dX4_find_0 : decode cX4_find 0 = .ok (.aload_n 1, 1) := by decide +kernel
theorem dX4_find_1 : decode cX4_find 1 = .ok (.getfield 25, 3) := by decide +kernel
theorem dX4_find_4 : decode cX4_find 4 = .ok (.aload_n 2, 1) := by decide +kernel
theorem dX4_find_5 : decode cX4_find 5 = .ok (.getfield 25, 3) := by decide +kernel
theorem dX4_find_8 : decode cX4_find 8 = .ok (.if_icmp .eq 5, 3) := by decide +kernel
theorem dX4_find_11 : decode cX4_find 11 = .ok (.iconst 0, 1) := by decide +kernel
theorem dX4_find_12 : decode cX4_find 12 = .ok (.ireturn, 1) := by decide +kernel
theorem dX4_find_13 : decode cX4_find 13 = .ok (.aload_n 0, 1) := by decide +kernel
theorem dX4_find_14 : decode cX4_find 14 = .ok (.getfield 18, 3) := by decide +kernel
theorem dX4_find_17 : decode cX4_find 17 = .ok (.aload_n 1, 1) := by decide +kernel
theorem dX4_find_18 : decode cX4_find 18 = .ok (.invokevirtual 31, 3) := by decide +kernel
theorem dX4_find_21 : decode cX4_find 21 = .ok (.aload_n 0, 1) := by decide +kernel
theorem dX4_find_22 : decode cX4_find 22 = .ok (.getfield 22, 3) := by decide +kernel
theorem dX4_find_25 : decode cX4_find 25 = .ok (.aload_n 2, 1) := by decide +kernel
theorem dX4_find_26 : decode cX4_find 26 = .ok (.invokevirtual 31, 3) := by decide +kernel
theorem dX4_find_29 : decode cX4_find 29 = .ok (.aload_n 0, 1) := by decide +kernel
theorem dX4_find_30 : decode cX4_find 30 = .ok (.aload_n 1, 1) := by decide +kernel
theorem dX4_find_31 : decode cX4_find 31 = .ok (.aload_n 2, 1) := by decide +kernel
theorem dX4_find_32 : decode cX4_find 32 = .ok (.iconst 0, 1) := by decide +kernel
theorem dX4_find_33 : decode cX4_find 33 = .ok (.iconst 0, 1) := by decide +kernel
theorem dX4_find_34 : decode cX4_find 34 = .ok (.invokestatic 35, 3) := by decide +kernel
theorem dX4_find_37 : decode cX4_find 37 = .ok (.ireturn, 1) := by decide +kernel
set_option maxRecDepth 20000 in
theorem ggX4_find_X6_refine : GoodIn wsX4_find wsX6_refine := goodIn_r _ [6, 7, 8, 9, 10, 11, 12, 4, 13, 14, 15, 16, 17, 18, 19, 20, 21, 22, 23, 24, 25, 26, 27, 28, 29, 30, 31, 32, 33, 34, 35, 36, 37, 52, 53, 54, 58, 59, 60, 61, 62] (by decide +kernel) (by decide +kernel)
set_option maxRecDepth 20000 in
theorem gX4_find_X6_refine_n31 : GoodIn wsX4_find (wsX6_refine) := ggX4_find_X6_refine
set_option maxRecDepth 20000 in
theorem ggX4_find_X4_extend : GoodIn wsX4_find wsX4_extend := goodIn_r _ [41, 42, 31, 32, 33, 43, 44, 45, 40, 46, 1, 2, 47, 48, 49, 50, 51, 38, 39, 52, 53, 54, 55, 56, 57, 58, 59, 60, 61, 62] (by decide +kernel) (by decide +kernel)
set_option maxRecDepth 20000 in
theorem gX4_find_X4_extend : GoodIn wsX4_find (va_wsS RX4 35 yX4_extend wsX4_extend) := goodIn_app (goodIn_of _ (by decide +kernel)) ggX4_find_X4_extend
theorem in_X4_find_Graph : ∀ w ∈ u_ws RX2 TX2 3, w ∈ wsX4_find := by decide +kernel
theorem in_X4_find_Mapping : ∀ w ∈ u_ws RX4 TX4 3, w ∈ wsX4_find := by decide +kernel
theorem wd_X4_find_2 : Cond.fieldLink RX4 18 (TX4 1).1 (TX4 1).2.1 (TX4 1).2.2.1 ∈ wsX4_find := by decide +kernel
theorem wd_X4_find_3 : Cond.initialized yX6_refine.cls ∈ wsX4_find := by decide +kernel
theorem wd_X4_find_4 : Cond.instanceMethod yX6_refine ∈ wsX4_find := by decide +kernel
theorem wd_X4_find_5 : Cond.selects RX6 yX6_refine yX6_refine ∈ wsX4_find := by decide +kernel
theorem wd_X4_find_6 : Cond.fieldLink RX4 22 (TX4 2).1 (TX4 2).2.1 (TX4 2).2.2.1 ∈ wsX4_find := by decide +kernel
def r_X4_find : Room := { frames := 14, cells := 0, slots := 0, locals := 330 }
set_option maxRecDepth 100000 in
set_option maxHeartbeats 4000000 in
theorem w_X4_find {K : zK} (hk : zIs K RX4 cX4_find 3 wsX4_find (some .boolean) r_X4_find) {r0 : Int32} {τ0 : zST} (hq : zQ K (some (.int r0)) τ0) (F : Nat) (a0 : Nat) (a1 : Nat) (a2 : Nat) (ha0 : atMapping (kZ K) a0) (ha1 : atGraph (kZ K) a1) (ha2 : atGraph (kZ K) a2) (σ : zST) (h : m_X4_find F a0 a1 a2 σ = some (r0, τ0)) : Z K 0 0 0 [(0, .ref (eA (kZ K) a0)), (1, .ref (eA (kZ K) a1)), (2, .ref (eA (kZ K) a2))] [] σ := by
  unfold m_X4_find at h
  refine Z_aload_n hk 1 dX4_find_0 rfl rfl ?_
  refine Z_getN hk in_X4_find_Graph rfl ha1.cell.1 (ha1.cell.2 _) 0 (by decide) nw_23 rfl dX4_find_1 ?_
  refine Z_aload_n hk 2 dX4_find_4 rfl rfl ?_
  refine Z_getN hk in_X4_find_Graph rfl ha2.cell.1 (ha2.cell.2 _) 0 (by decide) nw_23 rfl dX4_find_5 ?_
  refine Z_icmp_eq hk (tgt := 13) dX4_find_8 (by decide) (fun c1 => ?_) (fun c1 => ?_)
  · have h := if_yes h c1
    refine Z_aload_n hk 0 dX4_find_13 rfl rfl ?_
    refine Z_get hk in_X4_find_Mapping rfl ha0.cell.1 (ha0.cell.2 _) 1 (by decide) wd_X4_find_2 rfl dX4_find_14 ?_
    refine Z_aload_n hk 1 dX4_find_17 rfl rfl ?_
    obtain ⟨s3, h4, h⟩ := bv_ok h
    refine Z_callVN 1 hk (C := RX6) [.ref (eA (kZ K) a1)] (c_X6_refine hk.loc hk.inj F (a0 + 2) a1 (ha0.classesHere) ha1 σ h4) gX4_find_X6_refine_n31 nw_25 rfl ⟨rfl, rfl⟩ ⟨wd_X4_find_3, wd_X4_find_4, wd_X4_find_5⟩ (by decide +kernel) ⟨Nat.le_of_ble_eq_true rfl, Nat.le_of_ble_eq_true rfl⟩ (ha0.classesHere).cell.1 ((ha0.classesHere).cell.2 _) rfl rfl rfl (Nat.le_of_ble_eq_true rfl) ⟨Nat.zero_le _, Nat.zero_le _⟩ dX4_find_18 ?_
    show Z K 0 0 21 [(0, .ref (eA (kZ K) a0)), (1, .ref (eA (kZ K) a1)), (2, .ref (eA (kZ K) a2))] [] s3
    refine Z_aload_n hk 0 dX4_find_21 rfl rfl ?_
    refine Z_get hk in_X4_find_Mapping rfl ha0.cell.1 (ha0.cell.2 _) 2 (by decide) wd_X4_find_6 rfl dX4_find_22 ?_
    refine Z_aload_n hk 2 dX4_find_25 rfl rfl ?_
    obtain ⟨s6, h7, h⟩ := bv_ok h
    refine Z_callVN 1 hk (C := RX6) [.ref (eA (kZ K) a2)] (c_X6_refine hk.loc hk.inj F (a0 + 6) a2 (ha0.classesThere) ha2 s3 h7) gX4_find_X6_refine_n31 nw_25 rfl ⟨rfl, rfl⟩ ⟨wd_X4_find_3, wd_X4_find_4, wd_X4_find_5⟩ (by decide +kernel) ⟨Nat.le_of_ble_eq_true rfl, Nat.le_of_ble_eq_true rfl⟩ (ha0.classesThere).cell.1 ((ha0.classesThere).cell.2 _) rfl rfl rfl (Nat.le_of_ble_eq_true rfl) ⟨Nat.zero_le _, Nat.zero_le _⟩ dX4_find_26 ?_
    show Z K 0 0 29 [(0, .ref (eA (kZ K) a0)), (1, .ref (eA (kZ K) a1)), (2, .ref (eA (kZ K) a2))] [] s6
    refine Z_aload_n hk 0 dX4_find_29 rfl rfl ?_
    refine Z_aload_n hk 1 dX4_find_30 rfl rfl ?_
    refine Z_aload_n hk 2 dX4_find_31 rfl rfl ?_
    refine Z_iconst hk dX4_find_32 zc_iconst_0 ?_
    refine Z_iconst hk dX4_find_33 zc_iconst_0 ?_
    obtain ⟨x8, s9, h10, h⟩ := bd_ok h
    refine Z_callT 5 hk [.ref (eA (kZ K) a0), .ref (eA (kZ K) a1), .ref (eA (kZ K) a2), .int 0, .int 0] (c_X4_extend hk.loc hk.inj F 9 a0 a1 a2 0 0 ha0 ha1 ha2 s6 h10) gX4_find_X4_extend rfl ⟨rfl, rfl⟩ (by decide +kernel) ⟨Nat.le_of_ble_eq_true rfl, Nat.le_of_ble_eq_true rfl⟩ rfl rfl (Nat.le_of_ble_eq_true rfl) ⟨Nat.zero_le _, Nat.zero_le _⟩ dX4_find_34 ?_
    show Z K 0 0 37 [(0, .ref (eA (kZ K) a0)), (1, .ref (eA (kZ K) a1)), (2, .ref (eA (kZ K) a2))] [.int x8] s9
    obtain ⟨hz, h⟩ := gd_some h
    cases h
    exact Z_zret hk hz hq dX4_find_37
  · have h := if_no h c1
    refine Z_iconst hk dX4_find_11 zc_iconst_0 ?_
    cases h
    exact Z_zret hk (by decide) hq dX4_find_12
theorem c_X4_find {l : Launch} {E : zE} (hL : eL E) (hJ : eJ E) (F : Nat) (a0 : Nat) (a1 : Nat) (a2 : Nat) (ha0 : atMapping E a0) (ha1 : atGraph E a1) (ha2 : atGraph E a2) (σ : zST) {r0 : Int32} {τ0 : zST} (h : m_X4_find F a0 a1 a2 σ = some (r0, τ0)) : Ct l yX4_find wsX4_find r_X4_find E [.ref (eA E a0), .ref (eA E a1), .ref (eA E a2)] σ (some (.int r0)) τ0 := by
  refine Ct_of (by decide) rfl hL hJ (Nat.le_of_ble_eq_true rfl) (fun K hE hl hk hq => ?_)
  subst hE
  exact w_X4_find hk hq F a0 a1 a2 ha0 ha1 ha2 σ h
end
