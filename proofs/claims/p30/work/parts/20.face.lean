-- CanonCote.graphAt (I)LCanonCote$Graph;
section
theorem dX7_graphAt_0 : decode cX7_graphAt 0 = .ok (.iload_n 1, 1) := by decide +kernel
theorem dX7_graphAt_1 : decode cX7_graphAt 1 = .ok (.ifCond .lt 8, 3) := by decide +kernel
theorem dX7_graphAt_4 : decode cX7_graphAt 4 = .ok (.iload_n 1, 1) := by decide +kernel
theorem dX7_graphAt_5 : decode cX7_graphAt 5 = .ok (.iconst 4, 1) := by decide +kernel
theorem dX7_graphAt_6 : decode cX7_graphAt 6 = .ok (.if_icmp .lt 13, 3) := by decide +kernel
theorem dX7_graphAt_9 : decode cX7_graphAt 9 = .ok (.new 182, 3) := by decide +kernel
theorem dX7_graphAt_12 : decode cX7_graphAt 12 = .ok (.dup, 1) := by decide +kernel
theorem dX7_graphAt_13 : decode cX7_graphAt 13 = .ok (.ldc 195, 2) := by decide +kernel
theorem dX7_graphAt_15 : decode cX7_graphAt 15 = .ok (.invokespecial 186, 3) := by decide +kernel
theorem dX7_graphAt_18 : decode cX7_graphAt 18 = .ok (.athrow, 1) := by decide +kernel
theorem dX7_graphAt_19 : decode cX7_graphAt 19 = .ok (.aload_n 0, 1) := by decide +kernel
theorem dX7_graphAt_20 : decode cX7_graphAt 20 = .ok (.getfield 11, 3) := by decide +kernel
theorem dX7_graphAt_23 : decode cX7_graphAt 23 = .ok (.iload_n 1, 1) := by decide +kernel
theorem dX7_graphAt_24 : decode cX7_graphAt 24 = .ok (.aaload, 1) := by decide +kernel
theorem dX7_graphAt_25 : decode cX7_graphAt 25 = .ok (.areturn, 1) := by decide +kernel
theorem in_X7_graphAt_CanonCote : ∀ w ∈ u_ws RX7 TX7 6, w ∈ wsX7_graphAt := by decide +kernel
theorem wd_X7_graphAt_1 : Cond.fieldLink RX7 11 (TX7 0).1 (TX7 0).2.1 (TX7 0).2.2.1 ∈ wsX7_graphAt := by decide +kernel
theorem wd_X7_graphAt_2 : Cond.classLink RX7 182 "java/lang/IndexOutOfBoundsException" ∈ wsX7_graphAt := by decide +kernel
theorem wd_X7_graphAt_3 : Cond.initialized "java/lang/IndexOutOfBoundsException" ∈ wsX7_graphAt := by decide +kernel
theorem at_X7_graphAt_186 : ∀ w ∈ (vx_atS RX7 186 "java/lang/IndexOutOfBoundsException" ["java/lang/RuntimeException", "java/lang/Exception"]).filter goodWord, w ∈ wsX7_graphAt := by decide +kernel
def r_X7_graphAt : Room := { frames := 6, cells := 1, slots := 6, locals := 90 }
set_option maxRecDepth 100000 in
set_option maxHeartbeats 4000000 in
theorem w_X7_graphAt_9 {K : zK} (hk : zIs K RX7 cX7_graphAt 2 wsX7_graphAt (some (.object "CanonCote$Graph")) r_X7_graphAt) (hfl : (kL K).stackTraces = false) (hnx : zNX K) {r0 : zX Nat} {τ0 : zST} (hq : zQX K (zrR (kZ K) r0) τ0) (F : Nat)  (σ : zST) (h : m_X7_graphAt_9 F σ = some (r0, τ0)) : Z K 0 0 9 [] [] σ := by
  unfold m_X7_graphAt_9 at h
  cases h
  exact ZX_throw hk hnx hfl (text := "no such graph") hq (by decide +kernel) ⟨wd_X7_graphAt_2, wd_X7_graphAt_3⟩ gw_0 at_X7_graphAt_186 gw_1 gw_2 dX7_graphAt_9 dX7_graphAt_12 dX7_graphAt_13 dX7_graphAt_15 dX7_graphAt_18 ⟨Nat.le_of_ble_eq_true rfl, Nat.le_of_ble_eq_true rfl⟩ (Nat.le_of_ble_eq_true rfl) ⟨Nat.le_of_ble_eq_true rfl, Nat.le_of_ble_eq_true rfl⟩
set_option maxRecDepth 100000 in
set_option maxHeartbeats 4000000 in
theorem w_X7_graphAt {K : zK} (hk : zIs K RX7 cX7_graphAt 2 wsX7_graphAt (some (.object "CanonCote$Graph")) r_X7_graphAt) (hfl : (kL K).stackTraces = false) (hnx : zNX K) {r0 : zX Nat} {τ0 : zST} (hq : zQX K (zrR (kZ K) r0) τ0) (F : Nat) (a0 : Nat) (a1 : Int32) (ha0 : atCanonCote (kZ K) a0) (σ : zST) (h : m_X7_graphAt F a0 a1 σ = some (r0, τ0)) : Z K 0 0 0 [(0, .ref (eA (kZ K) a0)), (1, .int a1)] [] σ := by
  unfold m_X7_graphAt at h
  refine Z_iload_n hk 1 dX7_graphAt_0 rfl rfl ?_
  refine Z_if_lt hk (tgt := 9) dX7_graphAt_1 (by decide) (fun c1 => ?_) (fun c1 => ?_)
  · have h := if_yes h c1
    refine Z_sub [] rfl ?_
    exact w_X7_graphAt_9 hk hfl hnx hq F σ h
  · have h := if_no h c1
    refine Z_iload_n hk 1 dX7_graphAt_4 rfl rfl ?_
    refine Z_iconst hk dX7_graphAt_5 zc_iconst_4 ?_
    refine Z_icmp_lt hk (tgt := 19) dX7_graphAt_6 (by decide) (fun c2 => ?_) (fun c2 => ?_)
    · have h := if_yes h c2
      refine Z_aload_n hk 0 dX7_graphAt_19 rfl rfl ?_
      refine Z_get hk in_X7_graphAt_CanonCote rfl ha0.cell.1 (ha0.cell.2 _) 0 (by decide) wd_X7_graphAt_1 rfl dX7_graphAt_20 ?_
      refine Z_iload_n hk 1 dX7_graphAt_23 rfl rfl ?_
      obtain ⟨i5, x3, e4, h⟩ := ldG_get h
      refine Z_aald hk (ha0.graphs) i5 dX7_graphAt_24 ?_
      refine Z_eqR e4 ?_
      cases h
      exact ZX_aret hk hq ⟨Nat.le_of_ble_eq_true rfl, Nat.le_of_ble_eq_true rfl⟩ dX7_graphAt_25
    · have h := if_no h c2
      refine Z_sub [] rfl ?_
      exact w_X7_graphAt_9 hk hfl hnx hq F σ h
theorem c_X7_graphAt {l : Launch} {E : zE} (hL : eL E) (hJ : eJ E) (hfl : l.stackTraces = false) (F : Nat) (a0 : Nat) (a1 : Int32) (ha0 : atCanonCote E a0) (σ : zST) {r0 : zX Nat} {τ0 : zST} (h : m_X7_graphAt F a0 a1 σ = some (r0, τ0)) : CtX l yX7_graphAt wsX7_graphAt r_X7_graphAt E [.ref (eA E a0), .int a1] σ (zrR E r0) τ0 := by
  refine CtX_of (by decide) rfl hL hJ (Nat.le_of_ble_eq_true rfl) (fun K hE hl hk htb hq => ?_)
  subst hE
  subst hl
  exact w_X7_graphAt hk hfl htb hq F a0 a1 ha0 σ h
theorem graphAt_at {E : zE} {F a0 : Nat} {a1 : Int32} {σ τ : zST} {x : Nat} (ha0 : atCanonCote E a0) (h : m_X7_graphAt F a0 a1 σ = some (.inr x, τ)) : atGraph E x := by
  unfold m_X7_graphAt at h
  split at h
  · unfold m_X7_graphAt_9 at h; cases h
  · split at h
    · obtain ⟨h1, x1, h2, h⟩ := ldG_get h
      cases h
      exact h2 ▸ ha0.graph _ (Nat.not_le.mp fun q => h1 (Or.inr q))
    · unfold m_X7_graphAt_9 at h; cases h
end

-- CanonCote.begin (II)I
section
theorem dX7_begin_0 : decode cX7_begin 0 = .ok (.aload_n 0, 1) := by decide +kernel
theorem dX7_begin_1 : decode cX7_begin 1 = .ok (.iload_n 1, 1) := by decide +kernel
theorem dX7_begin_2 : decode cX7_begin 2 = .ok (.invokevirtual 48, 3) := by decide +kernel
theorem dX7_begin_5 : decode cX7_begin 5 = .ok (.astore_n 3, 1) := by decide +kernel
theorem dX7_begin_6 : decode cX7_begin 6 = .ok (.iload_n 2, 1) := by decide +kernel
theorem dX7_begin_7 : decode cX7_begin 7 = .ok (.iconst 1, 1) := by decide +kernel
theorem dX7_begin_8 : decode cX7_begin 8 = .ok (.if_icmp .lt 9, 3) := by decide +kernel
theorem dX7_begin_11 : decode cX7_begin 11 = .ok (.iload_n 2, 1) := by decide +kernel
theorem dX7_begin_12 : decode cX7_begin 12 = .ok (.bipush 8, 2) := by decide +kernel
theorem dX7_begin_14 : decode cX7_begin 14 = .ok (.if_icmp .le 13, 3) := by decide +kernel
theorem dX7_begin_17 : decode cX7_begin 17 = .ok (.new 52, 3) := by decide +kernel
theorem dX7_begin_20 : decode cX7_begin 20 = .ok (.dup, 1) := by decide +kernel
theorem dX7_begin_21 : decode cX7_begin 21 = .ok (.ldc 54, 2) := by decide +kernel
theorem dX7_begin_23 : decode cX7_begin 23 = .ok (.invokespecial 56, 3) := by decide +kernel
theorem dX7_begin_26 : decode cX7_begin 26 = .ok (.athrow, 1) := by decide +kernel
theorem dX7_begin_27 : decode cX7_begin 27 = .ok (.aload_n 3, 1) := by decide +kernel
theorem dX7_begin_28 : decode cX7_begin 28 = .ok (.getfield 59, 3) := by decide +kernel
theorem dX7_begin_31 : decode cX7_begin 31 = .ok (.istore 4, 2) := by decide +kernel
theorem dX7_begin_33 : decode cX7_begin 33 = .ok (.aload_n 3, 1) := by decide +kernel
theorem dX7_begin_34 : decode cX7_begin 34 = .ok (.iload_n 2, 1) := by decide +kernel
theorem dX7_begin_35 : decode cX7_begin 35 = .ok (.invokevirtual 63, 3) := by decide +kernel
theorem dX7_begin_38 : decode cX7_begin 38 = .ok (.iload 4, 2) := by decide +kernel
theorem dX7_begin_40 : decode cX7_begin 40 = .ok (.ireturn, 1) := by decide +kernel
set_option maxRecDepth 20000 in
theorem ggX7_begin_X7_graphAt : GoodIn wsX7_begin wsX7_graphAt := goodIn_ca (goodIn_r _ [7, 8, 9, 10, 25, 26, 27, 28, 29, 30] (by decide +kernel) (by decide +kernel)) (goodIn_sub (fun _ h => List.mem_cons_of_mem _ (List.mem_append_right _ h)) (by decide +kernel))
set_option maxRecDepth 20000 in
theorem gX7_begin_X7_graphAt : GoodIn wsX7_begin (wsV RX7 48 RX7 yX7_graphAt wsX7_graphAt) := goodIn_app (goodIn_of _ (by decide +kernel)) ggX7_begin_X7_graphAt
set_option maxRecDepth 20000 in
theorem ggX7_begin_X2_clear : GoodIn wsX7_begin wsX2_clear := goodIn_r _ [14, 15, 16, 17, 18, 19, 20, 21, 22, 23, 24] (by decide +kernel) (by decide +kernel)
set_option maxRecDepth 20000 in
theorem gX7_begin_X2_clear_n63 : GoodIn wsX7_begin (wsX2_clear) := ggX7_begin_X2_clear
theorem in_X7_begin_Graph : ∀ w ∈ u_ws RX2 TX2 3, w ∈ wsX7_begin := by decide +kernel
theorem wd_X7_begin_1 : Cond.initialized yX2_clear.cls ∈ wsX7_begin := by decide +kernel
theorem wd_X7_begin_2 : Cond.instanceMethod yX2_clear ∈ wsX7_begin := by decide +kernel
theorem wd_X7_begin_3 : Cond.selects RX2 yX2_clear yX2_clear ∈ wsX7_begin := by decide +kernel
theorem wd_X7_begin_4 : Cond.classLink RX7 52 "java/lang/IllegalArgumentException" ∈ wsX7_begin := by decide +kernel
theorem wd_X7_begin_5 : Cond.initialized "java/lang/IllegalArgumentException" ∈ wsX7_begin := by decide +kernel
theorem at_X7_begin_56 : ∀ w ∈ (vx_atS RX7 56 "java/lang/IllegalArgumentException" ["java/lang/RuntimeException", "java/lang/Exception"]).filter goodWord, w ∈ wsX7_begin := by decide +kernel
def r_X7_begin : Room := { frames := 7, cells := 2, slots := 12, locals := 111 }
set_option maxRecDepth 100000 in
set_option maxHeartbeats 4000000 in
theorem w_X7_begin_17 {K : zK} (hk : zIs K RX7 cX7_begin 5 wsX7_begin (some .int) r_X7_begin) (hfl : (kL K).stackTraces = false) (hnx : zNX K) {r0 : zX Int32} {τ0 : zST} (hq : zQX K (zrI r0) τ0) (F : Nat)  (σ : zST) (h : m_X7_begin_17 F σ = some (r0, τ0)) : Z K 1 6 17 [] [] σ := by
  unfold m_X7_begin_17 at h
  cases h
  exact ZX_throw hk hnx hfl (text := "size is out of range") hq (by decide +kernel) ⟨wd_X7_begin_4, wd_X7_begin_5⟩ gw_3 at_X7_begin_56 gw_4 gw_5 dX7_begin_17 dX7_begin_20 dX7_begin_21 dX7_begin_23 dX7_begin_26 ⟨Nat.le_of_ble_eq_true rfl, Nat.le_of_ble_eq_true rfl⟩ (Nat.le_of_ble_eq_true rfl) ⟨Nat.le_of_ble_eq_true rfl, Nat.le_of_ble_eq_true rfl⟩
set_option maxRecDepth 100000 in
set_option maxHeartbeats 4000000 in
theorem w_X7_begin {K : zK} (hk : zIs K RX7 cX7_begin 5 wsX7_begin (some .int) r_X7_begin) (hfl : (kL K).stackTraces = false) (hnx : zNX K) {r0 : zX Int32} {τ0 : zST} (hq : zQX K (zrI r0) τ0) (F : Nat) (a0 : Nat) (a1 : Int32) (a2 : Int32) (ha0 : atCanonCote (kZ K) a0) (σ : zST) (h : m_X7_begin F a0 a1 a2 σ = some (r0, τ0)) : Z K 0 0 0 [(0, .ref (eA (kZ K) a0)), (1, .int a1), (2, .int a2)] [] σ := by
  unfold m_X7_begin at h
  refine Z_aload_n hk 0 dX7_begin_0 rfl rfl ?_
  refine Z_iload_n hk 1 dX7_begin_1 rfl rfl ?_
  rcases bx_ok h with ⟨e4, s2, h3, h⟩ | ⟨x1, s2, h3, h⟩
  · cases h
    exact ZX_callV 1 hk [.int a1] (c_X7_graphAt hk.loc hk.inj hfl F a0 a1 ha0 σ h3) gX7_begin_X7_graphAt rfl ⟨rfl, by decide +kernel, by decide +kernel, by decide +kernel⟩ ⟨Nat.le_of_ble_eq_true rfl, Nat.le_of_ble_eq_true rfl⟩ ha0.cell.1 (ha0.cell.2 _) rfl rfl rfl (Nat.le_of_ble_eq_true rfl) ⟨Nat.le_of_ble_eq_true rfl, Nat.le_of_ble_eq_true rfl⟩ dX7_begin_2 (fun X hX => by cases hX; exact Y_out hk hnx hq ⟨Nat.le_of_ble_eq_true rfl, Nat.le_of_ble_eq_true rfl⟩) (fun v hv => by cases hv)
  · refine ZX_callV 1 hk [.int a1] (c_X7_graphAt hk.loc hk.inj hfl F a0 a1 ha0 σ h3) gX7_begin_X7_graphAt rfl ⟨rfl, by decide +kernel, by decide +kernel, by decide +kernel⟩ ⟨Nat.le_of_ble_eq_true rfl, Nat.le_of_ble_eq_true rfl⟩ ha0.cell.1 (ha0.cell.2 _) rfl rfl rfl (Nat.le_of_ble_eq_true rfl) ⟨Nat.le_of_ble_eq_true rfl, Nat.le_of_ble_eq_true rfl⟩ dX7_begin_2 (fun X hX => by cases hX) (fun v hv => ?_)
    cases hv
    show Z K 1 6 5 [(0, .ref (eA (kZ K) a0)), (1, .int a1), (2, .int a2)] [.ref (eA (kZ K) x1)] s2
    refine Z_astore_n hk (lv' := [(3, .ref (eA (kZ K) x1)), (0, .ref (eA (kZ K) a0)), (1, .int a1), (2, .int a2)]) dX7_begin_5 rfl (by decide) rfl ?_
    refine Z_iload_n hk 3 dX7_begin_6 rfl rfl ?_
    refine Z_iconst hk dX7_begin_7 zc_iconst_1 ?_
    refine Z_icmp_lt hk (tgt := 17) dX7_begin_8 (by decide) (fun c5 => ?_) (fun c5 => ?_)
    · have h := if_yes h c5
      refine Z_sub [] rfl ?_
      exact w_X7_begin_17 hk hfl hnx hq F s2 h
    · have h := if_no h c5
      refine Z_iload_n hk 3 dX7_begin_11 rfl rfl ?_
      refine Z_bipush hk dX7_begin_12 zc_bipush_8 ?_
      refine Z_icmp_le hk (tgt := 27) dX7_begin_14 (by decide) (fun c6 => ?_) (fun c6 => ?_)
      · have h := if_yes h c6
        refine Z_aload_n hk 0 dX7_begin_27 rfl rfl ?_
        refine Z_getN hk in_X7_begin_Graph rfl (graphAt_at ha0 h3).cell.1 ((graphAt_at ha0 h3).cell.2 _) 0 (by decide) nw_28 rfl dX7_begin_28 ?_
        obtain ⟨x7, e8, h⟩ := nm_get h
        refine Z_eqI e8 ?_
        refine Z_istore hk (lv' := [(4, .int x7), (3, .ref (eA (kZ K) x1)), (0, .ref (eA (kZ K) a0)), (1, .int a1), (2, .int a2)]) dX7_begin_31 (by decide) rfl ?_
        refine Z_aload_n hk 1 dX7_begin_33 rfl rfl ?_
        refine Z_iload_n hk 4 dX7_begin_34 rfl rfl ?_
        obtain ⟨s10, h11, h⟩ := bv_ok h
        refine Z_callVN 1 hk (C := RX2) [.int a2] (c_X2_clear hk.loc hk.inj F x1 a2 (graphAt_at ha0 h3) s2 h11) gX7_begin_X2_clear_n63 nw_29 rfl ⟨rfl, rfl⟩ ⟨wd_X7_begin_1, wd_X7_begin_2, wd_X7_begin_3⟩ (by decide +kernel) ⟨Nat.le_of_ble_eq_true rfl, Nat.le_of_ble_eq_true rfl⟩ (graphAt_at ha0 h3).cell.1 ((graphAt_at ha0 h3).cell.2 _) rfl rfl rfl (Nat.le_of_ble_eq_true rfl) ⟨Nat.le_of_ble_eq_true rfl, Nat.le_of_ble_eq_true rfl⟩ dX7_begin_35 ?_
        show Z K 1 6 38 [(4, .int x7), (3, .ref (eA (kZ K) x1)), (0, .ref (eA (kZ K) a0)), (1, .int a1), (2, .int a2)] [] s10
        refine Z_iload hk 0 dX7_begin_38 rfl ?_
        cases h
        exact ZX_iret hk hq ⟨Nat.le_of_ble_eq_true rfl, Nat.le_of_ble_eq_true rfl⟩ dX7_begin_40
      · have h := if_no h c6
        refine Z_sub [] rfl ?_
        exact w_X7_begin_17 hk hfl hnx hq F s2 h
theorem c_X7_begin {l : Launch} {E : zE} (hL : eL E) (hJ : eJ E) (hfl : l.stackTraces = false) (F : Nat) (a0 : Nat) (a1 : Int32) (a2 : Int32) (ha0 : atCanonCote E a0) (σ : zST) {r0 : zX Int32} {τ0 : zST} (h : m_X7_begin F a0 a1 a2 σ = some (r0, τ0)) : CtX l yX7_begin wsX7_begin r_X7_begin E [.ref (eA E a0), .int a1, .int a2] σ (zrI r0) τ0 := by
  refine CtX_of (by decide) rfl hL hJ (Nat.le_of_ble_eq_true rfl) (fun K hE hl hk htb hq => ?_)
  subst hE
  subst hl
  exact w_X7_begin hk hfl htb hq F a0 a1 a2 ha0 σ h
end

-- CanonCote.checkVertex (LCanonCote$Graph;I)V
section
theorem dX7_checkVertex_0 : decode cX7_checkVertex 0 = .ok (.iload_n 1, 1) := by decide +kernel
theorem dX7_checkVertex_1 : decode cX7_checkVertex 1 = .ok (.ifCond .lt 11, 3) := by decide +kernel
theorem dX7_checkVertex_4 : decode cX7_checkVertex 4 = .ok (.iload_n 1, 1) := by decide +kernel
theorem dX7_checkVertex_5 : decode cX7_checkVertex 5 = .ok (.aload_n 0, 1) := by decide +kernel
theorem dX7_checkVertex_6 : decode cX7_checkVertex 6 = .ok (.getfield 59, 3) := by decide +kernel
theorem dX7_checkVertex_9 : decode cX7_checkVertex 9 = .ok (.if_icmp .lt 13, 3) := by decide +kernel
theorem dX7_checkVertex_12 : decode cX7_checkVertex 12 = .ok (.new 182, 3) := by decide +kernel
theorem dX7_checkVertex_15 : decode cX7_checkVertex 15 = .ok (.dup, 1) := by decide +kernel
theorem dX7_checkVertex_16 : decode cX7_checkVertex 16 = .ok (.ldc 197, 2) := by decide +kernel
theorem dX7_checkVertex_18 : decode cX7_checkVertex 18 = .ok (.invokespecial 186, 3) := by decide +kernel
theorem dX7_checkVertex_21 : decode cX7_checkVertex 21 = .ok (.athrow, 1) := by decide +kernel
theorem dX7_checkVertex_22 : decode cX7_checkVertex 22 = .ok (.return_, 1) := by decide +kernel
theorem in_X7_checkVertex_Graph : ∀ w ∈ u_ws RX2 TX2 3, w ∈ wsX7_checkVertex := by decide +kernel
theorem wd_X7_checkVertex_1 : Cond.classLink RX7 182 "java/lang/IndexOutOfBoundsException" ∈ wsX7_checkVertex := by decide +kernel
theorem wd_X7_checkVertex_2 : Cond.initialized "java/lang/IndexOutOfBoundsException" ∈ wsX7_checkVertex := by decide +kernel
theorem at_X7_checkVertex_186 : ∀ w ∈ (vx_atS RX7 186 "java/lang/IndexOutOfBoundsException" ["java/lang/RuntimeException", "java/lang/Exception"]).filter goodWord, w ∈ wsX7_checkVertex := by decide +kernel
def r_X7_checkVertex : Room := { frames := 6, cells := 1, slots := 6, locals := 90 }
set_option maxRecDepth 100000 in
set_option maxHeartbeats 4000000 in
theorem w_X7_checkVertex_12 {K : zK} (hk : zIs K RX7 cX7_checkVertex 2 wsX7_checkVertex none r_X7_checkVertex) (hfl : (kL K).stackTraces = false) (hnx : zNX K) {r0 : zX Unit} {τ0 : zST} (hq : zQX K (zrU r0) τ0) (F : Nat)  (σ : zST) (h : m_X7_checkVertex_12 F σ = some (r0, τ0)) : Z K 0 0 12 [] [] σ := by
  unfold m_X7_checkVertex_12 at h
  cases h
  exact ZX_throw hk hnx hfl (text := "no such vertex") hq (by decide +kernel) ⟨wd_X7_checkVertex_1, wd_X7_checkVertex_2⟩ gw_6 at_X7_checkVertex_186 gw_1 gw_2 dX7_checkVertex_12 dX7_checkVertex_15 dX7_checkVertex_16 dX7_checkVertex_18 dX7_checkVertex_21 ⟨Nat.le_of_ble_eq_true rfl, Nat.le_of_ble_eq_true rfl⟩ (Nat.le_of_ble_eq_true rfl) ⟨Nat.le_of_ble_eq_true rfl, Nat.le_of_ble_eq_true rfl⟩
set_option maxRecDepth 100000 in
set_option maxHeartbeats 4000000 in
theorem w_X7_checkVertex {K : zK} (hk : zIs K RX7 cX7_checkVertex 2 wsX7_checkVertex none r_X7_checkVertex) (hfl : (kL K).stackTraces = false) (hnx : zNX K) {r0 : zX Unit} {τ0 : zST} (hq : zQX K (zrU r0) τ0) (F : Nat) (a0 : Nat) (a1 : Int32) (ha0 : atGraph (kZ K) a0) (σ : zST) (h : m_X7_checkVertex F a0 a1 σ = some (r0, τ0)) : Z K 0 0 0 [(0, .ref (eA (kZ K) a0)), (1, .int a1)] [] σ := by
  unfold m_X7_checkVertex at h
  refine Z_iload_n hk 1 dX7_checkVertex_0 rfl rfl ?_
  refine Z_if_lt hk (tgt := 12) dX7_checkVertex_1 (by decide) (fun c1 => ?_) (fun c1 => ?_)
  · have h := if_yes h c1
    refine Z_sub [] rfl ?_
    exact w_X7_checkVertex_12 hk hfl hnx hq F σ h
  · have h := if_no h c1
    refine Z_iload_n hk 1 dX7_checkVertex_4 rfl rfl ?_
    refine Z_aload_n hk 0 dX7_checkVertex_5 rfl rfl ?_
    refine Z_getN hk in_X7_checkVertex_Graph rfl ha0.cell.1 (ha0.cell.2 _) 0 (by decide) nw_28 rfl dX7_checkVertex_6 ?_
    refine Z_icmp_lt hk (tgt := 22) dX7_checkVertex_9 (by decide) (fun c2 => ?_) (fun c2 => ?_)
    · have h := if_yes h c2
      cases h
      exact ZX_vret hk hq ⟨Nat.le_of_ble_eq_true rfl, Nat.le_of_ble_eq_true rfl⟩ dX7_checkVertex_22
    · have h := if_no h c2
      refine Z_sub [] rfl ?_
      exact w_X7_checkVertex_12 hk hfl hnx hq F σ h
theorem c_X7_checkVertex {l : Launch} {E : zE} (hL : eL E) (hJ : eJ E) (hfl : l.stackTraces = false) (F : Nat) (a0 : Nat) (a1 : Int32) (ha0 : atGraph E a0) (σ : zST) {r0 : zX Unit} {τ0 : zST} (h : m_X7_checkVertex F a0 a1 σ = some (r0, τ0)) : CtX l yX7_checkVertex wsX7_checkVertex r_X7_checkVertex E [.ref (eA E a0), .int a1] σ (zrU r0) τ0 := by
  refine CtX_of (by decide) rfl hL hJ (Nat.le_of_ble_eq_true rfl) (fun K hE hl hk htb hq => ?_)
  subst hE
  subst hl
  exact w_X7_checkVertex hk hfl htb hq F a0 a1 ha0 σ h
end

-- CanonCote.toggle (III)Z
section
theorem dX7_toggle_0 : decode cX7_toggle 0 = .ok (.aload_n 0, 1) := by decide +kernel
theorem dX7_toggle_1 : decode cX7_toggle 1 = .ok (.iload_n 1, 1) := by decide +kernel
theorem dX7_toggle_2 : decode cX7_toggle 2 = .ok (.invokevirtual 48, 3) := by decide +kernel
theorem dX7_toggle_5 : decode cX7_toggle 5 = .ok (.astore 4, 2) := by decide +kernel
theorem dX7_toggle_7 : decode cX7_toggle 7 = .ok (.aload 4, 2) := by decide +kernel
theorem dX7_toggle_9 : decode cX7_toggle 9 = .ok (.iload_n 2, 1) := by decide +kernel
theorem dX7_toggle_10 : decode cX7_toggle 10 = .ok (.invokestatic 67, 3) := by decide +kernel
theorem dX7_toggle_13 : decode cX7_toggle 13 = .ok (.aload 4, 2) := by decide +kernel
theorem dX7_toggle_15 : decode cX7_toggle 15 = .ok (.iload_n 3, 1) := by decide +kernel
theorem dX7_toggle_16 : decode cX7_toggle 16 = .ok (.invokestatic 67, 3) := by decide +kernel
theorem dX7_toggle_19 : decode cX7_toggle 19 = .ok (.iload_n 2, 1) := by decide +kernel
theorem dX7_toggle_20 : decode cX7_toggle 20 = .ok (.iload_n 3, 1) := by decide +kernel
theorem dX7_toggle_21 : decode cX7_toggle 21 = .ok (.if_icmp .ne 13, 3) := by decide +kernel
theorem dX7_toggle_24 : decode cX7_toggle 24 = .ok (.new 52, 3) := by decide +kernel
theorem dX7_toggle_27 : decode cX7_toggle 27 = .ok (.dup, 1) := by decide +kernel
theorem dX7_toggle_28 : decode cX7_toggle 28 = .ok (.ldc 71, 2) := by decide +kernel
theorem dX7_toggle_30 : decode cX7_toggle 30 = .ok (.invokespecial 56, 3) := by decide +kernel
theorem dX7_toggle_33 : decode cX7_toggle 33 = .ok (.athrow, 1) := by decide +kernel
theorem dX7_toggle_34 : decode cX7_toggle 34 = .ok (.aload 4, 2) := by decide +kernel
theorem dX7_toggle_36 : decode cX7_toggle 36 = .ok (.iload_n 2, 1) := by decide +kernel
theorem dX7_toggle_37 : decode cX7_toggle 37 = .ok (.iload_n 3, 1) := by decide +kernel
theorem dX7_toggle_38 : decode cX7_toggle 38 = .ok (.invokevirtual 73, 3) := by decide +kernel
theorem dX7_toggle_41 : decode cX7_toggle 41 = .ok (.aload 4, 2) := by decide +kernel
theorem dX7_toggle_43 : decode cX7_toggle 43 = .ok (.iload_n 2, 1) := by decide +kernel
theorem dX7_toggle_44 : decode cX7_toggle 44 = .ok (.iload_n 3, 1) := by decide +kernel
theorem dX7_toggle_45 : decode cX7_toggle 45 = .ok (.invokevirtual 77, 3) := by decide +kernel
theorem dX7_toggle_48 : decode cX7_toggle 48 = .ok (.ireturn, 1) := by decide +kernel
set_option maxRecDepth 20000 in
theorem ggX7_toggle_X7_graphAt : GoodIn wsX7_toggle wsX7_graphAt := goodIn_ca (goodIn_r _ [7, 8, 9, 10, 24, 25, 26, 27, 28, 29] (by decide +kernel) (by decide +kernel)) (goodIn_sub (fun _ h => List.mem_cons_of_mem _ (List.mem_append_right _ h)) (by decide +kernel))
set_option maxRecDepth 20000 in
theorem gX7_toggle_X7_graphAt : GoodIn wsX7_toggle (wsV RX7 48 RX7 yX7_graphAt wsX7_graphAt) := goodIn_app (goodIn_of _ (by decide +kernel)) ggX7_toggle_X7_graphAt
set_option maxRecDepth 20000 in
theorem ggX7_toggle_X7_checkVertex : GoodIn wsX7_toggle wsX7_checkVertex := goodIn_ca (goodIn_r _ [13, 8, 9, 30, 31, 32] (by decide +kernel) (by decide +kernel)) (goodIn_sub (fun _ h => List.mem_cons_of_mem _ (List.mem_append_right _ h)) (by decide +kernel))
set_option maxRecDepth 20000 in
theorem gX7_toggle_X7_checkVertex : GoodIn wsX7_toggle (va_wsS RX7 67 yX7_checkVertex wsX7_checkVertex) := goodIn_app (goodIn_of _ (by decide +kernel)) ggX7_toggle_X7_checkVertex
set_option maxRecDepth 20000 in
theorem ggX7_toggle_X2_flipEdge : GoodIn wsX7_toggle wsX2_flipEdge := goodIn_r _ [17, 18, 30, 31, 32] (by decide +kernel) (by decide +kernel)
set_option maxRecDepth 20000 in
theorem gX7_toggle_X2_flipEdge_n73 : GoodIn wsX7_toggle (wsX2_flipEdge) := ggX7_toggle_X2_flipEdge
set_option maxRecDepth 20000 in
theorem ggX7_toggle_X2_hasEdge : GoodIn wsX7_toggle wsX2_hasEdge := goodIn_r _ [21, 18, 22, 6, 23, 30, 31, 32] (by decide +kernel) (by decide +kernel)
set_option maxRecDepth 20000 in
theorem gX7_toggle_X2_hasEdge_n77 : GoodIn wsX7_toggle (wsX2_hasEdge) := ggX7_toggle_X2_hasEdge
theorem wd_X7_toggle_0 : Cond.classLink RX7 52 "java/lang/IllegalArgumentException" ∈ wsX7_toggle := by decide +kernel
theorem wd_X7_toggle_1 : Cond.initialized "java/lang/IllegalArgumentException" ∈ wsX7_toggle := by decide +kernel
theorem at_X7_toggle_56 : ∀ w ∈ (vx_atS RX7 56 "java/lang/IllegalArgumentException" ["java/lang/RuntimeException", "java/lang/Exception"]).filter goodWord, w ∈ wsX7_toggle := by decide +kernel
theorem wd_X7_toggle_3 : Cond.initialized yX2_flipEdge.cls ∈ wsX7_toggle := by decide +kernel
theorem wd_X7_toggle_4 : Cond.instanceMethod yX2_flipEdge ∈ wsX7_toggle := by decide +kernel
theorem wd_X7_toggle_5 : Cond.selects RX2 yX2_flipEdge yX2_flipEdge ∈ wsX7_toggle := by decide +kernel
theorem wd_X7_toggle_6 : Cond.initialized yX2_hasEdge.cls ∈ wsX7_toggle := by decide +kernel
theorem wd_X7_toggle_7 : Cond.instanceMethod yX2_hasEdge ∈ wsX7_toggle := by decide +kernel
theorem wd_X7_toggle_8 : Cond.selects RX2 yX2_hasEdge yX2_hasEdge ∈ wsX7_toggle := by decide +kernel
def r_X7_toggle : Room := { frames := 7, cells := 4, slots := 24, locals := 111 }
set_option maxRecDepth 100000 in
set_option maxHeartbeats 4000000 in
theorem w_X7_toggle {K : zK} (hk : zIs K RX7 cX7_toggle 5 wsX7_toggle (some .boolean) r_X7_toggle) (hfl : (kL K).stackTraces = false) (hnx : zNX K) {r0 : zX Int32} {τ0 : zST} (hq : zQX K (zrI r0) τ0) (F : Nat) (a0 : Nat) (a1 : Int32) (a2 : Int32) (a3 : Int32) (ha0 : atCanonCote (kZ K) a0) (σ : zST) (h : m_X7_toggle F a0 a1 a2 a3 σ = some (r0, τ0)) : Z K 0 0 0 [(0, .ref (eA (kZ K) a0)), (1, .int a1), (2, .int a2), (3, .int a3)] [] σ := by
  unfold m_X7_toggle at h
  refine Z_aload_n hk 0 dX7_toggle_0 rfl rfl ?_
  refine Z_iload_n hk 1 dX7_toggle_1 rfl rfl ?_
  rcases bx_ok h with ⟨e4, s2, h3, h⟩ | ⟨x1, s2, h3, h⟩
  · cases h
    exact ZX_callV 1 hk [.int a1] (c_X7_graphAt hk.loc hk.inj hfl F a0 a1 ha0 σ h3) gX7_toggle_X7_graphAt rfl ⟨rfl, by decide +kernel, by decide +kernel, by decide +kernel⟩ ⟨Nat.le_of_ble_eq_true rfl, Nat.le_of_ble_eq_true rfl⟩ ha0.cell.1 (ha0.cell.2 _) rfl rfl rfl (Nat.le_of_ble_eq_true rfl) ⟨Nat.le_of_ble_eq_true rfl, Nat.le_of_ble_eq_true rfl⟩ dX7_toggle_2 (fun X hX => by cases hX; exact Y_out hk hnx hq ⟨Nat.le_of_ble_eq_true rfl, Nat.le_of_ble_eq_true rfl⟩) (fun v hv => by cases hv)
  · refine ZX_callV 1 hk [.int a1] (c_X7_graphAt hk.loc hk.inj hfl F a0 a1 ha0 σ h3) gX7_toggle_X7_graphAt rfl ⟨rfl, by decide +kernel, by decide +kernel, by decide +kernel⟩ ⟨Nat.le_of_ble_eq_true rfl, Nat.le_of_ble_eq_true rfl⟩ ha0.cell.1 (ha0.cell.2 _) rfl rfl rfl (Nat.le_of_ble_eq_true rfl) ⟨Nat.le_of_ble_eq_true rfl, Nat.le_of_ble_eq_true rfl⟩ dX7_toggle_2 (fun X hX => by cases hX) (fun v hv => ?_)
    cases hv
    show Z K 1 6 5 [(0, .ref (eA (kZ K) a0)), (1, .int a1), (2, .int a2), (3, .int a3)] [.ref (eA (kZ K) x1)] s2
    refine Z_astore hk (lv' := [(4, .ref (eA (kZ K) x1)), (0, .ref (eA (kZ K) a0)), (1, .int a1), (2, .int a2), (3, .int a3)]) dX7_toggle_5 (by decide) rfl ?_
    refine Z_aload hk 0 dX7_toggle_7 rfl ?_
    refine Z_iload_n hk 3 dX7_toggle_9 rfl rfl ?_
    rcases bx_ok h with ⟨e8, s6, h7, h⟩ | ⟨x5, s6, h7, h⟩
    · cases h
      exact ZX_callT 2 hk [.ref (eA (kZ K) x1), .int a2] (c_X7_checkVertex hk.loc hk.inj hfl F x1 a2 (graphAt_at ha0 h3) s2 h7) gX7_toggle_X7_checkVertex rfl ⟨by decide +kernel, by decide +kernel, by decide +kernel⟩ ⟨Nat.le_of_ble_eq_true rfl, Nat.le_of_ble_eq_true rfl⟩ rfl rfl (Nat.le_of_ble_eq_true rfl) ⟨Nat.le_of_ble_eq_true rfl, Nat.le_of_ble_eq_true rfl⟩ dX7_toggle_10 (fun X hX => by cases hX; exact Y_out hk hnx hq ⟨Nat.le_of_ble_eq_true rfl, Nat.le_of_ble_eq_true rfl⟩) (fun v hv => by cases hv)
    · refine ZX_callT 2 hk [.ref (eA (kZ K) x1), .int a2] (c_X7_checkVertex hk.loc hk.inj hfl F x1 a2 (graphAt_at ha0 h3) s2 h7) gX7_toggle_X7_checkVertex rfl ⟨by decide +kernel, by decide +kernel, by decide +kernel⟩ ⟨Nat.le_of_ble_eq_true rfl, Nat.le_of_ble_eq_true rfl⟩ rfl rfl (Nat.le_of_ble_eq_true rfl) ⟨Nat.le_of_ble_eq_true rfl, Nat.le_of_ble_eq_true rfl⟩ dX7_toggle_10 (fun X hX => by cases hX) (fun v hv => ?_)
      cases hv
      show Z K 2 12 13 [(4, .ref (eA (kZ K) x1)), (0, .ref (eA (kZ K) a0)), (1, .int a1), (2, .int a2), (3, .int a3)] [] s6
      refine Z_aload hk 0 dX7_toggle_13 rfl ?_
      refine Z_iload_n hk 4 dX7_toggle_15 rfl rfl ?_
      rcases bx_ok h with ⟨e12, s10, h11, h⟩ | ⟨x9, s10, h11, h⟩
      · cases h
        exact ZX_callT 2 hk [.ref (eA (kZ K) x1), .int a3] (c_X7_checkVertex hk.loc hk.inj hfl F x1 a3 (graphAt_at ha0 h3) s6 h11) gX7_toggle_X7_checkVertex rfl ⟨by decide +kernel, by decide +kernel, by decide +kernel⟩ ⟨Nat.le_of_ble_eq_true rfl, Nat.le_of_ble_eq_true rfl⟩ rfl rfl (Nat.le_of_ble_eq_true rfl) ⟨Nat.le_of_ble_eq_true rfl, Nat.le_of_ble_eq_true rfl⟩ dX7_toggle_16 (fun X hX => by cases hX; exact Y_out hk hnx hq ⟨Nat.le_of_ble_eq_true rfl, Nat.le_of_ble_eq_true rfl⟩) (fun v hv => by cases hv)
      · refine ZX_callT 2 hk [.ref (eA (kZ K) x1), .int a3] (c_X7_checkVertex hk.loc hk.inj hfl F x1 a3 (graphAt_at ha0 h3) s6 h11) gX7_toggle_X7_checkVertex rfl ⟨by decide +kernel, by decide +kernel, by decide +kernel⟩ ⟨Nat.le_of_ble_eq_true rfl, Nat.le_of_ble_eq_true rfl⟩ rfl rfl (Nat.le_of_ble_eq_true rfl) ⟨Nat.le_of_ble_eq_true rfl, Nat.le_of_ble_eq_true rfl⟩ dX7_toggle_16 (fun X hX => by cases hX) (fun v hv => ?_)
        cases hv
        show Z K 3 18 19 [(4, .ref (eA (kZ K) x1)), (0, .ref (eA (kZ K) a0)), (1, .int a1), (2, .int a2), (3, .int a3)] [] s10
        refine Z_iload_n hk 3 dX7_toggle_19 rfl rfl ?_
        refine Z_iload_n hk 4 dX7_toggle_20 rfl rfl ?_
        refine Z_icmp_ne hk (tgt := 34) dX7_toggle_21 (by decide) (fun c13 => ?_) (fun c13 => ?_)
        · have h := if_yes h c13
          cases h
          exact ZX_throw hk hnx hfl (text := "both vertices are the same") hq (by decide +kernel) ⟨wd_X7_toggle_0, wd_X7_toggle_1⟩ gw_7 at_X7_toggle_56 gw_4 gw_5 dX7_toggle_24 dX7_toggle_27 dX7_toggle_28 dX7_toggle_30 dX7_toggle_33 ⟨Nat.le_of_ble_eq_true rfl, Nat.le_of_ble_eq_true rfl⟩ (Nat.le_of_ble_eq_true rfl) ⟨Nat.le_of_ble_eq_true rfl, Nat.le_of_ble_eq_true rfl⟩
        · have h := if_no h c13
          refine Z_aload hk 0 dX7_toggle_34 rfl ?_
          refine Z_iload_n hk 3 dX7_toggle_36 rfl rfl ?_
          refine Z_iload_n hk 4 dX7_toggle_37 rfl rfl ?_
          obtain ⟨s15, h16, h⟩ := bv_ok h
          refine Z_callVN 2 hk (C := RX2) [.int a2, .int a3] (c_X2_flipEdge hk.loc hk.inj F x1 a2 a3 (graphAt_at ha0 h3) s10 h16) gX7_toggle_X2_flipEdge_n73 nw_30 rfl ⟨rfl, rfl⟩ ⟨wd_X7_toggle_3, wd_X7_toggle_4, wd_X7_toggle_5⟩ (by decide +kernel) ⟨Nat.le_of_ble_eq_true rfl, Nat.le_of_ble_eq_true rfl⟩ (graphAt_at ha0 h3).cell.1 ((graphAt_at ha0 h3).cell.2 _) rfl rfl rfl (Nat.le_of_ble_eq_true rfl) ⟨Nat.le_of_ble_eq_true rfl, Nat.le_of_ble_eq_true rfl⟩ dX7_toggle_38 ?_
          show Z K 3 18 41 [(4, .ref (eA (kZ K) x1)), (0, .ref (eA (kZ K) a0)), (1, .int a1), (2, .int a2), (3, .int a3)] [] s15
          refine Z_aload hk 0 dX7_toggle_41 rfl ?_
          refine Z_iload_n hk 3 dX7_toggle_43 rfl rfl ?_
          refine Z_iload_n hk 4 dX7_toggle_44 rfl rfl ?_
          obtain ⟨x17, s18, h19, h⟩ := bd_ok h
          refine Z_callVN 2 hk (C := RX2) [.int a2, .int a3] (c_X2_hasEdge hk.loc hk.inj F x1 a2 a3 (graphAt_at ha0 h3) s15 h19) gX7_toggle_X2_hasEdge_n77 nw_31 rfl ⟨rfl, rfl⟩ ⟨wd_X7_toggle_6, wd_X7_toggle_7, wd_X7_toggle_8⟩ (by decide +kernel) ⟨Nat.le_of_ble_eq_true rfl, Nat.le_of_ble_eq_true rfl⟩ (graphAt_at ha0 h3).cell.1 ((graphAt_at ha0 h3).cell.2 _) rfl rfl rfl (Nat.le_of_ble_eq_true rfl) ⟨Nat.le_of_ble_eq_true rfl, Nat.le_of_ble_eq_true rfl⟩ dX7_toggle_45 ?_
          show Z K 3 18 48 [(4, .ref (eA (kZ K) x1)), (0, .ref (eA (kZ K) a0)), (1, .int a1), (2, .int a2), (3, .int a3)] [.int x17] s18
          obtain ⟨hz, h⟩ := gd_some h
          cases h
          exact ZX_zret hk hz hq ⟨Nat.le_of_ble_eq_true rfl, Nat.le_of_ble_eq_true rfl⟩ dX7_toggle_48
theorem c_X7_toggle {l : Launch} {E : zE} (hL : eL E) (hJ : eJ E) (hfl : l.stackTraces = false) (F : Nat) (a0 : Nat) (a1 : Int32) (a2 : Int32) (a3 : Int32) (ha0 : atCanonCote E a0) (σ : zST) {r0 : zX Int32} {τ0 : zST} (h : m_X7_toggle F a0 a1 a2 a3 σ = some (r0, τ0)) : CtX l yX7_toggle wsX7_toggle r_X7_toggle E [.ref (eA E a0), .int a1, .int a2, .int a3] σ (zrI r0) τ0 := by
  refine CtX_of (by decide) rfl hL hJ (Nat.le_of_ble_eq_true rfl) (fun K hE hl hk htb hq => ?_)
  subst hE
  subst hl
  exact w_X7_toggle hk hfl htb hq F a0 a1 a2 a3 ha0 σ h
end

-- CanonCote.setColour (III)I
section
theorem dX7_setColour_0 : decode cX7_setColour 0 = .ok (.aload_n 0, 1) := by decide +kernel
theorem dX7_setColour_1 : decode cX7_setColour 1 = .ok (.iload_n 1, 1) := by decide +kernel
theorem dX7_setColour_2 : decode cX7_setColour 2 = .ok (.invokevirtual 48, 3) := by decide +kernel
theorem dX7_setColour_5 : decode cX7_setColour 5 = .ok (.astore 4, 2) := by decide +kernel
theorem dX7_setColour_7 : decode cX7_setColour 7 = .ok (.aload 4, 2) := by decide +kernel
theorem dX7_setColour_9 : decode cX7_setColour 9 = .ok (.iload_n 2, 1) := by decide +kernel
theorem dX7_setColour_10 : decode cX7_setColour 10 = .ok (.invokestatic 67, 3) := by decide +kernel
theorem dX7_setColour_13 : decode cX7_setColour 13 = .ok (.iload_n 3, 1) := by decide +kernel
theorem dX7_setColour_14 : decode cX7_setColour 14 = .ok (.ifCond .lt 9, 3) := by decide +kernel
theorem dX7_setColour_17 : decode cX7_setColour 17 = .ok (.iload_n 3, 1) := by decide +kernel
theorem dX7_setColour_18 : decode cX7_setColour 18 = .ok (.bipush 8, 2) := by decide +kernel
theorem dX7_setColour_20 : decode cX7_setColour 20 = .ok (.if_icmp .lt 13, 3) := by decide +kernel
theorem dX7_setColour_23 : decode cX7_setColour 23 = .ok (.new 52, 3) := by decide +kernel
theorem dX7_setColour_26 : decode cX7_setColour 26 = .ok (.dup, 1) := by decide +kernel
theorem dX7_setColour_27 : decode cX7_setColour 27 = .ok (.ldc 81, 2) := by decide +kernel
theorem dX7_setColour_29 : decode cX7_setColour 29 = .ok (.invokespecial 56, 3) := by decide +kernel
theorem dX7_setColour_32 : decode cX7_setColour 32 = .ok (.athrow, 1) := by decide +kernel
theorem dX7_setColour_33 : decode cX7_setColour 33 = .ok (.aload 4, 2) := by decide +kernel
theorem dX7_setColour_35 : decode cX7_setColour 35 = .ok (.getfield 83, 3) := by decide +kernel
theorem dX7_setColour_38 : decode cX7_setColour 38 = .ok (.iload_n 2, 1) := by decide +kernel
theorem dX7_setColour_39 : decode cX7_setColour 39 = .ok (.iaload, 1) := by decide +kernel
theorem dX7_setColour_40 : decode cX7_setColour 40 = .ok (.istore 5, 2) := by decide +kernel
theorem dX7_setColour_42 : decode cX7_setColour 42 = .ok (.aload 4, 2) := by decide +kernel
theorem dX7_setColour_44 : decode cX7_setColour 44 = .ok (.getfield 83, 3) := by decide +kernel
theorem dX7_setColour_47 : decode cX7_setColour 47 = .ok (.iload_n 2, 1) := by decide +kernel
theorem dX7_setColour_48 : decode cX7_setColour 48 = .ok (.iload_n 3, 1) := by decide +kernel
theorem dX7_setColour_49 : decode cX7_setColour 49 = .ok (.iastore, 1) := by decide +kernel
theorem dX7_setColour_50 : decode cX7_setColour 50 = .ok (.iload 5, 2) := by decide +kernel
theorem dX7_setColour_52 : decode cX7_setColour 52 = .ok (.ireturn, 1) := by decide +kernel
set_option maxRecDepth 20000 in
theorem ggX7_setColour_X7_graphAt : GoodIn wsX7_setColour wsX7_graphAt := goodIn_ca (goodIn_r _ [7, 8, 9, 10, 17, 18, 19, 20, 21, 22] (by decide +kernel) (by decide +kernel)) (goodIn_sub (fun _ h => List.mem_cons_of_mem _ (List.mem_append_right _ h)) (by decide +kernel))
set_option maxRecDepth 20000 in
theorem gX7_setColour_X7_graphAt : GoodIn wsX7_setColour (wsV RX7 48 RX7 yX7_graphAt wsX7_graphAt) := goodIn_app (goodIn_of _ (by decide +kernel)) ggX7_setColour_X7_graphAt
set_option maxRecDepth 20000 in
theorem ggX7_setColour_X7_checkVertex : GoodIn wsX7_setColour wsX7_checkVertex := goodIn_ca (goodIn_r _ [13, 8, 9, 14, 15, 16] (by decide +kernel) (by decide +kernel)) (goodIn_sub (fun _ h => List.mem_cons_of_mem _ (List.mem_append_right _ h)) (by decide +kernel))
set_option maxRecDepth 20000 in
theorem gX7_setColour_X7_checkVertex : GoodIn wsX7_setColour (va_wsS RX7 67 yX7_checkVertex wsX7_checkVertex) := goodIn_app (goodIn_of _ (by decide +kernel)) ggX7_setColour_X7_checkVertex
theorem in_X7_setColour_Graph : ∀ w ∈ u_ws RX2 TX2 3, w ∈ wsX7_setColour := by decide +kernel
theorem wd_X7_setColour_1 : Cond.classLink RX7 52 "java/lang/IllegalArgumentException" ∈ wsX7_setColour := by decide +kernel
theorem wd_X7_setColour_2 : Cond.initialized "java/lang/IllegalArgumentException" ∈ wsX7_setColour := by decide +kernel
theorem at_X7_setColour_56 : ∀ w ∈ (vx_atS RX7 56 "java/lang/IllegalArgumentException" ["java/lang/RuntimeException", "java/lang/Exception"]).filter goodWord, w ∈ wsX7_setColour := by decide +kernel
def r_X7_setColour : Room := { frames := 7, cells := 3, slots := 18, locals := 111 }
set_option maxRecDepth 100000 in
set_option maxHeartbeats 4000000 in
theorem w_X7_setColour_23 {K : zK} (hk : zIs K RX7 cX7_setColour 6 wsX7_setColour (some .int) r_X7_setColour) (hfl : (kL K).stackTraces = false) (hnx : zNX K) {r0 : zX Int32} {τ0 : zST} (hq : zQX K (zrI r0) τ0) (F : Nat)  (σ : zST) (h : m_X7_setColour_23 F σ = some (r0, τ0)) : Z K 2 12 23 [] [] σ := by
  unfold m_X7_setColour_23 at h
  cases h
  exact ZX_throw hk hnx hfl (text := "colour is out of range") hq (by decide +kernel) ⟨wd_X7_setColour_1, wd_X7_setColour_2⟩ gw_8 at_X7_setColour_56 gw_4 gw_5 dX7_setColour_23 dX7_setColour_26 dX7_setColour_27 dX7_setColour_29 dX7_setColour_32 ⟨Nat.le_of_ble_eq_true rfl, Nat.le_of_ble_eq_true rfl⟩ (Nat.le_of_ble_eq_true rfl) ⟨Nat.le_of_ble_eq_true rfl, Nat.le_of_ble_eq_true rfl⟩
set_option maxRecDepth 100000 in
set_option maxHeartbeats 4000000 in
theorem w_X7_setColour {K : zK} (hk : zIs K RX7 cX7_setColour 6 wsX7_setColour (some .int) r_X7_setColour) (hfl : (kL K).stackTraces = false) (hnx : zNX K) {r0 : zX Int32} {τ0 : zST} (hq : zQX K (zrI r0) τ0) (F : Nat) (a0 : Nat) (a1 : Int32) (a2 : Int32) (a3 : Int32) (ha0 : atCanonCote (kZ K) a0) (σ : zST) (h : m_X7_setColour F a0 a1 a2 a3 σ = some (r0, τ0)) : Z K 0 0 0 [(0, .ref (eA (kZ K) a0)), (1, .int a1), (2, .int a2), (3, .int a3)] [] σ := by
  unfold m_X7_setColour at h
  refine Z_aload_n hk 0 dX7_setColour_0 rfl rfl ?_
  refine Z_iload_n hk 1 dX7_setColour_1 rfl rfl ?_
  rcases bx_ok h with ⟨e4, s2, h3, h⟩ | ⟨x1, s2, h3, h⟩
  · cases h
    exact ZX_callV 1 hk [.int a1] (c_X7_graphAt hk.loc hk.inj hfl F a0 a1 ha0 σ h3) gX7_setColour_X7_graphAt rfl ⟨rfl, by decide +kernel, by decide +kernel, by decide +kernel⟩ ⟨Nat.le_of_ble_eq_true rfl, Nat.le_of_ble_eq_true rfl⟩ ha0.cell.1 (ha0.cell.2 _) rfl rfl rfl (Nat.le_of_ble_eq_true rfl) ⟨Nat.le_of_ble_eq_true rfl, Nat.le_of_ble_eq_true rfl⟩ dX7_setColour_2 (fun X hX => by cases hX; exact Y_out hk hnx hq ⟨Nat.le_of_ble_eq_true rfl, Nat.le_of_ble_eq_true rfl⟩) (fun v hv => by cases hv)
  · refine ZX_callV 1 hk [.int a1] (c_X7_graphAt hk.loc hk.inj hfl F a0 a1 ha0 σ h3) gX7_setColour_X7_graphAt rfl ⟨rfl, by decide +kernel, by decide +kernel, by decide +kernel⟩ ⟨Nat.le_of_ble_eq_true rfl, Nat.le_of_ble_eq_true rfl⟩ ha0.cell.1 (ha0.cell.2 _) rfl rfl rfl (Nat.le_of_ble_eq_true rfl) ⟨Nat.le_of_ble_eq_true rfl, Nat.le_of_ble_eq_true rfl⟩ dX7_setColour_2 (fun X hX => by cases hX) (fun v hv => ?_)
    cases hv
    show Z K 1 6 5 [(0, .ref (eA (kZ K) a0)), (1, .int a1), (2, .int a2), (3, .int a3)] [.ref (eA (kZ K) x1)] s2
    refine Z_astore hk (lv' := [(4, .ref (eA (kZ K) x1)), (0, .ref (eA (kZ K) a0)), (1, .int a1), (2, .int a2), (3, .int a3)]) dX7_setColour_5 (by decide) rfl ?_
    refine Z_aload hk 0 dX7_setColour_7 rfl ?_
    refine Z_iload_n hk 3 dX7_setColour_9 rfl rfl ?_
    rcases bx_ok h with ⟨e8, s6, h7, h⟩ | ⟨x5, s6, h7, h⟩
    · cases h
      exact ZX_callT 2 hk [.ref (eA (kZ K) x1), .int a2] (c_X7_checkVertex hk.loc hk.inj hfl F x1 a2 (graphAt_at ha0 h3) s2 h7) gX7_setColour_X7_checkVertex rfl ⟨by decide +kernel, by decide +kernel, by decide +kernel⟩ ⟨Nat.le_of_ble_eq_true rfl, Nat.le_of_ble_eq_true rfl⟩ rfl rfl (Nat.le_of_ble_eq_true rfl) ⟨Nat.le_of_ble_eq_true rfl, Nat.le_of_ble_eq_true rfl⟩ dX7_setColour_10 (fun X hX => by cases hX; exact Y_out hk hnx hq ⟨Nat.le_of_ble_eq_true rfl, Nat.le_of_ble_eq_true rfl⟩) (fun v hv => by cases hv)
    · refine ZX_callT 2 hk [.ref (eA (kZ K) x1), .int a2] (c_X7_checkVertex hk.loc hk.inj hfl F x1 a2 (graphAt_at ha0 h3) s2 h7) gX7_setColour_X7_checkVertex rfl ⟨by decide +kernel, by decide +kernel, by decide +kernel⟩ ⟨Nat.le_of_ble_eq_true rfl, Nat.le_of_ble_eq_true rfl⟩ rfl rfl (Nat.le_of_ble_eq_true rfl) ⟨Nat.le_of_ble_eq_true rfl, Nat.le_of_ble_eq_true rfl⟩ dX7_setColour_10 (fun X hX => by cases hX) (fun v hv => ?_)
      cases hv
      show Z K 2 12 13 [(4, .ref (eA (kZ K) x1)), (0, .ref (eA (kZ K) a0)), (1, .int a1), (2, .int a2), (3, .int a3)] [] s6
      refine Z_iload_n hk 4 dX7_setColour_13 rfl rfl ?_
      refine Z_if_lt hk (tgt := 23) dX7_setColour_14 (by decide) (fun c9 => ?_) (fun c9 => ?_)
      · have h := if_yes h c9
        refine Z_sub [] rfl ?_
        exact w_X7_setColour_23 hk hfl hnx hq F s6 h
      · have h := if_no h c9
        refine Z_iload_n hk 4 dX7_setColour_17 rfl rfl ?_
        refine Z_bipush hk dX7_setColour_18 zc_bipush_8 ?_
        refine Z_icmp_lt hk (tgt := 33) dX7_setColour_20 (by decide) (fun c10 => ?_) (fun c10 => ?_)
        · have h := if_yes h c10
          refine Z_aload hk 0 dX7_setColour_33 rfl ?_
          refine Z_getN hk in_X7_setColour_Graph rfl (graphAt_at ha0 h3).cell.1 ((graphAt_at ha0 h3).cell.2 _) 2 (by decide) nw_32 rfl dX7_setColour_35 ?_
          refine Z_iload_n hk 3 dX7_setColour_38 rfl rfl ?_
          obtain ⟨i13, x11, e12, h⟩ := ldI_get h
          refine Z_iald hk (((graphAt_at ha0 h3).colours)) i13 dX7_setColour_39 ?_
          refine Z_eqI e12 ?_
          refine Z_istore hk (lv' := [(5, .int x11), (4, .ref (eA (kZ K) x1)), (0, .ref (eA (kZ K) a0)), (1, .int a1), (2, .int a2), (3, .int a3)]) dX7_setColour_40 (by decide) rfl ?_
          refine Z_aload hk 1 dX7_setColour_42 rfl ?_
          refine Z_getN hk in_X7_setColour_Graph rfl (graphAt_at ha0 h3).cell.1 ((graphAt_at ha0 h3).cell.2 _) 2 (by decide) nw_32 rfl dX7_setColour_44 ?_
          refine Z_iload_n hk 4 dX7_setColour_47 rfl rfl ?_
          refine Z_iload_n hk 5 dX7_setColour_48 rfl rfl ?_
          obtain ⟨i16, s14, e15, h⟩ := stI_get h
          refine Z_iast hk (((graphAt_at ha0 h3).colours)) i16 dX7_setColour_49 ?_
          refine Z_eqS e15 ?_
          refine Z_iload hk 0 dX7_setColour_50 rfl ?_
          cases h
          exact ZX_iret hk hq ⟨Nat.le_of_ble_eq_true rfl, Nat.le_of_ble_eq_true rfl⟩ dX7_setColour_52
        · have h := if_no h c10
          refine Z_sub [] rfl ?_
          exact w_X7_setColour_23 hk hfl hnx hq F s6 h
theorem c_X7_setColour {l : Launch} {E : zE} (hL : eL E) (hJ : eJ E) (hfl : l.stackTraces = false) (F : Nat) (a0 : Nat) (a1 : Int32) (a2 : Int32) (a3 : Int32) (ha0 : atCanonCote E a0) (σ : zST) {r0 : zX Int32} {τ0 : zST} (h : m_X7_setColour F a0 a1 a2 a3 σ = some (r0, τ0)) : CtX l yX7_setColour wsX7_setColour r_X7_setColour E [.ref (eA E a0), .int a1, .int a2, .int a3] σ (zrI r0) τ0 := by
  refine CtX_of (by decide) rfl hL hJ (Nat.le_of_ble_eq_true rfl) (fun K hE hl hk htb hq => ?_)
  subst hE
  subst hl
  exact w_X7_setColour hk hfl htb hq F a0 a1 a2 a3 ha0 σ h
end

-- CanonCote.swap (III)V
section
theorem dX7_swap_0 : decode cX7_swap 0 = .ok (.aload_n 0, 1) := by decide +kernel
theorem dX7_swap_1 : decode cX7_swap 1 = .ok (.iload_n 1, 1) := by decide +kernel
theorem dX7_swap_2 : decode cX7_swap 2 = .ok (.invokevirtual 48, 3) := by decide +kernel
theorem dX7_swap_5 : decode cX7_swap 5 = .ok (.astore 4, 2) := by decide +kernel
theorem dX7_swap_7 : decode cX7_swap 7 = .ok (.aload 4, 2) := by decide +kernel
theorem dX7_swap_9 : decode cX7_swap 9 = .ok (.iload_n 2, 1) := by decide +kernel
theorem dX7_swap_10 : decode cX7_swap 10 = .ok (.invokestatic 67, 3) := by decide +kernel
theorem dX7_swap_13 : decode cX7_swap 13 = .ok (.aload 4, 2) := by decide +kernel
theorem dX7_swap_15 : decode cX7_swap 15 = .ok (.iload_n 3, 1) := by decide +kernel
theorem dX7_swap_16 : decode cX7_swap 16 = .ok (.invokestatic 67, 3) := by decide +kernel
theorem dX7_swap_19 : decode cX7_swap 19 = .ok (.aload 4, 2) := by decide +kernel
theorem dX7_swap_21 : decode cX7_swap 21 = .ok (.iload_n 2, 1) := by decide +kernel
theorem dX7_swap_22 : decode cX7_swap 22 = .ok (.iload_n 3, 1) := by decide +kernel
theorem dX7_swap_23 : decode cX7_swap 23 = .ok (.invokevirtual 87, 3) := by decide +kernel
theorem dX7_swap_26 : decode cX7_swap 26 = .ok (.return_, 1) := by decide +kernel
set_option maxRecDepth 20000 in
theorem ggX7_swap_X7_graphAt : GoodIn wsX7_swap wsX7_graphAt := goodIn_ca (goodIn_r _ [5, 6, 7, 8, 21, 22, 23, 24, 25, 26] (by decide +kernel) (by decide +kernel)) (goodIn_sub (fun _ h => List.mem_cons_of_mem _ (List.mem_append_right _ h)) (by decide +kernel))
set_option maxRecDepth 20000 in
theorem gX7_swap_X7_graphAt : GoodIn wsX7_swap (wsV RX7 48 RX7 yX7_graphAt wsX7_graphAt) := goodIn_app (goodIn_of _ (by decide +kernel)) ggX7_swap_X7_graphAt
set_option maxRecDepth 20000 in
theorem ggX7_swap_X7_checkVertex : GoodIn wsX7_swap wsX7_checkVertex := goodIn_ca (goodIn_r _ [11, 6, 7, 27, 28, 29] (by decide +kernel) (by decide +kernel)) (goodIn_sub (fun _ h => List.mem_cons_of_mem _ (List.mem_append_right _ h)) (by decide +kernel))
set_option maxRecDepth 20000 in
theorem gX7_swap_X7_checkVertex : GoodIn wsX7_swap (va_wsS RX7 67 yX7_checkVertex wsX7_checkVertex) := goodIn_app (goodIn_of _ (by decide +kernel)) ggX7_swap_X7_checkVertex
set_option maxRecDepth 20000 in
theorem ggX7_swap_X2_exchange : GoodIn wsX7_swap wsX2_exchange := goodIn_r _ [15, 16, 17, 18, 19, 4, 20, 27, 28, 29] (by decide +kernel) (by decide +kernel)
set_option maxRecDepth 20000 in
theorem gX7_swap_X2_exchange_n87 : GoodIn wsX7_swap (wsX2_exchange) := ggX7_swap_X2_exchange
theorem wd_X7_swap_0 : Cond.initialized yX2_exchange.cls ∈ wsX7_swap := by decide +kernel
theorem wd_X7_swap_1 : Cond.instanceMethod yX2_exchange ∈ wsX7_swap := by decide +kernel
theorem wd_X7_swap_2 : Cond.selects RX2 yX2_exchange yX2_exchange ∈ wsX7_swap := by decide +kernel
def r_X7_swap : Room := { frames := 7, cells := 3, slots := 18, locals := 111 }
set_option maxRecDepth 100000 in
set_option maxHeartbeats 4000000 in
theorem w_X7_swap {K : zK} (hk : zIs K RX7 cX7_swap 5 wsX7_swap none r_X7_swap) (hfl : (kL K).stackTraces = false) (hnx : zNX K) {r0 : zX Unit} {τ0 : zST} (hq : zQX K (zrU r0) τ0) (F : Nat) (a0 : Nat) (a1 : Int32) (a2 : Int32) (a3 : Int32) (ha0 : atCanonCote (kZ K) a0) (σ : zST) (h : m_X7_swap F a0 a1 a2 a3 σ = some (r0, τ0)) : Z K 0 0 0 [(0, .ref (eA (kZ K) a0)), (1, .int a1), (2, .int a2), (3, .int a3)] [] σ := by
  unfold m_X7_swap at h
  refine Z_aload_n hk 0 dX7_swap_0 rfl rfl ?_
  refine Z_iload_n hk 1 dX7_swap_1 rfl rfl ?_
  rcases bx_ok h with ⟨e4, s2, h3, h⟩ | ⟨x1, s2, h3, h⟩
  · cases h
    exact ZX_callV 1 hk [.int a1] (c_X7_graphAt hk.loc hk.inj hfl F a0 a1 ha0 σ h3) gX7_swap_X7_graphAt rfl ⟨rfl, by decide +kernel, by decide +kernel, by decide +kernel⟩ ⟨Nat.le_of_ble_eq_true rfl, Nat.le_of_ble_eq_true rfl⟩ ha0.cell.1 (ha0.cell.2 _) rfl rfl rfl (Nat.le_of_ble_eq_true rfl) ⟨Nat.le_of_ble_eq_true rfl, Nat.le_of_ble_eq_true rfl⟩ dX7_swap_2 (fun X hX => by cases hX; exact Y_out hk hnx hq ⟨Nat.le_of_ble_eq_true rfl, Nat.le_of_ble_eq_true rfl⟩) (fun v hv => by cases hv)
  · refine ZX_callV 1 hk [.int a1] (c_X7_graphAt hk.loc hk.inj hfl F a0 a1 ha0 σ h3) gX7_swap_X7_graphAt rfl ⟨rfl, by decide +kernel, by decide +kernel, by decide +kernel⟩ ⟨Nat.le_of_ble_eq_true rfl, Nat.le_of_ble_eq_true rfl⟩ ha0.cell.1 (ha0.cell.2 _) rfl rfl rfl (Nat.le_of_ble_eq_true rfl) ⟨Nat.le_of_ble_eq_true rfl, Nat.le_of_ble_eq_true rfl⟩ dX7_swap_2 (fun X hX => by cases hX) (fun v hv => ?_)
    cases hv
    show Z K 1 6 5 [(0, .ref (eA (kZ K) a0)), (1, .int a1), (2, .int a2), (3, .int a3)] [.ref (eA (kZ K) x1)] s2
    refine Z_astore hk (lv' := [(4, .ref (eA (kZ K) x1)), (0, .ref (eA (kZ K) a0)), (1, .int a1), (2, .int a2), (3, .int a3)]) dX7_swap_5 (by decide) rfl ?_
    refine Z_aload hk 0 dX7_swap_7 rfl ?_
    refine Z_iload_n hk 3 dX7_swap_9 rfl rfl ?_
    rcases bx_ok h with ⟨e8, s6, h7, h⟩ | ⟨x5, s6, h7, h⟩
    · cases h
      exact ZX_callT 2 hk [.ref (eA (kZ K) x1), .int a2] (c_X7_checkVertex hk.loc hk.inj hfl F x1 a2 (graphAt_at ha0 h3) s2 h7) gX7_swap_X7_checkVertex rfl ⟨by decide +kernel, by decide +kernel, by decide +kernel⟩ ⟨Nat.le_of_ble_eq_true rfl, Nat.le_of_ble_eq_true rfl⟩ rfl rfl (Nat.le_of_ble_eq_true rfl) ⟨Nat.le_of_ble_eq_true rfl, Nat.le_of_ble_eq_true rfl⟩ dX7_swap_10 (fun X hX => by cases hX; exact Y_out hk hnx hq ⟨Nat.le_of_ble_eq_true rfl, Nat.le_of_ble_eq_true rfl⟩) (fun v hv => by cases hv)
    · refine ZX_callT 2 hk [.ref (eA (kZ K) x1), .int a2] (c_X7_checkVertex hk.loc hk.inj hfl F x1 a2 (graphAt_at ha0 h3) s2 h7) gX7_swap_X7_checkVertex rfl ⟨by decide +kernel, by decide +kernel, by decide +kernel⟩ ⟨Nat.le_of_ble_eq_true rfl, Nat.le_of_ble_eq_true rfl⟩ rfl rfl (Nat.le_of_ble_eq_true rfl) ⟨Nat.le_of_ble_eq_true rfl, Nat.le_of_ble_eq_true rfl⟩ dX7_swap_10 (fun X hX => by cases hX) (fun v hv => ?_)
      cases hv
      show Z K 2 12 13 [(4, .ref (eA (kZ K) x1)), (0, .ref (eA (kZ K) a0)), (1, .int a1), (2, .int a2), (3, .int a3)] [] s6
      refine Z_aload hk 0 dX7_swap_13 rfl ?_
      refine Z_iload_n hk 4 dX7_swap_15 rfl rfl ?_
      rcases bx_ok h with ⟨e12, s10, h11, h⟩ | ⟨x9, s10, h11, h⟩
      · cases h
        exact ZX_callT 2 hk [.ref (eA (kZ K) x1), .int a3] (c_X7_checkVertex hk.loc hk.inj hfl F x1 a3 (graphAt_at ha0 h3) s6 h11) gX7_swap_X7_checkVertex rfl ⟨by decide +kernel, by decide +kernel, by decide +kernel⟩ ⟨Nat.le_of_ble_eq_true rfl, Nat.le_of_ble_eq_true rfl⟩ rfl rfl (Nat.le_of_ble_eq_true rfl) ⟨Nat.le_of_ble_eq_true rfl, Nat.le_of_ble_eq_true rfl⟩ dX7_swap_16 (fun X hX => by cases hX; exact Y_out hk hnx hq ⟨Nat.le_of_ble_eq_true rfl, Nat.le_of_ble_eq_true rfl⟩) (fun v hv => by cases hv)
      · refine ZX_callT 2 hk [.ref (eA (kZ K) x1), .int a3] (c_X7_checkVertex hk.loc hk.inj hfl F x1 a3 (graphAt_at ha0 h3) s6 h11) gX7_swap_X7_checkVertex rfl ⟨by decide +kernel, by decide +kernel, by decide +kernel⟩ ⟨Nat.le_of_ble_eq_true rfl, Nat.le_of_ble_eq_true rfl⟩ rfl rfl (Nat.le_of_ble_eq_true rfl) ⟨Nat.le_of_ble_eq_true rfl, Nat.le_of_ble_eq_true rfl⟩ dX7_swap_16 (fun X hX => by cases hX) (fun v hv => ?_)
        cases hv
        show Z K 3 18 19 [(4, .ref (eA (kZ K) x1)), (0, .ref (eA (kZ K) a0)), (1, .int a1), (2, .int a2), (3, .int a3)] [] s10
        refine Z_aload hk 0 dX7_swap_19 rfl ?_
        refine Z_iload_n hk 3 dX7_swap_21 rfl rfl ?_
        refine Z_iload_n hk 4 dX7_swap_22 rfl rfl ?_
        obtain ⟨s14, h15, h⟩ := bv_ok h
        refine Z_callVN 2 hk (C := RX2) [.int a2, .int a3] (c_X2_exchange hk.loc hk.inj F x1 a2 a3 (graphAt_at ha0 h3) s10 h15) gX7_swap_X2_exchange_n87 nw_33 rfl ⟨rfl, rfl⟩ ⟨wd_X7_swap_0, wd_X7_swap_1, wd_X7_swap_2⟩ (by decide +kernel) ⟨Nat.le_of_ble_eq_true rfl, Nat.le_of_ble_eq_true rfl⟩ (graphAt_at ha0 h3).cell.1 ((graphAt_at ha0 h3).cell.2 _) rfl rfl rfl (Nat.le_of_ble_eq_true rfl) ⟨Nat.le_of_ble_eq_true rfl, Nat.le_of_ble_eq_true rfl⟩ dX7_swap_23 ?_
        show Z K 3 18 26 [(4, .ref (eA (kZ K) x1)), (0, .ref (eA (kZ K) a0)), (1, .int a1), (2, .int a2), (3, .int a3)] [] s14
        cases h
        exact ZX_vret hk hq ⟨Nat.le_of_ble_eq_true rfl, Nat.le_of_ble_eq_true rfl⟩ dX7_swap_26
theorem c_X7_swap {l : Launch} {E : zE} (hL : eL E) (hJ : eJ E) (hfl : l.stackTraces = false) (F : Nat) (a0 : Nat) (a1 : Int32) (a2 : Int32) (a3 : Int32) (ha0 : atCanonCote E a0) (σ : zST) {r0 : zX Unit} {τ0 : zST} (h : m_X7_swap F a0 a1 a2 a3 σ = some (r0, τ0)) : CtX l yX7_swap wsX7_swap r_X7_swap E [.ref (eA E a0), .int a1, .int a2, .int a3] σ (zrU r0) τ0 := by
  refine CtX_of (by decide) rfl hL hJ (Nat.le_of_ble_eq_true rfl) (fun K hE hl hk htb hq => ?_)
  subst hE
  subst hl
  exact w_X7_swap hk hfl htb hq F a0 a1 a2 a3 ha0 σ h
end

-- CanonCote.copy (II)V
section
theorem dX7_copy_0 : decode cX7_copy 0 = .ok (.aload_n 0, 1) := by decide +kernel
theorem dX7_copy_1 : decode cX7_copy 1 = .ok (.iload_n 1, 1) := by decide +kernel
theorem dX7_copy_2 : decode cX7_copy 2 = .ok (.invokevirtual 48, 3) := by decide +kernel
theorem dX7_copy_5 : decode cX7_copy 5 = .ok (.astore_n 3, 1) := by decide +kernel
theorem dX7_copy_6 : decode cX7_copy 6 = .ok (.aload_n 0, 1) := by decide +kernel
theorem dX7_copy_7 : decode cX7_copy 7 = .ok (.iload_n 2, 1) := by decide +kernel
theorem dX7_copy_8 : decode cX7_copy 8 = .ok (.invokevirtual 48, 3) := by decide +kernel
theorem dX7_copy_11 : decode cX7_copy 11 = .ok (.aload_n 3, 1) := by decide +kernel
theorem dX7_copy_12 : decode cX7_copy 12 = .ok (.invokevirtual 90, 3) := by decide +kernel
theorem dX7_copy_15 : decode cX7_copy 15 = .ok (.return_, 1) := by decide +kernel
set_option maxRecDepth 20000 in
theorem ggX7_copy_X7_graphAt : GoodIn wsX7_copy wsX7_graphAt := goodIn_ca (goodIn_r _ [5, 6, 7, 8, 16, 17, 18, 19, 20, 21] (by decide +kernel) (by decide +kernel)) (goodIn_sub (fun _ h => List.mem_cons_of_mem _ (List.mem_append_right _ h)) (by decide +kernel))
set_option maxRecDepth 20000 in
theorem gX7_copy_X7_graphAt : GoodIn wsX7_copy (wsV RX7 48 RX7 yX7_graphAt wsX7_graphAt) := goodIn_app (goodIn_of _ (by decide +kernel)) ggX7_copy_X7_graphAt
set_option maxRecDepth 20000 in
theorem ggX7_copy_X2_become : GoodIn wsX7_copy wsX2_become := goodIn_r _ [12, 13, 14, 15, 22, 23, 24] (by decide +kernel) (by decide +kernel)
set_option maxRecDepth 20000 in
theorem gX7_copy_X2_become_n90 : GoodIn wsX7_copy (wsX2_become) := ggX7_copy_X2_become
theorem wd_X7_copy_0 : Cond.initialized yX2_become.cls ∈ wsX7_copy := by decide +kernel
theorem wd_X7_copy_1 : Cond.instanceMethod yX2_become ∈ wsX7_copy := by decide +kernel
theorem wd_X7_copy_2 : Cond.selects RX2 yX2_become yX2_become ∈ wsX7_copy := by decide +kernel
def r_X7_copy : Room := { frames := 7, cells := 2, slots := 12, locals := 111 }
set_option maxRecDepth 100000 in
set_option maxHeartbeats 4000000 in
theorem w_X7_copy {K : zK} (hk : zIs K RX7 cX7_copy 4 wsX7_copy none r_X7_copy) (hfl : (kL K).stackTraces = false) (hnx : zNX K) {r0 : zX Unit} {τ0 : zST} (hq : zQX K (zrU r0) τ0) (F : Nat) (a0 : Nat) (a1 : Int32) (a2 : Int32) (ha0 : atCanonCote (kZ K) a0) (σ : zST) (h : m_X7_copy F a0 a1 a2 σ = some (r0, τ0)) : Z K 0 0 0 [(0, .ref (eA (kZ K) a0)), (1, .int a1), (2, .int a2)] [] σ := by
  unfold m_X7_copy at h
  refine Z_aload_n hk 0 dX7_copy_0 rfl rfl ?_
  refine Z_iload_n hk 1 dX7_copy_1 rfl rfl ?_
  rcases bx_ok h with ⟨e4, s2, h3, h⟩ | ⟨x1, s2, h3, h⟩
  · cases h
    exact ZX_callV 1 hk [.int a1] (c_X7_graphAt hk.loc hk.inj hfl F a0 a1 ha0 σ h3) gX7_copy_X7_graphAt rfl ⟨rfl, by decide +kernel, by decide +kernel, by decide +kernel⟩ ⟨Nat.le_of_ble_eq_true rfl, Nat.le_of_ble_eq_true rfl⟩ ha0.cell.1 (ha0.cell.2 _) rfl rfl rfl (Nat.le_of_ble_eq_true rfl) ⟨Nat.le_of_ble_eq_true rfl, Nat.le_of_ble_eq_true rfl⟩ dX7_copy_2 (fun X hX => by cases hX; exact Y_out hk hnx hq ⟨Nat.le_of_ble_eq_true rfl, Nat.le_of_ble_eq_true rfl⟩) (fun v hv => by cases hv)
  · refine ZX_callV 1 hk [.int a1] (c_X7_graphAt hk.loc hk.inj hfl F a0 a1 ha0 σ h3) gX7_copy_X7_graphAt rfl ⟨rfl, by decide +kernel, by decide +kernel, by decide +kernel⟩ ⟨Nat.le_of_ble_eq_true rfl, Nat.le_of_ble_eq_true rfl⟩ ha0.cell.1 (ha0.cell.2 _) rfl rfl rfl (Nat.le_of_ble_eq_true rfl) ⟨Nat.le_of_ble_eq_true rfl, Nat.le_of_ble_eq_true rfl⟩ dX7_copy_2 (fun X hX => by cases hX) (fun v hv => ?_)
    cases hv
    show Z K 1 6 5 [(0, .ref (eA (kZ K) a0)), (1, .int a1), (2, .int a2)] [.ref (eA (kZ K) x1)] s2
    refine Z_astore_n hk (lv' := [(3, .ref (eA (kZ K) x1)), (0, .ref (eA (kZ K) a0)), (1, .int a1), (2, .int a2)]) dX7_copy_5 rfl (by decide) rfl ?_
    refine Z_aload_n hk 1 dX7_copy_6 rfl rfl ?_
    refine Z_iload_n hk 3 dX7_copy_7 rfl rfl ?_
    rcases bx_ok h with ⟨e8, s6, h7, h⟩ | ⟨x5, s6, h7, h⟩
    · cases h
      exact ZX_callV 1 hk [.int a2] (c_X7_graphAt hk.loc hk.inj hfl F a0 a2 ha0 s2 h7) gX7_copy_X7_graphAt rfl ⟨rfl, by decide +kernel, by decide +kernel, by decide +kernel⟩ ⟨Nat.le_of_ble_eq_true rfl, Nat.le_of_ble_eq_true rfl⟩ ha0.cell.1 (ha0.cell.2 _) rfl rfl rfl (Nat.le_of_ble_eq_true rfl) ⟨Nat.le_of_ble_eq_true rfl, Nat.le_of_ble_eq_true rfl⟩ dX7_copy_8 (fun X hX => by cases hX; exact Y_out hk hnx hq ⟨Nat.le_of_ble_eq_true rfl, Nat.le_of_ble_eq_true rfl⟩) (fun v hv => by cases hv)
    · refine ZX_callV 1 hk [.int a2] (c_X7_graphAt hk.loc hk.inj hfl F a0 a2 ha0 s2 h7) gX7_copy_X7_graphAt rfl ⟨rfl, by decide +kernel, by decide +kernel, by decide +kernel⟩ ⟨Nat.le_of_ble_eq_true rfl, Nat.le_of_ble_eq_true rfl⟩ ha0.cell.1 (ha0.cell.2 _) rfl rfl rfl (Nat.le_of_ble_eq_true rfl) ⟨Nat.le_of_ble_eq_true rfl, Nat.le_of_ble_eq_true rfl⟩ dX7_copy_8 (fun X hX => by cases hX) (fun v hv => ?_)
      cases hv
      show Z K 2 12 11 [(3, .ref (eA (kZ K) x1)), (0, .ref (eA (kZ K) a0)), (1, .int a1), (2, .int a2)] [.ref (eA (kZ K) x5)] s6
      refine Z_aload_n hk 0 dX7_copy_11 rfl rfl ?_
      obtain ⟨s10, h11, h⟩ := bv_ok h
      refine Z_callVN 1 hk (C := RX2) [.ref (eA (kZ K) x1)] (c_X2_become hk.loc hk.inj F x5 x1 (graphAt_at ha0 h7) (graphAt_at ha0 h3) s6 h11) gX7_copy_X2_become_n90 nw_34 rfl ⟨rfl, rfl⟩ ⟨wd_X7_copy_0, wd_X7_copy_1, wd_X7_copy_2⟩ (by decide +kernel) ⟨Nat.le_of_ble_eq_true rfl, Nat.le_of_ble_eq_true rfl⟩ (graphAt_at ha0 h7).cell.1 ((graphAt_at ha0 h7).cell.2 _) rfl rfl rfl (Nat.le_of_ble_eq_true rfl) ⟨Nat.le_of_ble_eq_true rfl, Nat.le_of_ble_eq_true rfl⟩ dX7_copy_12 ?_
      show Z K 2 12 15 [(3, .ref (eA (kZ K) x1)), (0, .ref (eA (kZ K) a0)), (1, .int a1), (2, .int a2)] [] s10
      cases h
      exact ZX_vret hk hq ⟨Nat.le_of_ble_eq_true rfl, Nat.le_of_ble_eq_true rfl⟩ dX7_copy_15
theorem c_X7_copy {l : Launch} {E : zE} (hL : eL E) (hJ : eJ E) (hfl : l.stackTraces = false) (F : Nat) (a0 : Nat) (a1 : Int32) (a2 : Int32) (ha0 : atCanonCote E a0) (σ : zST) {r0 : zX Unit} {τ0 : zST} (h : m_X7_copy F a0 a1 a2 σ = some (r0, τ0)) : CtX l yX7_copy wsX7_copy r_X7_copy E [.ref (eA E a0), .int a1, .int a2] σ (zrU r0) τ0 := by
  refine CtX_of (by decide) rfl hL hJ (Nat.le_of_ble_eq_true rfl) (fun K hE hl hk htb hq => ?_)
  subst hE
  subst hl
  exact w_X7_copy hk hfl htb hq F a0 a1 a2 ha0 σ h
end

-- CanonCote.complement (I)I
section
theorem dX7_complement_0 : decode cX7_complement 0 = .ok (.aload_n 0, 1) := by decide +kernel
theorem dX7_complement_1 : decode cX7_complement 1 = .ok (.iload_n 1, 1) := by decide +kernel
theorem dX7_complement_2 : decode cX7_complement 2 = .ok (.invokevirtual 48, 3) := by decide +kernel
theorem dX7_complement_5 : decode cX7_complement 5 = .ok (.astore_n 2, 1) := by decide +kernel
theorem dX7_complement_6 : decode cX7_complement 6 = .ok (.aload_n 2, 1) := by decide +kernel
theorem dX7_complement_7 : decode cX7_complement 7 = .ok (.invokevirtual 94, 3) := by decide +kernel
theorem dX7_complement_10 : decode cX7_complement 10 = .ok (.aload_n 2, 1) := by decide +kernel
theorem dX7_complement_11 : decode cX7_complement 11 = .ok (.invokevirtual 97, 3) := by decide +kernel
theorem dX7_complement_14 : decode cX7_complement 14 = .ok (.ireturn, 1) := by decide +kernel
set_option maxRecDepth 20000 in
theorem ggX7_complement_X7_graphAt : GoodIn wsX7_complement wsX7_graphAt := goodIn_ca (goodIn_r _ [5, 6, 7, 8, 27, 28, 29, 30, 31, 32] (by decide +kernel) (by decide +kernel)) (goodIn_sub (fun _ h => List.mem_cons_of_mem _ (List.mem_append_right _ h)) (by decide +kernel))
set_option maxRecDepth 20000 in
theorem gX7_complement_X7_graphAt : GoodIn wsX7_complement (wsV RX7 48 RX7 yX7_graphAt wsX7_graphAt) := goodIn_app (goodIn_of _ (by decide +kernel)) ggX7_complement_X7_graphAt
set_option maxRecDepth 20000 in
theorem ggX7_complement_X2_invertEdges : GoodIn wsX7_complement wsX2_invertEdges := goodIn_r _ [12, 13, 14, 15, 4, 16, 33, 34, 35] (by decide +kernel) (by decide +kernel)
set_option maxRecDepth 20000 in
theorem gX7_complement_X2_invertEdges_n94 : GoodIn wsX7_complement (wsX2_invertEdges) := ggX7_complement_X2_invertEdges
set_option maxRecDepth 20000 in
theorem ggX7_complement_X2_countEdges : GoodIn wsX7_complement wsX2_countEdges := goodIn_r _ [19, 13, 14, 20, 21, 22, 23, 24, 25, 26, 33, 34, 35] (by decide +kernel) (by decide +kernel)
set_option maxRecDepth 20000 in
theorem gX7_complement_X2_countEdges_n97 : GoodIn wsX7_complement (wsX2_countEdges) := ggX7_complement_X2_countEdges
theorem wd_X7_complement_0 : Cond.initialized yX2_invertEdges.cls ∈ wsX7_complement := by decide +kernel
theorem wd_X7_complement_1 : Cond.instanceMethod yX2_invertEdges ∈ wsX7_complement := by decide +kernel
theorem wd_X7_complement_2 : Cond.selects RX2 yX2_invertEdges yX2_invertEdges ∈ wsX7_complement := by decide +kernel
theorem wd_X7_complement_3 : Cond.initialized yX2_countEdges.cls ∈ wsX7_complement := by decide +kernel
theorem wd_X7_complement_4 : Cond.instanceMethod yX2_countEdges ∈ wsX7_complement := by decide +kernel
theorem wd_X7_complement_5 : Cond.selects RX2 yX2_countEdges yX2_countEdges ∈ wsX7_complement := by decide +kernel
def r_X7_complement : Room := { frames := 7, cells := 1, slots := 6, locals := 111 }
set_option maxRecDepth 100000 in
set_option maxHeartbeats 4000000 in
theorem w_X7_complement {K : zK} (hk : zIs K RX7 cX7_complement 3 wsX7_complement (some .int) r_X7_complement) (hfl : (kL K).stackTraces = false) (hnx : zNX K) {r0 : zX Int32} {τ0 : zST} (hq : zQX K (zrI r0) τ0) (F : Nat) (a0 : Nat) (a1 : Int32) (ha0 : atCanonCote (kZ K) a0) (σ : zST) (h : m_X7_complement F a0 a1 σ = some (r0, τ0)) : Z K 0 0 0 [(0, .ref (eA (kZ K) a0)), (1, .int a1)] [] σ := by
  unfold m_X7_complement at h
  refine Z_aload_n hk 0 dX7_complement_0 rfl rfl ?_
  refine Z_iload_n hk 1 dX7_complement_1 rfl rfl ?_
  rcases bx_ok h with ⟨e4, s2, h3, h⟩ | ⟨x1, s2, h3, h⟩
  · cases h
    exact ZX_callV 1 hk [.int a1] (c_X7_graphAt hk.loc hk.inj hfl F a0 a1 ha0 σ h3) gX7_complement_X7_graphAt rfl ⟨rfl, by decide +kernel, by decide +kernel, by decide +kernel⟩ ⟨Nat.le_of_ble_eq_true rfl, Nat.le_of_ble_eq_true rfl⟩ ha0.cell.1 (ha0.cell.2 _) rfl rfl rfl (Nat.le_of_ble_eq_true rfl) ⟨Nat.le_of_ble_eq_true rfl, Nat.le_of_ble_eq_true rfl⟩ dX7_complement_2 (fun X hX => by cases hX; exact Y_out hk hnx hq ⟨Nat.le_of_ble_eq_true rfl, Nat.le_of_ble_eq_true rfl⟩) (fun v hv => by cases hv)
  · refine ZX_callV 1 hk [.int a1] (c_X7_graphAt hk.loc hk.inj hfl F a0 a1 ha0 σ h3) gX7_complement_X7_graphAt rfl ⟨rfl, by decide +kernel, by decide +kernel, by decide +kernel⟩ ⟨Nat.le_of_ble_eq_true rfl, Nat.le_of_ble_eq_true rfl⟩ ha0.cell.1 (ha0.cell.2 _) rfl rfl rfl (Nat.le_of_ble_eq_true rfl) ⟨Nat.le_of_ble_eq_true rfl, Nat.le_of_ble_eq_true rfl⟩ dX7_complement_2 (fun X hX => by cases hX) (fun v hv => ?_)
    cases hv
    show Z K 1 6 5 [(0, .ref (eA (kZ K) a0)), (1, .int a1)] [.ref (eA (kZ K) x1)] s2
    refine Z_astore_n hk (lv' := [(2, .ref (eA (kZ K) x1)), (0, .ref (eA (kZ K) a0)), (1, .int a1)]) dX7_complement_5 rfl (by decide) rfl ?_
    refine Z_aload_n hk 0 dX7_complement_6 rfl rfl ?_
    obtain ⟨s6, h7, h⟩ := bv_ok h
    refine Z_callVN 0 hk (C := RX2) [] (c_X2_invertEdges hk.loc hk.inj F x1 (graphAt_at ha0 h3) s2 h7) gX7_complement_X2_invertEdges_n94 nw_35 rfl ⟨rfl, rfl⟩ ⟨wd_X7_complement_0, wd_X7_complement_1, wd_X7_complement_2⟩ (by decide +kernel) ⟨Nat.le_of_ble_eq_true rfl, Nat.le_of_ble_eq_true rfl⟩ (graphAt_at ha0 h3).cell.1 ((graphAt_at ha0 h3).cell.2 _) rfl rfl rfl (Nat.le_of_ble_eq_true rfl) ⟨Nat.le_of_ble_eq_true rfl, Nat.le_of_ble_eq_true rfl⟩ dX7_complement_7 ?_
    show Z K 1 6 10 [(2, .ref (eA (kZ K) x1)), (0, .ref (eA (kZ K) a0)), (1, .int a1)] [] s6
    refine Z_aload_n hk 0 dX7_complement_10 rfl rfl ?_
    obtain ⟨x8, s9, h10, h⟩ := bd_ok h
    refine Z_callVN 0 hk (C := RX2) [] (c_X2_countEdges hk.loc hk.inj F x1 (graphAt_at ha0 h3) s6 h10) gX7_complement_X2_countEdges_n97 nw_36 rfl ⟨rfl, rfl⟩ ⟨wd_X7_complement_3, wd_X7_complement_4, wd_X7_complement_5⟩ (by decide +kernel) ⟨Nat.le_of_ble_eq_true rfl, Nat.le_of_ble_eq_true rfl⟩ (graphAt_at ha0 h3).cell.1 ((graphAt_at ha0 h3).cell.2 _) rfl rfl rfl (Nat.le_of_ble_eq_true rfl) ⟨Nat.le_of_ble_eq_true rfl, Nat.le_of_ble_eq_true rfl⟩ dX7_complement_11 ?_
    show Z K 1 6 14 [(2, .ref (eA (kZ K) x1)), (0, .ref (eA (kZ K) a0)), (1, .int a1)] [.int x8] s9
    cases h
    exact ZX_iret hk hq ⟨Nat.le_of_ble_eq_true rfl, Nat.le_of_ble_eq_true rfl⟩ dX7_complement_14
theorem c_X7_complement {l : Launch} {E : zE} (hL : eL E) (hJ : eJ E) (hfl : l.stackTraces = false) (F : Nat) (a0 : Nat) (a1 : Int32) (ha0 : atCanonCote E a0) (σ : zST) {r0 : zX Int32} {τ0 : zST} (h : m_X7_complement F a0 a1 σ = some (r0, τ0)) : CtX l yX7_complement wsX7_complement r_X7_complement E [.ref (eA E a0), .int a1] σ (zrI r0) τ0 := by
  refine CtX_of (by decide) rfl hL hJ (Nat.le_of_ble_eq_true rfl) (fun K hE hl hk htb hq => ?_)
  subst hE
  subst hl
  exact w_X7_complement hk hfl htb hq F a0 a1 ha0 σ h
end

-- CanonCote.size (I)I
section
theorem dX7_size_0 : decode cX7_size 0 = .ok (.aload_n 0, 1) := by decide +kernel
theorem dX7_size_1 : decode cX7_size 1 = .ok (.iload_n 1, 1) := by decide +kernel
theorem dX7_size_2 : decode cX7_size 2 = .ok (.invokevirtual 48, 3) := by decide +kernel
theorem dX7_size_5 : decode cX7_size 5 = .ok (.getfield 59, 3) := by decide +kernel
theorem dX7_size_8 : decode cX7_size 8 = .ok (.ireturn, 1) := by decide +kernel
set_option maxRecDepth 20000 in
theorem ggX7_size_X7_graphAt : GoodIn wsX7_size wsX7_graphAt := goodIn_ca (goodIn_r _ [5, 6, 7, 8, 12, 13, 14, 15, 16, 17] (by decide +kernel) (by decide +kernel)) (goodIn_sub (fun _ h => List.mem_cons_of_mem _ (List.mem_append_right _ h)) (by decide +kernel))
set_option maxRecDepth 20000 in
theorem gX7_size_X7_graphAt : GoodIn wsX7_size (wsV RX7 48 RX7 yX7_graphAt wsX7_graphAt) := goodIn_app (goodIn_of _ (by decide +kernel)) ggX7_size_X7_graphAt
theorem in_X7_size_Graph : ∀ w ∈ u_ws RX2 TX2 3, w ∈ wsX7_size := by decide +kernel
def r_X7_size : Room := { frames := 7, cells := 1, slots := 6, locals := 111 }
set_option maxRecDepth 100000 in
set_option maxHeartbeats 4000000 in
theorem w_X7_size {K : zK} (hk : zIs K RX7 cX7_size 2 wsX7_size (some .int) r_X7_size) (hfl : (kL K).stackTraces = false) (hnx : zNX K) {r0 : zX Int32} {τ0 : zST} (hq : zQX K (zrI r0) τ0) (F : Nat) (a0 : Nat) (a1 : Int32) (ha0 : atCanonCote (kZ K) a0) (σ : zST) (h : m_X7_size F a0 a1 σ = some (r0, τ0)) : Z K 0 0 0 [(0, .ref (eA (kZ K) a0)), (1, .int a1)] [] σ := by
  unfold m_X7_size at h
  refine Z_aload_n hk 0 dX7_size_0 rfl rfl ?_
  refine Z_iload_n hk 1 dX7_size_1 rfl rfl ?_
  rcases bx_ok h with ⟨e4, s2, h3, h⟩ | ⟨x1, s2, h3, h⟩
  · cases h
    exact ZX_callV 1 hk [.int a1] (c_X7_graphAt hk.loc hk.inj hfl F a0 a1 ha0 σ h3) gX7_size_X7_graphAt rfl ⟨rfl, by decide +kernel, by decide +kernel, by decide +kernel⟩ ⟨Nat.le_of_ble_eq_true rfl, Nat.le_of_ble_eq_true rfl⟩ ha0.cell.1 (ha0.cell.2 _) rfl rfl rfl (Nat.le_of_ble_eq_true rfl) ⟨Nat.le_of_ble_eq_true rfl, Nat.le_of_ble_eq_true rfl⟩ dX7_size_2 (fun X hX => by cases hX; exact Y_out hk hnx hq ⟨Nat.le_of_ble_eq_true rfl, Nat.le_of_ble_eq_true rfl⟩) (fun v hv => by cases hv)
  · refine ZX_callV 1 hk [.int a1] (c_X7_graphAt hk.loc hk.inj hfl F a0 a1 ha0 σ h3) gX7_size_X7_graphAt rfl ⟨rfl, by decide +kernel, by decide +kernel, by decide +kernel⟩ ⟨Nat.le_of_ble_eq_true rfl, Nat.le_of_ble_eq_true rfl⟩ ha0.cell.1 (ha0.cell.2 _) rfl rfl rfl (Nat.le_of_ble_eq_true rfl) ⟨Nat.le_of_ble_eq_true rfl, Nat.le_of_ble_eq_true rfl⟩ dX7_size_2 (fun X hX => by cases hX) (fun v hv => ?_)
    cases hv
    show Z K 1 6 5 [(0, .ref (eA (kZ K) a0)), (1, .int a1)] [.ref (eA (kZ K) x1)] s2
    refine Z_getN hk in_X7_size_Graph rfl (graphAt_at ha0 h3).cell.1 ((graphAt_at ha0 h3).cell.2 _) 0 (by decide) nw_28 rfl dX7_size_5 ?_
    cases h
    exact ZX_iret hk hq ⟨Nat.le_of_ble_eq_true rfl, Nat.le_of_ble_eq_true rfl⟩ dX7_size_8
theorem c_X7_size {l : Launch} {E : zE} (hL : eL E) (hJ : eJ E) (hfl : l.stackTraces = false) (F : Nat) (a0 : Nat) (a1 : Int32) (ha0 : atCanonCote E a0) (σ : zST) {r0 : zX Int32} {τ0 : zST} (h : m_X7_size F a0 a1 σ = some (r0, τ0)) : CtX l yX7_size wsX7_size r_X7_size E [.ref (eA E a0), .int a1] σ (zrI r0) τ0 := by
  refine CtX_of (by decide) rfl hL hJ (Nat.le_of_ble_eq_true rfl) (fun K hE hl hk htb hq => ?_)
  subst hE
  subst hl
  exact w_X7_size hk hfl htb hq F a0 a1 ha0 σ h
end

-- CanonCote.edges (I)I
section
theorem dX7_edges_0 : decode cX7_edges 0 = .ok (.aload_n 0, 1) := by decide +kernel
theorem dX7_edges_1 : decode cX7_edges 1 = .ok (.iload_n 1, 1) := by decide +kernel
theorem dX7_edges_2 : decode cX7_edges 2 = .ok (.invokevirtual 48, 3) := by decide +kernel
theorem dX7_edges_5 : decode cX7_edges 5 = .ok (.invokevirtual 97, 3) := by decide +kernel
theorem dX7_edges_8 : decode cX7_edges 8 = .ok (.ireturn, 1) := by decide +kernel
set_option maxRecDepth 20000 in
theorem ggX7_edges_X7_graphAt : GoodIn wsX7_edges wsX7_graphAt := goodIn_ca (goodIn_r _ [5, 6, 7, 8, 22, 23, 24, 25, 26, 27] (by decide +kernel) (by decide +kernel)) (goodIn_sub (fun _ h => List.mem_cons_of_mem _ (List.mem_append_right _ h)) (by decide +kernel))
set_option maxRecDepth 20000 in
theorem gX7_edges_X7_graphAt : GoodIn wsX7_edges (wsV RX7 48 RX7 yX7_graphAt wsX7_graphAt) := goodIn_app (goodIn_of _ (by decide +kernel)) ggX7_edges_X7_graphAt
set_option maxRecDepth 20000 in
theorem ggX7_edges_X2_countEdges : GoodIn wsX7_edges wsX2_countEdges := goodIn_r _ [12, 13, 14, 15, 16, 17, 18, 19, 20, 21, 28, 29, 30] (by decide +kernel) (by decide +kernel)
set_option maxRecDepth 20000 in
theorem gX7_edges_X2_countEdges_n97 : GoodIn wsX7_edges (wsX2_countEdges) := ggX7_edges_X2_countEdges
theorem wd_X7_edges_0 : Cond.initialized yX2_countEdges.cls ∈ wsX7_edges := by decide +kernel
theorem wd_X7_edges_1 : Cond.instanceMethod yX2_countEdges ∈ wsX7_edges := by decide +kernel
theorem wd_X7_edges_2 : Cond.selects RX2 yX2_countEdges yX2_countEdges ∈ wsX7_edges := by decide +kernel
def r_X7_edges : Room := { frames := 7, cells := 1, slots := 6, locals := 111 }
set_option maxRecDepth 100000 in
set_option maxHeartbeats 4000000 in
theorem w_X7_edges {K : zK} (hk : zIs K RX7 cX7_edges 2 wsX7_edges (some .int) r_X7_edges) (hfl : (kL K).stackTraces = false) (hnx : zNX K) {r0 : zX Int32} {τ0 : zST} (hq : zQX K (zrI r0) τ0) (F : Nat) (a0 : Nat) (a1 : Int32) (ha0 : atCanonCote (kZ K) a0) (σ : zST) (h : m_X7_edges F a0 a1 σ = some (r0, τ0)) : Z K 0 0 0 [(0, .ref (eA (kZ K) a0)), (1, .int a1)] [] σ := by
  unfold m_X7_edges at h
  refine Z_aload_n hk 0 dX7_edges_0 rfl rfl ?_
  refine Z_iload_n hk 1 dX7_edges_1 rfl rfl ?_
  rcases bx_ok h with ⟨e4, s2, h3, h⟩ | ⟨x1, s2, h3, h⟩
  · cases h
    exact ZX_callV 1 hk [.int a1] (c_X7_graphAt hk.loc hk.inj hfl F a0 a1 ha0 σ h3) gX7_edges_X7_graphAt rfl ⟨rfl, by decide +kernel, by decide +kernel, by decide +kernel⟩ ⟨Nat.le_of_ble_eq_true rfl, Nat.le_of_ble_eq_true rfl⟩ ha0.cell.1 (ha0.cell.2 _) rfl rfl rfl (Nat.le_of_ble_eq_true rfl) ⟨Nat.le_of_ble_eq_true rfl, Nat.le_of_ble_eq_true rfl⟩ dX7_edges_2 (fun X hX => by cases hX; exact Y_out hk hnx hq ⟨Nat.le_of_ble_eq_true rfl, Nat.le_of_ble_eq_true rfl⟩) (fun v hv => by cases hv)
  · refine ZX_callV 1 hk [.int a1] (c_X7_graphAt hk.loc hk.inj hfl F a0 a1 ha0 σ h3) gX7_edges_X7_graphAt rfl ⟨rfl, by decide +kernel, by decide +kernel, by decide +kernel⟩ ⟨Nat.le_of_ble_eq_true rfl, Nat.le_of_ble_eq_true rfl⟩ ha0.cell.1 (ha0.cell.2 _) rfl rfl rfl (Nat.le_of_ble_eq_true rfl) ⟨Nat.le_of_ble_eq_true rfl, Nat.le_of_ble_eq_true rfl⟩ dX7_edges_2 (fun X hX => by cases hX) (fun v hv => ?_)
    cases hv
    show Z K 1 6 5 [(0, .ref (eA (kZ K) a0)), (1, .int a1)] [.ref (eA (kZ K) x1)] s2
    obtain ⟨x5, s6, h7, h⟩ := bd_ok h
    refine Z_callVN 0 hk (C := RX2) [] (c_X2_countEdges hk.loc hk.inj F x1 (graphAt_at ha0 h3) s2 h7) gX7_edges_X2_countEdges_n97 nw_36 rfl ⟨rfl, rfl⟩ ⟨wd_X7_edges_0, wd_X7_edges_1, wd_X7_edges_2⟩ (by decide +kernel) ⟨Nat.le_of_ble_eq_true rfl, Nat.le_of_ble_eq_true rfl⟩ (graphAt_at ha0 h3).cell.1 ((graphAt_at ha0 h3).cell.2 _) rfl rfl rfl (Nat.le_of_ble_eq_true rfl) ⟨Nat.le_of_ble_eq_true rfl, Nat.le_of_ble_eq_true rfl⟩ dX7_edges_5 ?_
    show Z K 1 6 8 [(0, .ref (eA (kZ K) a0)), (1, .int a1)] [.int x5] s6
    cases h
    exact ZX_iret hk hq ⟨Nat.le_of_ble_eq_true rfl, Nat.le_of_ble_eq_true rfl⟩ dX7_edges_8
theorem c_X7_edges {l : Launch} {E : zE} (hL : eL E) (hJ : eJ E) (hfl : l.stackTraces = false) (F : Nat) (a0 : Nat) (a1 : Int32) (ha0 : atCanonCote E a0) (σ : zST) {r0 : zX Int32} {τ0 : zST} (h : m_X7_edges F a0 a1 σ = some (r0, τ0)) : CtX l yX7_edges wsX7_edges r_X7_edges E [.ref (eA E a0), .int a1] σ (zrI r0) τ0 := by
  refine CtX_of (by decide) rfl hL hJ (Nat.le_of_ble_eq_true rfl) (fun K hE hl hk htb hq => ?_)
  subst hE
  subst hl
  exact w_X7_edges hk hfl htb hq F a0 a1 ha0 σ h
end

-- CanonCote.neighbours (II)I
section
theorem dX7_neighbours_0 : decode cX7_neighbours 0 = .ok (.aload_n 0, 1) := by decide +kernel
theorem dX7_neighbours_1 : decode cX7_neighbours 1 = .ok (.iload_n 1, 1) := by decide +kernel
theorem dX7_neighbours_2 : decode cX7_neighbours 2 = .ok (.invokevirtual 48, 3) := by decide +kernel
theorem dX7_neighbours_5 : decode cX7_neighbours 5 = .ok (.astore_n 3, 1) := by decide +kernel
theorem dX7_neighbours_6 : decode cX7_neighbours 6 = .ok (.aload_n 3, 1) := by decide +kernel
theorem dX7_neighbours_7 : decode cX7_neighbours 7 = .ok (.iload_n 2, 1) := by decide +kernel
theorem dX7_neighbours_8 : decode cX7_neighbours 8 = .ok (.invokestatic 67, 3) := by decide +kernel
theorem dX7_neighbours_11 : decode cX7_neighbours 11 = .ok (.aload_n 3, 1) := by decide +kernel
theorem dX7_neighbours_12 : decode cX7_neighbours 12 = .ok (.getfield 101, 3) := by decide +kernel
theorem dX7_neighbours_15 : decode cX7_neighbours 15 = .ok (.iload_n 2, 1) := by decide +kernel
theorem dX7_neighbours_16 : decode cX7_neighbours 16 = .ok (.iaload, 1) := by decide +kernel
theorem dX7_neighbours_17 : decode cX7_neighbours 17 = .ok (.ireturn, 1) := by decide +kernel
set_option maxRecDepth 20000 in
theorem ggX7_neighbours_X7_graphAt : GoodIn wsX7_neighbours wsX7_graphAt := goodIn_ca (goodIn_r _ [5, 6, 7, 8, 15, 16, 17, 18, 19, 20] (by decide +kernel) (by decide +kernel)) (goodIn_sub (fun _ h => List.mem_cons_of_mem _ (List.mem_append_right _ h)) (by decide +kernel))
set_option maxRecDepth 20000 in
theorem gX7_neighbours_X7_graphAt : GoodIn wsX7_neighbours (wsV RX7 48 RX7 yX7_graphAt wsX7_graphAt) := goodIn_app (goodIn_of _ (by decide +kernel)) ggX7_neighbours_X7_graphAt
set_option maxRecDepth 20000 in
theorem ggX7_neighbours_X7_checkVertex : GoodIn wsX7_neighbours wsX7_checkVertex := goodIn_ca (goodIn_r _ [11, 6, 7, 12, 13, 14] (by decide +kernel) (by decide +kernel)) (goodIn_sub (fun _ h => List.mem_cons_of_mem _ (List.mem_append_right _ h)) (by decide +kernel))
set_option maxRecDepth 20000 in
theorem gX7_neighbours_X7_checkVertex : GoodIn wsX7_neighbours (va_wsS RX7 67 yX7_checkVertex wsX7_checkVertex) := goodIn_app (goodIn_of _ (by decide +kernel)) ggX7_neighbours_X7_checkVertex
theorem in_X7_neighbours_Graph : ∀ w ∈ u_ws RX2 TX2 3, w ∈ wsX7_neighbours := by decide +kernel
def r_X7_neighbours : Room := { frames := 7, cells := 2, slots := 12, locals := 111 }
set_option maxRecDepth 100000 in
set_option maxHeartbeats 4000000 in
theorem w_X7_neighbours {K : zK} (hk : zIs K RX7 cX7_neighbours 4 wsX7_neighbours (some .int) r_X7_neighbours) (hfl : (kL K).stackTraces = false) (hnx : zNX K) {r0 : zX Int32} {τ0 : zST} (hq : zQX K (zrI r0) τ0) (F : Nat) (a0 : Nat) (a1 : Int32) (a2 : Int32) (ha0 : atCanonCote (kZ K) a0) (σ : zST) (h : m_X7_neighbours F a0 a1 a2 σ = some (r0, τ0)) : Z K 0 0 0 [(0, .ref (eA (kZ K) a0)), (1, .int a1), (2, .int a2)] [] σ := by
  unfold m_X7_neighbours at h
  refine Z_aload_n hk 0 dX7_neighbours_0 rfl rfl ?_
  refine Z_iload_n hk 1 dX7_neighbours_1 rfl rfl ?_
  rcases bx_ok h with ⟨e4, s2, h3, h⟩ | ⟨x1, s2, h3, h⟩
  · cases h
    exact ZX_callV 1 hk [.int a1] (c_X7_graphAt hk.loc hk.inj hfl F a0 a1 ha0 σ h3) gX7_neighbours_X7_graphAt rfl ⟨rfl, by decide +kernel, by decide +kernel, by decide +kernel⟩ ⟨Nat.le_of_ble_eq_true rfl, Nat.le_of_ble_eq_true rfl⟩ ha0.cell.1 (ha0.cell.2 _) rfl rfl rfl (Nat.le_of_ble_eq_true rfl) ⟨Nat.le_of_ble_eq_true rfl, Nat.le_of_ble_eq_true rfl⟩ dX7_neighbours_2 (fun X hX => by cases hX; exact Y_out hk hnx hq ⟨Nat.le_of_ble_eq_true rfl, Nat.le_of_ble_eq_true rfl⟩) (fun v hv => by cases hv)
  · refine ZX_callV 1 hk [.int a1] (c_X7_graphAt hk.loc hk.inj hfl F a0 a1 ha0 σ h3) gX7_neighbours_X7_graphAt rfl ⟨rfl, by decide +kernel, by decide +kernel, by decide +kernel⟩ ⟨Nat.le_of_ble_eq_true rfl, Nat.le_of_ble_eq_true rfl⟩ ha0.cell.1 (ha0.cell.2 _) rfl rfl rfl (Nat.le_of_ble_eq_true rfl) ⟨Nat.le_of_ble_eq_true rfl, Nat.le_of_ble_eq_true rfl⟩ dX7_neighbours_2 (fun X hX => by cases hX) (fun v hv => ?_)
    cases hv
    show Z K 1 6 5 [(0, .ref (eA (kZ K) a0)), (1, .int a1), (2, .int a2)] [.ref (eA (kZ K) x1)] s2
    refine Z_astore_n hk (lv' := [(3, .ref (eA (kZ K) x1)), (0, .ref (eA (kZ K) a0)), (1, .int a1), (2, .int a2)]) dX7_neighbours_5 rfl (by decide) rfl ?_
    refine Z_aload_n hk 0 dX7_neighbours_6 rfl rfl ?_
    refine Z_iload_n hk 3 dX7_neighbours_7 rfl rfl ?_
    rcases bx_ok h with ⟨e8, s6, h7, h⟩ | ⟨x5, s6, h7, h⟩
    · cases h
      exact ZX_callT 2 hk [.ref (eA (kZ K) x1), .int a2] (c_X7_checkVertex hk.loc hk.inj hfl F x1 a2 (graphAt_at ha0 h3) s2 h7) gX7_neighbours_X7_checkVertex rfl ⟨by decide +kernel, by decide +kernel, by decide +kernel⟩ ⟨Nat.le_of_ble_eq_true rfl, Nat.le_of_ble_eq_true rfl⟩ rfl rfl (Nat.le_of_ble_eq_true rfl) ⟨Nat.le_of_ble_eq_true rfl, Nat.le_of_ble_eq_true rfl⟩ dX7_neighbours_8 (fun X hX => by cases hX; exact Y_out hk hnx hq ⟨Nat.le_of_ble_eq_true rfl, Nat.le_of_ble_eq_true rfl⟩) (fun v hv => by cases hv)
    · refine ZX_callT 2 hk [.ref (eA (kZ K) x1), .int a2] (c_X7_checkVertex hk.loc hk.inj hfl F x1 a2 (graphAt_at ha0 h3) s2 h7) gX7_neighbours_X7_checkVertex rfl ⟨by decide +kernel, by decide +kernel, by decide +kernel⟩ ⟨Nat.le_of_ble_eq_true rfl, Nat.le_of_ble_eq_true rfl⟩ rfl rfl (Nat.le_of_ble_eq_true rfl) ⟨Nat.le_of_ble_eq_true rfl, Nat.le_of_ble_eq_true rfl⟩ dX7_neighbours_8 (fun X hX => by cases hX) (fun v hv => ?_)
      cases hv
      show Z K 2 12 11 [(3, .ref (eA (kZ K) x1)), (0, .ref (eA (kZ K) a0)), (1, .int a1), (2, .int a2)] [] s6
      refine Z_aload_n hk 0 dX7_neighbours_11 rfl rfl ?_
      refine Z_getN hk in_X7_neighbours_Graph rfl (graphAt_at ha0 h3).cell.1 ((graphAt_at ha0 h3).cell.2 _) 1 (by decide) nw_37 rfl dX7_neighbours_12 ?_
      refine Z_iload_n hk 3 dX7_neighbours_15 rfl rfl ?_
      obtain ⟨i11, x9, e10, h⟩ := ldI_get h
      refine Z_iald hk (((graphAt_at ha0 h3).near)) i11 dX7_neighbours_16 ?_
      refine Z_eqI e10 ?_
      cases h
      exact ZX_iret hk hq ⟨Nat.le_of_ble_eq_true rfl, Nat.le_of_ble_eq_true rfl⟩ dX7_neighbours_17
theorem c_X7_neighbours {l : Launch} {E : zE} (hL : eL E) (hJ : eJ E) (hfl : l.stackTraces = false) (F : Nat) (a0 : Nat) (a1 : Int32) (a2 : Int32) (ha0 : atCanonCote E a0) (σ : zST) {r0 : zX Int32} {τ0 : zST} (h : m_X7_neighbours F a0 a1 a2 σ = some (r0, τ0)) : CtX l yX7_neighbours wsX7_neighbours r_X7_neighbours E [.ref (eA E a0), .int a1, .int a2] σ (zrI r0) τ0 := by
  refine CtX_of (by decide) rfl hL hJ (Nat.le_of_ble_eq_true rfl) (fun K hE hl hk htb hq => ?_)
  subst hE
  subst hl
  exact w_X7_neighbours hk hfl htb hq F a0 a1 a2 ha0 σ h
end

-- CanonCote.colour (II)I
section
theorem dX7_colour_0 : decode cX7_colour 0 = .ok (.aload_n 0, 1) := by decide +kernel
theorem dX7_colour_1 : decode cX7_colour 1 = .ok (.iload_n 1, 1) := by decide +kernel
theorem dX7_colour_2 : decode cX7_colour 2 = .ok (.invokevirtual 48, 3) := by decide +kernel
theorem dX7_colour_5 : decode cX7_colour 5 = .ok (.astore_n 3, 1) := by decide +kernel
theorem dX7_colour_6 : decode cX7_colour 6 = .ok (.aload_n 3, 1) := by decide +kernel
theorem dX7_colour_7 : decode cX7_colour 7 = .ok (.iload_n 2, 1) := by decide +kernel
theorem dX7_colour_8 : decode cX7_colour 8 = .ok (.invokestatic 67, 3) := by decide +kernel
theorem dX7_colour_11 : decode cX7_colour 11 = .ok (.aload_n 3, 1) := by decide +kernel
theorem dX7_colour_12 : decode cX7_colour 12 = .ok (.getfield 83, 3) := by decide +kernel
theorem dX7_colour_15 : decode cX7_colour 15 = .ok (.iload_n 2, 1) := by decide +kernel
theorem dX7_colour_16 : decode cX7_colour 16 = .ok (.iaload, 1) := by decide +kernel
theorem dX7_colour_17 : decode cX7_colour 17 = .ok (.ireturn, 1) := by decide +kernel
set_option maxRecDepth 20000 in
theorem ggX7_colour_X7_graphAt : GoodIn wsX7_colour wsX7_graphAt := goodIn_ca (goodIn_r _ [5, 6, 7, 8, 15, 16, 17, 18, 19, 20] (by decide +kernel) (by decide +kernel)) (goodIn_sub (fun _ h => List.mem_cons_of_mem _ (List.mem_append_right _ h)) (by decide +kernel))
set_option maxRecDepth 20000 in
theorem gX7_colour_X7_graphAt : GoodIn wsX7_colour (wsV RX7 48 RX7 yX7_graphAt wsX7_graphAt) := goodIn_app (goodIn_of _ (by decide +kernel)) ggX7_colour_X7_graphAt
set_option maxRecDepth 20000 in
theorem ggX7_colour_X7_checkVertex : GoodIn wsX7_colour wsX7_checkVertex := goodIn_ca (goodIn_r _ [11, 6, 7, 12, 13, 14] (by decide +kernel) (by decide +kernel)) (goodIn_sub (fun _ h => List.mem_cons_of_mem _ (List.mem_append_right _ h)) (by decide +kernel))
set_option maxRecDepth 20000 in
theorem gX7_colour_X7_checkVertex : GoodIn wsX7_colour (va_wsS RX7 67 yX7_checkVertex wsX7_checkVertex) := goodIn_app (goodIn_of _ (by decide +kernel)) ggX7_colour_X7_checkVertex
theorem in_X7_colour_Graph : ∀ w ∈ u_ws RX2 TX2 3, w ∈ wsX7_colour := by decide +kernel
def r_X7_colour : Room := { frames := 7, cells := 2, slots := 12, locals := 111 }
set_option maxRecDepth 100000 in
set_option maxHeartbeats 4000000 in
theorem w_X7_colour {K : zK} (hk : zIs K RX7 cX7_colour 4 wsX7_colour (some .int) r_X7_colour) (hfl : (kL K).stackTraces = false) (hnx : zNX K) {r0 : zX Int32} {τ0 : zST} (hq : zQX K (zrI r0) τ0) (F : Nat) (a0 : Nat) (a1 : Int32) (a2 : Int32) (ha0 : atCanonCote (kZ K) a0) (σ : zST) (h : m_X7_colour F a0 a1 a2 σ = some (r0, τ0)) : Z K 0 0 0 [(0, .ref (eA (kZ K) a0)), (1, .int a1), (2, .int a2)] [] σ := by
  unfold m_X7_colour at h
  refine Z_aload_n hk 0 dX7_colour_0 rfl rfl ?_
  refine Z_iload_n hk 1 dX7_colour_1 rfl rfl ?_
  rcases bx_ok h with ⟨e4, s2, h3, h⟩ | ⟨x1, s2, h3, h⟩
  · cases h
    exact ZX_callV 1 hk [.int a1] (c_X7_graphAt hk.loc hk.inj hfl F a0 a1 ha0 σ h3) gX7_colour_X7_graphAt rfl ⟨rfl, by decide +kernel, by decide +kernel, by decide +kernel⟩ ⟨Nat.le_of_ble_eq_true rfl, Nat.le_of_ble_eq_true rfl⟩ ha0.cell.1 (ha0.cell.2 _) rfl rfl rfl (Nat.le_of_ble_eq_true rfl) ⟨Nat.le_of_ble_eq_true rfl, Nat.le_of_ble_eq_true rfl⟩ dX7_colour_2 (fun X hX => by cases hX; exact Y_out hk hnx hq ⟨Nat.le_of_ble_eq_true rfl, Nat.le_of_ble_eq_true rfl⟩) (fun v hv => by cases hv)
  · refine ZX_callV 1 hk [.int a1] (c_X7_graphAt hk.loc hk.inj hfl F a0 a1 ha0 σ h3) gX7_colour_X7_graphAt rfl ⟨rfl, by decide +kernel, by decide +kernel, by decide +kernel⟩ ⟨Nat.le_of_ble_eq_true rfl, Nat.le_of_ble_eq_true rfl⟩ ha0.cell.1 (ha0.cell.2 _) rfl rfl rfl (Nat.le_of_ble_eq_true rfl) ⟨Nat.le_of_ble_eq_true rfl, Nat.le_of_ble_eq_true rfl⟩ dX7_colour_2 (fun X hX => by cases hX) (fun v hv => ?_)
    cases hv
    show Z K 1 6 5 [(0, .ref (eA (kZ K) a0)), (1, .int a1), (2, .int a2)] [.ref (eA (kZ K) x1)] s2
    refine Z_astore_n hk (lv' := [(3, .ref (eA (kZ K) x1)), (0, .ref (eA (kZ K) a0)), (1, .int a1), (2, .int a2)]) dX7_colour_5 rfl (by decide) rfl ?_
    refine Z_aload_n hk 0 dX7_colour_6 rfl rfl ?_
    refine Z_iload_n hk 3 dX7_colour_7 rfl rfl ?_
    rcases bx_ok h with ⟨e8, s6, h7, h⟩ | ⟨x5, s6, h7, h⟩
    · cases h
      exact ZX_callT 2 hk [.ref (eA (kZ K) x1), .int a2] (c_X7_checkVertex hk.loc hk.inj hfl F x1 a2 (graphAt_at ha0 h3) s2 h7) gX7_colour_X7_checkVertex rfl ⟨by decide +kernel, by decide +kernel, by decide +kernel⟩ ⟨Nat.le_of_ble_eq_true rfl, Nat.le_of_ble_eq_true rfl⟩ rfl rfl (Nat.le_of_ble_eq_true rfl) ⟨Nat.le_of_ble_eq_true rfl, Nat.le_of_ble_eq_true rfl⟩ dX7_colour_8 (fun X hX => by cases hX; exact Y_out hk hnx hq ⟨Nat.le_of_ble_eq_true rfl, Nat.le_of_ble_eq_true rfl⟩) (fun v hv => by cases hv)
    · refine ZX_callT 2 hk [.ref (eA (kZ K) x1), .int a2] (c_X7_checkVertex hk.loc hk.inj hfl F x1 a2 (graphAt_at ha0 h3) s2 h7) gX7_colour_X7_checkVertex rfl ⟨by decide +kernel, by decide +kernel, by decide +kernel⟩ ⟨Nat.le_of_ble_eq_true rfl, Nat.le_of_ble_eq_true rfl⟩ rfl rfl (Nat.le_of_ble_eq_true rfl) ⟨Nat.le_of_ble_eq_true rfl, Nat.le_of_ble_eq_true rfl⟩ dX7_colour_8 (fun X hX => by cases hX) (fun v hv => ?_)
      cases hv
      show Z K 2 12 11 [(3, .ref (eA (kZ K) x1)), (0, .ref (eA (kZ K) a0)), (1, .int a1), (2, .int a2)] [] s6
      refine Z_aload_n hk 0 dX7_colour_11 rfl rfl ?_
      refine Z_getN hk in_X7_colour_Graph rfl (graphAt_at ha0 h3).cell.1 ((graphAt_at ha0 h3).cell.2 _) 2 (by decide) nw_32 rfl dX7_colour_12 ?_
      refine Z_iload_n hk 3 dX7_colour_15 rfl rfl ?_
      obtain ⟨i11, x9, e10, h⟩ := ldI_get h
      refine Z_iald hk (((graphAt_at ha0 h3).colours)) i11 dX7_colour_16 ?_
      refine Z_eqI e10 ?_
      cases h
      exact ZX_iret hk hq ⟨Nat.le_of_ble_eq_true rfl, Nat.le_of_ble_eq_true rfl⟩ dX7_colour_17
theorem c_X7_colour {l : Launch} {E : zE} (hL : eL E) (hJ : eJ E) (hfl : l.stackTraces = false) (F : Nat) (a0 : Nat) (a1 : Int32) (a2 : Int32) (ha0 : atCanonCote E a0) (σ : zST) {r0 : zX Int32} {τ0 : zST} (h : m_X7_colour F a0 a1 a2 σ = some (r0, τ0)) : CtX l yX7_colour wsX7_colour r_X7_colour E [.ref (eA E a0), .int a1, .int a2] σ (zrI r0) τ0 := by
  refine CtX_of (by decide) rfl hL hJ (Nat.le_of_ble_eq_true rfl) (fun K hE hl hk htb hq => ?_)
  subst hE
  subst hl
  exact w_X7_colour hk hfl htb hq F a0 a1 a2 ha0 σ h
end

-- CanonCote.classes (I)I
section
theorem dX7_classes_0 : decode cX7_classes 0 = .ok (.aload_n 0, 1) := by decide +kernel
theorem dX7_classes_1 : decode cX7_classes 1 = .ok (.getfield 23, 3) := by decide +kernel
theorem dX7_classes_4 : decode cX7_classes 4 = .ok (.aload_n 0, 1) := by decide +kernel
theorem dX7_classes_5 : decode cX7_classes 5 = .ok (.iload_n 1, 1) := by decide +kernel
theorem dX7_classes_6 : decode cX7_classes 6 = .ok (.invokevirtual 48, 3) := by decide +kernel
theorem dX7_classes_9 : decode cX7_classes 9 = .ok (.invokevirtual 104, 3) := by decide +kernel
theorem dX7_classes_12 : decode cX7_classes 12 = .ok (.aload_n 0, 1) := by decide +kernel
theorem dX7_classes_13 : decode cX7_classes 13 = .ok (.getfield 23, 3) := by decide +kernel
theorem dX7_classes_16 : decode cX7_classes 16 = .ok (.getfield 107, 3) := by decide +kernel
theorem dX7_classes_19 : decode cX7_classes 19 = .ok (.ireturn, 1) := by decide +kernel
set_option maxRecDepth 20000 in
theorem ggX7_classes_X7_graphAt : GoodIn wsX7_classes wsX7_graphAt := goodIn_ca (goodIn_r _ [6, 7, 8, 9, 44, 45, 46, 47, 48, 49] (by decide +kernel) (by decide +kernel)) (goodIn_sub (fun _ h => List.mem_cons_of_mem _ (List.mem_append_right _ h)) (by decide +kernel))
set_option maxRecDepth 20000 in
theorem gX7_classes_X7_graphAt : GoodIn wsX7_classes (wsV RX7 48 RX7 yX7_graphAt wsX7_graphAt) := goodIn_app (goodIn_of _ (by decide +kernel)) ggX7_classes_X7_graphAt
set_option maxRecDepth 20000 in
theorem ggX7_classes_X6_refine : GoodIn wsX7_classes wsX6_refine := goodIn_r _ [13, 14, 15, 16, 17, 18, 19, 11, 20, 21, 22, 23, 24, 25, 26, 27, 28, 29, 30, 31, 32, 33, 34, 35, 36, 37, 38, 5, 39, 40, 41, 42, 43, 55, 56, 57, 50, 51, 52, 53, 54] (by decide +kernel) (by decide +kernel)
set_option maxRecDepth 20000 in
theorem gX7_classes_X6_refine_n104 : GoodIn wsX7_classes (wsX6_refine) := ggX7_classes_X6_refine
theorem in_X7_classes_CanonCote : ∀ w ∈ u_ws RX7 TX7 6, w ∈ wsX7_classes := by decide +kernel
theorem wd_X7_classes_1 : Cond.fieldLink RX7 23 (TX7 2).1 (TX7 2).2.1 (TX7 2).2.2.1 ∈ wsX7_classes := by decide +kernel
theorem wd_X7_classes_2 : Cond.initialized yX6_refine.cls ∈ wsX7_classes := by decide +kernel
theorem wd_X7_classes_3 : Cond.instanceMethod yX6_refine ∈ wsX7_classes := by decide +kernel
theorem wd_X7_classes_4 : Cond.selects RX6 yX6_refine yX6_refine ∈ wsX7_classes := by decide +kernel
theorem in_X7_classes_Refinement : ∀ w ∈ u_ws RX6 TX6 5, w ∈ wsX7_classes := by decide +kernel
def r_X7_classes : Room := { frames := 7, cells := 1, slots := 6, locals := 111 }
set_option maxRecDepth 100000 in
set_option maxHeartbeats 4000000 in
theorem w_X7_classes {K : zK} (hk : zIs K RX7 cX7_classes 2 wsX7_classes (some .int) r_X7_classes) (hfl : (kL K).stackTraces = false) (hnx : zNX K) {r0 : zX Int32} {τ0 : zST} (hq : zQX K (zrI r0) τ0) (F : Nat) (a0 : Nat) (a1 : Int32) (ha0 : atCanonCote (kZ K) a0) (σ : zST) (h : m_X7_classes F a0 a1 σ = some (r0, τ0)) : Z K 0 0 0 [(0, .ref (eA (kZ K) a0)), (1, .int a1)] [] σ := by
  unfold m_X7_classes at h
  refine Z_aload_n hk 0 dX7_classes_0 rfl rfl ?_
  refine Z_get hk in_X7_classes_CanonCote rfl ha0.cell.1 (ha0.cell.2 _) 2 (by decide) wd_X7_classes_1 rfl dX7_classes_1 ?_
  refine Z_aload_n hk 0 dX7_classes_4 rfl rfl ?_
  refine Z_iload_n hk 1 dX7_classes_5 rfl rfl ?_
  rcases bx_ok h with ⟨e4, s2, h3, h⟩ | ⟨x1, s2, h3, h⟩
  · cases h
    exact ZX_callV 1 hk [.int a1] (c_X7_graphAt hk.loc hk.inj hfl F a0 a1 ha0 σ h3) gX7_classes_X7_graphAt rfl ⟨rfl, by decide +kernel, by decide +kernel, by decide +kernel⟩ ⟨Nat.le_of_ble_eq_true rfl, Nat.le_of_ble_eq_true rfl⟩ ha0.cell.1 (ha0.cell.2 _) rfl rfl rfl (Nat.le_of_ble_eq_true rfl) ⟨Nat.le_of_ble_eq_true rfl, Nat.le_of_ble_eq_true rfl⟩ dX7_classes_6 (fun X hX => by cases hX; exact Y_out hk hnx hq ⟨Nat.le_of_ble_eq_true rfl, Nat.le_of_ble_eq_true rfl⟩) (fun v hv => by cases hv)
  · refine ZX_callV 1 hk [.int a1] (c_X7_graphAt hk.loc hk.inj hfl F a0 a1 ha0 σ h3) gX7_classes_X7_graphAt rfl ⟨rfl, by decide +kernel, by decide +kernel, by decide +kernel⟩ ⟨Nat.le_of_ble_eq_true rfl, Nat.le_of_ble_eq_true rfl⟩ ha0.cell.1 (ha0.cell.2 _) rfl rfl rfl (Nat.le_of_ble_eq_true rfl) ⟨Nat.le_of_ble_eq_true rfl, Nat.le_of_ble_eq_true rfl⟩ dX7_classes_6 (fun X hX => by cases hX) (fun v hv => ?_)
    cases hv
    show Z K 1 6 9 [(0, .ref (eA (kZ K) a0)), (1, .int a1)] [.ref (eA (kZ K) x1), .ref (eA (kZ K) (a0 + 17))] s2
    obtain ⟨s6, h7, h⟩ := bv_ok h
    refine Z_callVN 1 hk (C := RX6) [.ref (eA (kZ K) x1)] (c_X6_refine hk.loc hk.inj F (a0 + 17) x1 (ha0.refinement) (graphAt_at ha0 h3) s2 h7) gX7_classes_X6_refine_n104 nw_38 rfl ⟨rfl, rfl⟩ ⟨wd_X7_classes_2, wd_X7_classes_3, wd_X7_classes_4⟩ (by decide +kernel) ⟨Nat.le_of_ble_eq_true rfl, Nat.le_of_ble_eq_true rfl⟩ (ha0.refinement).cell.1 ((ha0.refinement).cell.2 _) rfl rfl rfl (Nat.le_of_ble_eq_true rfl) ⟨Nat.le_of_ble_eq_true rfl, Nat.le_of_ble_eq_true rfl⟩ dX7_classes_9 ?_
    show Z K 1 6 12 [(0, .ref (eA (kZ K) a0)), (1, .int a1)] [] s6
    refine Z_aload_n hk 0 dX7_classes_12 rfl rfl ?_
    refine Z_get hk in_X7_classes_CanonCote rfl ha0.cell.1 (ha0.cell.2 _) 2 (by decide) wd_X7_classes_1 rfl dX7_classes_13 ?_
    refine Z_getN hk in_X7_classes_Refinement rfl (ha0.refinement).cell.1 ((ha0.refinement).cell.2 _) 0 (by decide) nw_39 rfl dX7_classes_16 ?_
    cases h
    exact ZX_iret hk hq ⟨Nat.le_of_ble_eq_true rfl, Nat.le_of_ble_eq_true rfl⟩ dX7_classes_19
theorem c_X7_classes {l : Launch} {E : zE} (hL : eL E) (hJ : eJ E) (hfl : l.stackTraces = false) (F : Nat) (a0 : Nat) (a1 : Int32) (ha0 : atCanonCote E a0) (σ : zST) {r0 : zX Int32} {τ0 : zST} (h : m_X7_classes F a0 a1 σ = some (r0, τ0)) : CtX l yX7_classes wsX7_classes r_X7_classes E [.ref (eA E a0), .int a1] σ (zrI r0) τ0 := by
  refine CtX_of (by decide) rfl hL hJ (Nat.le_of_ble_eq_true rfl) (fun K hE hl hk htb hq => ?_)
  subst hE
  subst hl
  exact w_X7_classes hk hfl htb hq F a0 a1 ha0 σ h
end

-- CanonCote.classOf (II)I
section
theorem dX7_classOf_0 : decode cX7_classOf 0 = .ok (.aload_n 0, 1) := by decide +kernel
theorem dX7_classOf_1 : decode cX7_classOf 1 = .ok (.iload_n 1, 1) := by decide +kernel
theorem dX7_classOf_2 : decode cX7_classOf 2 = .ok (.invokevirtual 48, 3) := by decide +kernel
theorem dX7_classOf_5 : decode cX7_classOf 5 = .ok (.astore_n 3, 1) := by decide +kernel
theorem dX7_classOf_6 : decode cX7_classOf 6 = .ok (.aload_n 3, 1) := by decide +kernel
theorem dX7_classOf_7 : decode cX7_classOf 7 = .ok (.iload_n 2, 1) := by decide +kernel
theorem dX7_classOf_8 : decode cX7_classOf 8 = .ok (.invokestatic 67, 3) := by decide +kernel
theorem dX7_classOf_11 : decode cX7_classOf 11 = .ok (.aload_n 0, 1) := by decide +kernel
theorem dX7_classOf_12 : decode cX7_classOf 12 = .ok (.getfield 23, 3) := by decide +kernel
theorem dX7_classOf_15 : decode cX7_classOf 15 = .ok (.aload_n 3, 1) := by decide +kernel
theorem dX7_classOf_16 : decode cX7_classOf 16 = .ok (.invokevirtual 104, 3) := by decide +kernel
theorem dX7_classOf_19 : decode cX7_classOf 19 = .ok (.aload_n 0, 1) := by decide +kernel
theorem dX7_classOf_20 : decode cX7_classOf 20 = .ok (.getfield 23, 3) := by decide +kernel
theorem dX7_classOf_23 : decode cX7_classOf 23 = .ok (.getfield 110, 3) := by decide +kernel
theorem dX7_classOf_26 : decode cX7_classOf 26 = .ok (.iload_n 2, 1) := by decide +kernel
theorem dX7_classOf_27 : decode cX7_classOf 27 = .ok (.iaload, 1) := by decide +kernel
theorem dX7_classOf_28 : decode cX7_classOf 28 = .ok (.ireturn, 1) := by decide +kernel
set_option maxRecDepth 20000 in
theorem ggX7_classOf_X7_graphAt : GoodIn wsX7_classOf wsX7_graphAt := goodIn_ca (goodIn_r _ [6, 7, 8, 9, 47, 48, 49, 50, 51, 52] (by decide +kernel) (by decide +kernel)) (goodIn_sub (fun _ h => List.mem_cons_of_mem _ (List.mem_append_right _ h)) (by decide +kernel))
set_option maxRecDepth 20000 in
theorem gX7_classOf_X7_graphAt : GoodIn wsX7_classOf (wsV RX7 48 RX7 yX7_graphAt wsX7_graphAt) := goodIn_app (goodIn_of _ (by decide +kernel)) ggX7_classOf_X7_graphAt
set_option maxRecDepth 20000 in
theorem ggX7_classOf_X7_checkVertex : GoodIn wsX7_classOf wsX7_checkVertex := goodIn_ca (goodIn_r _ [12, 7, 8, 58, 59, 60] (by decide +kernel) (by decide +kernel)) (goodIn_sub (fun _ h => List.mem_cons_of_mem _ (List.mem_append_right _ h)) (by decide +kernel))
set_option maxRecDepth 20000 in
theorem gX7_classOf_X7_checkVertex : GoodIn wsX7_classOf (va_wsS RX7 67 yX7_checkVertex wsX7_checkVertex) := goodIn_app (goodIn_of _ (by decide +kernel)) ggX7_classOf_X7_checkVertex
set_option maxRecDepth 20000 in
theorem ggX7_classOf_X6_refine : GoodIn wsX7_classOf wsX6_refine := goodIn_r _ [16, 17, 18, 19, 20, 21, 22, 14, 23, 24, 25, 26, 27, 28, 29, 30, 31, 32, 33, 34, 35, 36, 37, 38, 39, 40, 41, 5, 42, 43, 44, 45, 46, 58, 59, 60, 53, 54, 55, 56, 57] (by decide +kernel) (by decide +kernel)
set_option maxRecDepth 20000 in
theorem gX7_classOf_X6_refine_n104 : GoodIn wsX7_classOf (wsX6_refine) := ggX7_classOf_X6_refine
theorem in_X7_classOf_CanonCote : ∀ w ∈ u_ws RX7 TX7 6, w ∈ wsX7_classOf := by decide +kernel
theorem wd_X7_classOf_1 : Cond.fieldLink RX7 23 (TX7 2).1 (TX7 2).2.1 (TX7 2).2.2.1 ∈ wsX7_classOf := by decide +kernel
theorem wd_X7_classOf_2 : Cond.initialized yX6_refine.cls ∈ wsX7_classOf := by decide +kernel
theorem wd_X7_classOf_3 : Cond.instanceMethod yX6_refine ∈ wsX7_classOf := by decide +kernel
theorem wd_X7_classOf_4 : Cond.selects RX6 yX6_refine yX6_refine ∈ wsX7_classOf := by decide +kernel
theorem in_X7_classOf_Refinement : ∀ w ∈ u_ws RX6 TX6 5, w ∈ wsX7_classOf := by decide +kernel
def r_X7_classOf : Room := { frames := 7, cells := 2, slots := 12, locals := 111 }
set_option maxRecDepth 100000 in
set_option maxHeartbeats 4000000 in
theorem w_X7_classOf {K : zK} (hk : zIs K RX7 cX7_classOf 4 wsX7_classOf (some .int) r_X7_classOf) (hfl : (kL K).stackTraces = false) (hnx : zNX K) {r0 : zX Int32} {τ0 : zST} (hq : zQX K (zrI r0) τ0) (F : Nat) (a0 : Nat) (a1 : Int32) (a2 : Int32) (ha0 : atCanonCote (kZ K) a0) (σ : zST) (h : m_X7_classOf F a0 a1 a2 σ = some (r0, τ0)) : Z K 0 0 0 [(0, .ref (eA (kZ K) a0)), (1, .int a1), (2, .int a2)] [] σ := by
  unfold m_X7_classOf at h
  refine Z_aload_n hk 0 dX7_classOf_0 rfl rfl ?_
  refine Z_iload_n hk 1 dX7_classOf_1 rfl rfl ?_
  rcases bx_ok h with ⟨e4, s2, h3, h⟩ | ⟨x1, s2, h3, h⟩
  · cases h
    exact ZX_callV 1 hk [.int a1] (c_X7_graphAt hk.loc hk.inj hfl F a0 a1 ha0 σ h3) gX7_classOf_X7_graphAt rfl ⟨rfl, by decide +kernel, by decide +kernel, by decide +kernel⟩ ⟨Nat.le_of_ble_eq_true rfl, Nat.le_of_ble_eq_true rfl⟩ ha0.cell.1 (ha0.cell.2 _) rfl rfl rfl (Nat.le_of_ble_eq_true rfl) ⟨Nat.le_of_ble_eq_true rfl, Nat.le_of_ble_eq_true rfl⟩ dX7_classOf_2 (fun X hX => by cases hX; exact Y_out hk hnx hq ⟨Nat.le_of_ble_eq_true rfl, Nat.le_of_ble_eq_true rfl⟩) (fun v hv => by cases hv)
  · refine ZX_callV 1 hk [.int a1] (c_X7_graphAt hk.loc hk.inj hfl F a0 a1 ha0 σ h3) gX7_classOf_X7_graphAt rfl ⟨rfl, by decide +kernel, by decide +kernel, by decide +kernel⟩ ⟨Nat.le_of_ble_eq_true rfl, Nat.le_of_ble_eq_true rfl⟩ ha0.cell.1 (ha0.cell.2 _) rfl rfl rfl (Nat.le_of_ble_eq_true rfl) ⟨Nat.le_of_ble_eq_true rfl, Nat.le_of_ble_eq_true rfl⟩ dX7_classOf_2 (fun X hX => by cases hX) (fun v hv => ?_)
    cases hv
    show Z K 1 6 5 [(0, .ref (eA (kZ K) a0)), (1, .int a1), (2, .int a2)] [.ref (eA (kZ K) x1)] s2
    refine Z_astore_n hk (lv' := [(3, .ref (eA (kZ K) x1)), (0, .ref (eA (kZ K) a0)), (1, .int a1), (2, .int a2)]) dX7_classOf_5 rfl (by decide) rfl ?_
    refine Z_aload_n hk 0 dX7_classOf_6 rfl rfl ?_
    refine Z_iload_n hk 3 dX7_classOf_7 rfl rfl ?_
    rcases bx_ok h with ⟨e8, s6, h7, h⟩ | ⟨x5, s6, h7, h⟩
    · cases h
      exact ZX_callT 2 hk [.ref (eA (kZ K) x1), .int a2] (c_X7_checkVertex hk.loc hk.inj hfl F x1 a2 (graphAt_at ha0 h3) s2 h7) gX7_classOf_X7_checkVertex rfl ⟨by decide +kernel, by decide +kernel, by decide +kernel⟩ ⟨Nat.le_of_ble_eq_true rfl, Nat.le_of_ble_eq_true rfl⟩ rfl rfl (Nat.le_of_ble_eq_true rfl) ⟨Nat.le_of_ble_eq_true rfl, Nat.le_of_ble_eq_true rfl⟩ dX7_classOf_8 (fun X hX => by cases hX; exact Y_out hk hnx hq ⟨Nat.le_of_ble_eq_true rfl, Nat.le_of_ble_eq_true rfl⟩) (fun v hv => by cases hv)
    · refine ZX_callT 2 hk [.ref (eA (kZ K) x1), .int a2] (c_X7_checkVertex hk.loc hk.inj hfl F x1 a2 (graphAt_at ha0 h3) s2 h7) gX7_classOf_X7_checkVertex rfl ⟨by decide +kernel, by decide +kernel, by decide +kernel⟩ ⟨Nat.le_of_ble_eq_true rfl, Nat.le_of_ble_eq_true rfl⟩ rfl rfl (Nat.le_of_ble_eq_true rfl) ⟨Nat.le_of_ble_eq_true rfl, Nat.le_of_ble_eq_true rfl⟩ dX7_classOf_8 (fun X hX => by cases hX) (fun v hv => ?_)
      cases hv
      show Z K 2 12 11 [(3, .ref (eA (kZ K) x1)), (0, .ref (eA (kZ K) a0)), (1, .int a1), (2, .int a2)] [] s6
      refine Z_aload_n hk 1 dX7_classOf_11 rfl rfl ?_
      refine Z_get hk in_X7_classOf_CanonCote rfl ha0.cell.1 (ha0.cell.2 _) 2 (by decide) wd_X7_classOf_1 rfl dX7_classOf_12 ?_
      refine Z_aload_n hk 0 dX7_classOf_15 rfl rfl ?_
      obtain ⟨s10, h11, h⟩ := bv_ok h
      refine Z_callVN 1 hk (C := RX6) [.ref (eA (kZ K) x1)] (c_X6_refine hk.loc hk.inj F (a0 + 17) x1 (ha0.refinement) (graphAt_at ha0 h3) s6 h11) gX7_classOf_X6_refine_n104 nw_38 rfl ⟨rfl, rfl⟩ ⟨wd_X7_classOf_2, wd_X7_classOf_3, wd_X7_classOf_4⟩ (by decide +kernel) ⟨Nat.le_of_ble_eq_true rfl, Nat.le_of_ble_eq_true rfl⟩ (ha0.refinement).cell.1 ((ha0.refinement).cell.2 _) rfl rfl rfl (Nat.le_of_ble_eq_true rfl) ⟨Nat.le_of_ble_eq_true rfl, Nat.le_of_ble_eq_true rfl⟩ dX7_classOf_16 ?_
      show Z K 2 12 19 [(3, .ref (eA (kZ K) x1)), (0, .ref (eA (kZ K) a0)), (1, .int a1), (2, .int a2)] [] s10
      refine Z_aload_n hk 1 dX7_classOf_19 rfl rfl ?_
      refine Z_get hk in_X7_classOf_CanonCote rfl ha0.cell.1 (ha0.cell.2 _) 2 (by decide) wd_X7_classOf_1 rfl dX7_classOf_20 ?_
      refine Z_getN hk in_X7_classOf_Refinement rfl (ha0.refinement).cell.1 ((ha0.refinement).cell.2 _) 2 (by decide) nw_40 rfl dX7_classOf_23 ?_
      refine Z_iload_n hk 3 dX7_classOf_26 rfl rfl ?_
      obtain ⟨i14, x12, e13, h⟩ := ldI_get h
      refine Z_iald hk (((ha0.refinement).numbers)) i14 dX7_classOf_27 ?_
      refine Z_eqI e13 ?_
      cases h
      exact ZX_iret hk hq ⟨Nat.le_of_ble_eq_true rfl, Nat.le_of_ble_eq_true rfl⟩ dX7_classOf_28
theorem c_X7_classOf {l : Launch} {E : zE} (hL : eL E) (hJ : eJ E) (hfl : l.stackTraces = false) (F : Nat) (a0 : Nat) (a1 : Int32) (a2 : Int32) (ha0 : atCanonCote E a0) (σ : zST) {r0 : zX Int32} {τ0 : zST} (h : m_X7_classOf F a0 a1 a2 σ = some (r0, τ0)) : CtX l yX7_classOf wsX7_classOf r_X7_classOf E [.ref (eA E a0), .int a1, .int a2] σ (zrI r0) τ0 := by
  refine CtX_of (by decide) rfl hL hJ (Nat.le_of_ble_eq_true rfl) (fun K hE hl hk htb hq => ?_)
  subst hE
  subst hl
  exact w_X7_classOf hk hfl htb hq F a0 a1 a2 ha0 σ h
end

-- CanonCote.rounds (I)I
section
theorem dX7_rounds_0 : decode cX7_rounds 0 = .ok (.aload_n 0, 1) := by decide +kernel
theorem dX7_rounds_1 : decode cX7_rounds 1 = .ok (.getfield 23, 3) := by decide +kernel
theorem dX7_rounds_4 : decode cX7_rounds 4 = .ok (.aload_n 0, 1) := by decide +kernel
theorem dX7_rounds_5 : decode cX7_rounds 5 = .ok (.iload_n 1, 1) := by decide +kernel
theorem dX7_rounds_6 : decode cX7_rounds 6 = .ok (.invokevirtual 48, 3) := by decide +kernel
theorem dX7_rounds_9 : decode cX7_rounds 9 = .ok (.invokevirtual 104, 3) := by decide +kernel
theorem dX7_rounds_12 : decode cX7_rounds 12 = .ok (.aload_n 0, 1) := by decide +kernel
theorem dX7_rounds_13 : decode cX7_rounds 13 = .ok (.getfield 23, 3) := by decide +kernel
theorem dX7_rounds_16 : decode cX7_rounds 16 = .ok (.getfield 113, 3) := by decide +kernel
theorem dX7_rounds_19 : decode cX7_rounds 19 = .ok (.ireturn, 1) := by decide +kernel
set_option maxRecDepth 20000 in
theorem ggX7_rounds_X7_graphAt : GoodIn wsX7_rounds wsX7_graphAt := goodIn_ca (goodIn_r _ [6, 7, 8, 9, 44, 45, 46, 47, 48, 49] (by decide +kernel) (by decide +kernel)) (goodIn_sub (fun _ h => List.mem_cons_of_mem _ (List.mem_append_right _ h)) (by decide +kernel))
set_option maxRecDepth 20000 in
theorem gX7_rounds_X7_graphAt : GoodIn wsX7_rounds (wsV RX7 48 RX7 yX7_graphAt wsX7_graphAt) := goodIn_app (goodIn_of _ (by decide +kernel)) ggX7_rounds_X7_graphAt
set_option maxRecDepth 20000 in
theorem ggX7_rounds_X6_refine : GoodIn wsX7_rounds wsX6_refine := goodIn_r _ [13, 14, 15, 16, 17, 18, 19, 11, 20, 21, 22, 23, 24, 25, 26, 27, 28, 29, 30, 31, 32, 33, 34, 35, 36, 37, 38, 5, 39, 40, 41, 42, 43, 55, 56, 57, 50, 51, 52, 53, 54] (by decide +kernel) (by decide +kernel)
set_option maxRecDepth 20000 in
theorem gX7_rounds_X6_refine_n104 : GoodIn wsX7_rounds (wsX6_refine) := ggX7_rounds_X6_refine
theorem in_X7_rounds_CanonCote : ∀ w ∈ u_ws RX7 TX7 6, w ∈ wsX7_rounds := by decide +kernel
theorem wd_X7_rounds_1 : Cond.fieldLink RX7 23 (TX7 2).1 (TX7 2).2.1 (TX7 2).2.2.1 ∈ wsX7_rounds := by decide +kernel
theorem wd_X7_rounds_2 : Cond.initialized yX6_refine.cls ∈ wsX7_rounds := by decide +kernel
theorem wd_X7_rounds_3 : Cond.instanceMethod yX6_refine ∈ wsX7_rounds := by decide +kernel
theorem wd_X7_rounds_4 : Cond.selects RX6 yX6_refine yX6_refine ∈ wsX7_rounds := by decide +kernel
theorem in_X7_rounds_Refinement : ∀ w ∈ u_ws RX6 TX6 5, w ∈ wsX7_rounds := by decide +kernel
def r_X7_rounds : Room := { frames := 7, cells := 1, slots := 6, locals := 111 }
set_option maxRecDepth 100000 in
set_option maxHeartbeats 4000000 in
theorem w_X7_rounds {K : zK} (hk : zIs K RX7 cX7_rounds 2 wsX7_rounds (some .int) r_X7_rounds) (hfl : (kL K).stackTraces = false) (hnx : zNX K) {r0 : zX Int32} {τ0 : zST} (hq : zQX K (zrI r0) τ0) (F : Nat) (a0 : Nat) (a1 : Int32) (ha0 : atCanonCote (kZ K) a0) (σ : zST) (h : m_X7_rounds F a0 a1 σ = some (r0, τ0)) : Z K 0 0 0 [(0, .ref (eA (kZ K) a0)), (1, .int a1)] [] σ := by
  unfold m_X7_rounds at h
  refine Z_aload_n hk 0 dX7_rounds_0 rfl rfl ?_
  refine Z_get hk in_X7_rounds_CanonCote rfl ha0.cell.1 (ha0.cell.2 _) 2 (by decide) wd_X7_rounds_1 rfl dX7_rounds_1 ?_
  refine Z_aload_n hk 0 dX7_rounds_4 rfl rfl ?_
  refine Z_iload_n hk 1 dX7_rounds_5 rfl rfl ?_
  rcases bx_ok h with ⟨e4, s2, h3, h⟩ | ⟨x1, s2, h3, h⟩
  · cases h
    exact ZX_callV 1 hk [.int a1] (c_X7_graphAt hk.loc hk.inj hfl F a0 a1 ha0 σ h3) gX7_rounds_X7_graphAt rfl ⟨rfl, by decide +kernel, by decide +kernel, by decide +kernel⟩ ⟨Nat.le_of_ble_eq_true rfl, Nat.le_of_ble_eq_true rfl⟩ ha0.cell.1 (ha0.cell.2 _) rfl rfl rfl (Nat.le_of_ble_eq_true rfl) ⟨Nat.le_of_ble_eq_true rfl, Nat.le_of_ble_eq_true rfl⟩ dX7_rounds_6 (fun X hX => by cases hX; exact Y_out hk hnx hq ⟨Nat.le_of_ble_eq_true rfl, Nat.le_of_ble_eq_true rfl⟩) (fun v hv => by cases hv)
  · refine ZX_callV 1 hk [.int a1] (c_X7_graphAt hk.loc hk.inj hfl F a0 a1 ha0 σ h3) gX7_rounds_X7_graphAt rfl ⟨rfl, by decide +kernel, by decide +kernel, by decide +kernel⟩ ⟨Nat.le_of_ble_eq_true rfl, Nat.le_of_ble_eq_true rfl⟩ ha0.cell.1 (ha0.cell.2 _) rfl rfl rfl (Nat.le_of_ble_eq_true rfl) ⟨Nat.le_of_ble_eq_true rfl, Nat.le_of_ble_eq_true rfl⟩ dX7_rounds_6 (fun X hX => by cases hX) (fun v hv => ?_)
    cases hv
    show Z K 1 6 9 [(0, .ref (eA (kZ K) a0)), (1, .int a1)] [.ref (eA (kZ K) x1), .ref (eA (kZ K) (a0 + 17))] s2
    obtain ⟨s6, h7, h⟩ := bv_ok h
    refine Z_callVN 1 hk (C := RX6) [.ref (eA (kZ K) x1)] (c_X6_refine hk.loc hk.inj F (a0 + 17) x1 (ha0.refinement) (graphAt_at ha0 h3) s2 h7) gX7_rounds_X6_refine_n104 nw_38 rfl ⟨rfl, rfl⟩ ⟨wd_X7_rounds_2, wd_X7_rounds_3, wd_X7_rounds_4⟩ (by decide +kernel) ⟨Nat.le_of_ble_eq_true rfl, Nat.le_of_ble_eq_true rfl⟩ (ha0.refinement).cell.1 ((ha0.refinement).cell.2 _) rfl rfl rfl (Nat.le_of_ble_eq_true rfl) ⟨Nat.le_of_ble_eq_true rfl, Nat.le_of_ble_eq_true rfl⟩ dX7_rounds_9 ?_
    show Z K 1 6 12 [(0, .ref (eA (kZ K) a0)), (1, .int a1)] [] s6
    refine Z_aload_n hk 0 dX7_rounds_12 rfl rfl ?_
    refine Z_get hk in_X7_rounds_CanonCote rfl ha0.cell.1 (ha0.cell.2 _) 2 (by decide) wd_X7_rounds_1 rfl dX7_rounds_13 ?_
    refine Z_getN hk in_X7_rounds_Refinement rfl (ha0.refinement).cell.1 ((ha0.refinement).cell.2 _) 1 (by decide) nw_41 rfl dX7_rounds_16 ?_
    cases h
    exact ZX_iret hk hq ⟨Nat.le_of_ble_eq_true rfl, Nat.le_of_ble_eq_true rfl⟩ dX7_rounds_19
theorem c_X7_rounds {l : Launch} {E : zE} (hL : eL E) (hJ : eJ E) (hfl : l.stackTraces = false) (F : Nat) (a0 : Nat) (a1 : Int32) (ha0 : atCanonCote E a0) (σ : zST) {r0 : zX Int32} {τ0 : zST} (h : m_X7_rounds F a0 a1 σ = some (r0, τ0)) : CtX l yX7_rounds wsX7_rounds r_X7_rounds E [.ref (eA E a0), .int a1] σ (zrI r0) τ0 := by
  refine CtX_of (by decide) rfl hL hJ (Nat.le_of_ble_eq_true rfl) (fun K hE hl hk htb hq => ?_)
  subst hE
  subst hl
  exact w_X7_rounds hk hfl htb hq F a0 a1 ha0 σ h
end

-- CanonCote.form (I)J
section
theorem dX7_form_0 : decode cX7_form 0 = .ok (.aload_n 0, 1) := by decide +kernel
theorem dX7_form_1 : decode cX7_form 1 = .ok (.aload_n 0, 1) := by decide +kernel
theorem dX7_form_2 : decode cX7_form 2 = .ok (.iload_n 1, 1) := by decide +kernel
theorem dX7_form_3 : decode cX7_form 3 = .ok (.invokevirtual 48, 3) := by decide +kernel
theorem dX7_form_6 : decode cX7_form 6 = .ok (.invokevirtual 116, 3) := by decide +kernel
theorem dX7_form_9 : decode cX7_form 9 = .ok (.lreturn, 1) := by decide +kernel
set_option maxRecDepth 20000 in
theorem ggX7_form_X7_graphAt : GoodIn wsX7_form wsX7_graphAt := goodIn_ca (goodIn_r _ [5, 6, 7, 8, 80, 81, 82, 83, 84, 85] (by decide +kernel) (by decide +kernel)) (goodIn_sub (fun _ h => List.mem_cons_of_mem _ (List.mem_append_right _ h)) (by decide +kernel))
set_option maxRecDepth 20000 in
theorem gX7_form_X7_graphAt : GoodIn wsX7_form (wsV RX7 48 RX7 yX7_graphAt wsX7_graphAt) := goodIn_app (goodIn_of _ (by decide +kernel)) ggX7_form_X7_graphAt
set_option maxRecDepth 20000 in
theorem ggX7_form_X7_leastCode : GoodIn wsX7_form wsX7_leastCode := goodIn_r _ [12, 13, 14, 15, 16, 17, 18, 19, 20, 21, 22, 23, 24, 25, 26, 27, 28, 29, 30, 31, 32, 33, 34, 35, 36, 37, 38, 39, 40, 41, 42, 43, 44, 45, 46, 47, 48, 49, 50, 51, 52, 53, 54, 55, 56, 57, 58, 59, 60, 61, 62, 63, 64, 65, 66, 67, 4, 68, 69, 70, 71, 72, 73, 74, 75, 76, 77, 78, 79, 80, 81, 82, 83, 84, 85, 86, 87, 88, 89, 90, 91, 92, 93, 94, 95] (by decide +kernel) (by decide +kernel)
set_option maxRecDepth 20000 in
theorem gX7_form_X7_leastCode : GoodIn wsX7_form (wsV RX7 116 RX7 yX7_leastCode wsX7_leastCode) := goodIn_app (goodIn_of _ (by decide +kernel)) ggX7_form_X7_leastCode
def r_X7_form : Room := { frames := 15, cells := 1, slots := 6, locals := 374 }
set_option maxRecDepth 100000 in
set_option maxHeartbeats 4000000 in
theorem w_X7_form {K : zK} (hk : zIs K RX7 cX7_form 2 wsX7_form (some .long) r_X7_form) (hfl : (kL K).stackTraces = false) (hnx : zNX K) {r0 : zX Int64} {τ0 : zST} (hq : zQX K (zrJ r0) τ0) (F : Nat) (a0 : Nat) (a1 : Int32) (ha0 : atCanonCote (kZ K) a0) (σ : zST) (h : m_X7_form F a0 a1 σ = some (r0, τ0)) : Z K 0 0 0 [(0, .ref (eA (kZ K) a0)), (1, .int a1)] [] σ := by
  unfold m_X7_form at h
  refine Z_aload_n hk 0 dX7_form_0 rfl rfl ?_
  refine Z_aload_n hk 0 dX7_form_1 rfl rfl ?_
  refine Z_iload_n hk 1 dX7_form_2 rfl rfl ?_
  rcases bx_ok h with ⟨e4, s2, h3, h⟩ | ⟨x1, s2, h3, h⟩
  · cases h
    exact ZX_callV 1 hk [.int a1] (c_X7_graphAt hk.loc hk.inj hfl F a0 a1 ha0 σ h3) gX7_form_X7_graphAt rfl ⟨rfl, by decide +kernel, by decide +kernel, by decide +kernel⟩ ⟨Nat.le_of_ble_eq_true rfl, Nat.le_of_ble_eq_true rfl⟩ ha0.cell.1 (ha0.cell.2 _) rfl rfl rfl (Nat.le_of_ble_eq_true rfl) ⟨Nat.le_of_ble_eq_true rfl, Nat.le_of_ble_eq_true rfl⟩ dX7_form_3 (fun X hX => by cases hX; exact Y_out hk hnx hq ⟨Nat.le_of_ble_eq_true rfl, Nat.le_of_ble_eq_true rfl⟩) (fun v hv => by cases hv)
  · refine ZX_callV 1 hk [.int a1] (c_X7_graphAt hk.loc hk.inj hfl F a0 a1 ha0 σ h3) gX7_form_X7_graphAt rfl ⟨rfl, by decide +kernel, by decide +kernel, by decide +kernel⟩ ⟨Nat.le_of_ble_eq_true rfl, Nat.le_of_ble_eq_true rfl⟩ ha0.cell.1 (ha0.cell.2 _) rfl rfl rfl (Nat.le_of_ble_eq_true rfl) ⟨Nat.le_of_ble_eq_true rfl, Nat.le_of_ble_eq_true rfl⟩ dX7_form_3 (fun X hX => by cases hX) (fun v hv => ?_)
    cases hv
    show Z K 1 6 6 [(0, .ref (eA (kZ K) a0)), (1, .int a1)] [.ref (eA (kZ K) x1), .ref (eA (kZ K) a0)] s2
    obtain ⟨x5, s6, h7, h⟩ := bd_ok h
    refine Z_callV 1 hk [.ref (eA (kZ K) x1)] (c_X7_leastCode hk.loc hk.inj F a0 x1 ha0 (graphAt_at ha0 h3) s2 h7) gX7_form_X7_leastCode rfl ⟨rfl, rfl⟩ (by decide +kernel) ⟨Nat.le_of_ble_eq_true rfl, Nat.le_of_ble_eq_true rfl⟩ ha0.cell.1 (ha0.cell.2 _) rfl rfl rfl (Nat.le_of_ble_eq_true rfl) ⟨Nat.le_of_ble_eq_true rfl, Nat.le_of_ble_eq_true rfl⟩ dX7_form_6 ?_
    show Z K 1 6 9 [(0, .ref (eA (kZ K) a0)), (1, .int a1)] [.long x5] s6
    cases h
    exact ZX_lret hk hq ⟨Nat.le_of_ble_eq_true rfl, Nat.le_of_ble_eq_true rfl⟩ dX7_form_9
theorem c_X7_form {l : Launch} {E : zE} (hL : eL E) (hJ : eJ E) (hfl : l.stackTraces = false) (F : Nat) (a0 : Nat) (a1 : Int32) (ha0 : atCanonCote E a0) (σ : zST) {r0 : zX Int64} {τ0 : zST} (h : m_X7_form F a0 a1 σ = some (r0, τ0)) : CtX l yX7_form wsX7_form r_X7_form E [.ref (eA E a0), .int a1] σ (zrJ r0) τ0 := by
  refine CtX_of (by decide) rfl hL hJ (Nat.le_of_ble_eq_true rfl) (fun K hE hl hk htb hq => ?_)
  subst hE
  subst hl
  exact w_X7_form hk hfl htb hq F a0 a1 ha0 σ h
end

-- CanonCote.placeOf (II)I
section
theorem dX7_placeOf_0 : decode cX7_placeOf 0 = .ok (.aload_n 0, 1) := by decide +kernel
theorem dX7_placeOf_1 : decode cX7_placeOf 1 = .ok (.iload_n 1, 1) := by decide +kernel
theorem dX7_placeOf_2 : decode cX7_placeOf 2 = .ok (.invokevirtual 48, 3) := by decide +kernel
theorem dX7_placeOf_5 : decode cX7_placeOf 5 = .ok (.astore_n 3, 1) := by decide +kernel
theorem dX7_placeOf_6 : decode cX7_placeOf 6 = .ok (.aload_n 3, 1) := by decide +kernel
theorem dX7_placeOf_7 : decode cX7_placeOf 7 = .ok (.iload_n 2, 1) := by decide +kernel
theorem dX7_placeOf_8 : decode cX7_placeOf 8 = .ok (.invokestatic 67, 3) := by decide +kernel
theorem dX7_placeOf_11 : decode cX7_placeOf 11 = .ok (.aload_n 0, 1) := by decide +kernel
theorem dX7_placeOf_12 : decode cX7_placeOf 12 = .ok (.getfield 30, 3) := by decide +kernel
theorem dX7_placeOf_15 : decode cX7_placeOf 15 = .ok (.aload_n 3, 1) := by decide +kernel
theorem dX7_placeOf_16 : decode cX7_placeOf 16 = .ok (.invokevirtual 120, 3) := by decide +kernel
theorem dX7_placeOf_19 : decode cX7_placeOf 19 = .ok (.aload_n 0, 1) := by decide +kernel
theorem dX7_placeOf_20 : decode cX7_placeOf 20 = .ok (.getfield 30, 3) := by decide +kernel
theorem dX7_placeOf_23 : decode cX7_placeOf 23 = .ok (.iload_n 2, 1) := by decide +kernel
theorem dX7_placeOf_24 : decode cX7_placeOf 24 = .ok (.invokevirtual 123, 3) := by decide +kernel
theorem dX7_placeOf_27 : decode cX7_placeOf 27 = .ok (.ireturn, 1) := by decide +kernel
set_option maxRecDepth 20000 in
theorem ggX7_placeOf_X7_graphAt : GoodIn wsX7_placeOf wsX7_graphAt := goodIn_ca (goodIn_r _ [6, 7, 8, 9, 75, 76, 77, 78, 79, 80] (by decide +kernel) (by decide +kernel)) (goodIn_sub (fun _ h => List.mem_cons_of_mem _ (List.mem_append_right _ h)) (by decide +kernel))
set_option maxRecDepth 20000 in
theorem gX7_placeOf_X7_graphAt : GoodIn wsX7_placeOf (wsV RX7 48 RX7 yX7_graphAt wsX7_graphAt) := goodIn_app (goodIn_of _ (by decide +kernel)) ggX7_placeOf_X7_graphAt
set_option maxRecDepth 20000 in
theorem ggX7_placeOf_X7_checkVertex : GoodIn wsX7_placeOf wsX7_checkVertex := goodIn_ca (goodIn_r _ [12, 7, 8, 81, 82, 83] (by decide +kernel) (by decide +kernel)) (goodIn_sub (fun _ h => List.mem_cons_of_mem _ (List.mem_append_right _ h)) (by decide +kernel))
set_option maxRecDepth 20000 in
theorem gX7_placeOf_X7_checkVertex : GoodIn wsX7_placeOf (va_wsS RX7 67 yX7_checkVertex wsX7_checkVertex) := goodIn_app (goodIn_of _ (by decide +kernel)) ggX7_placeOf_X7_checkVertex
set_option maxRecDepth 20000 in
theorem ggX7_placeOf_X0_search : GoodIn wsX7_placeOf wsX0_search := goodIn_r _ [16, 17, 18, 19, 20, 21, 14, 22, 23, 24, 25, 26, 27, 28, 29, 30, 31, 32, 33, 34, 35, 36, 37, 38, 39, 40, 41, 42, 43, 44, 45, 46, 47, 48, 49, 50, 51, 52, 53, 54, 55, 56, 57, 58, 59, 60, 61, 62, 63, 64, 65, 66, 5, 67, 68, 69, 70, 71, 84, 85, 86, 87, 88, 89, 90, 81, 82, 83] (by decide +kernel) (by decide +kernel)
set_option maxRecDepth 20000 in
theorem gX7_placeOf_X0_search_n120 : GoodIn wsX7_placeOf (wsX0_search) := ggX7_placeOf_X0_search
set_option maxRecDepth 20000 in
theorem ggX7_placeOf_X0_bestPlace : GoodIn wsX7_placeOf wsX0_bestPlace := goodIn_r _ [74, 52, 63, 64, 14, 65, 84, 85, 86, 87, 88, 89, 90] (by decide +kernel) (by decide +kernel)
set_option maxRecDepth 20000 in
theorem gX7_placeOf_X0_bestPlace_n123 : GoodIn wsX7_placeOf (wsX0_bestPlace) := ggX7_placeOf_X0_bestPlace
theorem in_X7_placeOf_CanonCote : ∀ w ∈ u_ws RX7 TX7 6, w ∈ wsX7_placeOf := by decide +kernel
theorem wd_X7_placeOf_1 : Cond.fieldLink RX7 30 (TX7 3).1 (TX7 3).2.1 (TX7 3).2.2.1 ∈ wsX7_placeOf := by decide +kernel
theorem wd_X7_placeOf_2 : Cond.initialized yX0_search.cls ∈ wsX7_placeOf := by decide +kernel
theorem wd_X7_placeOf_3 : Cond.instanceMethod yX0_search ∈ wsX7_placeOf := by decide +kernel
theorem wd_X7_placeOf_4 : Cond.selects RX0 yX0_search yX0_search ∈ wsX7_placeOf := by decide +kernel
theorem wd_X7_placeOf_5 : Cond.initialized yX0_bestPlace.cls ∈ wsX7_placeOf := by decide +kernel
theorem wd_X7_placeOf_6 : Cond.instanceMethod yX0_bestPlace ∈ wsX7_placeOf := by decide +kernel
theorem wd_X7_placeOf_7 : Cond.selects RX0 yX0_bestPlace yX0_bestPlace ∈ wsX7_placeOf := by decide +kernel
def r_X7_placeOf : Room := { frames := 14, cells := 2, slots := 12, locals := 353 }
set_option maxRecDepth 100000 in
set_option maxHeartbeats 4000000 in
theorem w_X7_placeOf {K : zK} (hk : zIs K RX7 cX7_placeOf 4 wsX7_placeOf (some .int) r_X7_placeOf) (hfl : (kL K).stackTraces = false) (hnx : zNX K) {r0 : zX Int32} {τ0 : zST} (hq : zQX K (zrI r0) τ0) (F : Nat) (a0 : Nat) (a1 : Int32) (a2 : Int32) (ha0 : atCanonCote (kZ K) a0) (σ : zST) (h : m_X7_placeOf F a0 a1 a2 σ = some (r0, τ0)) : Z K 0 0 0 [(0, .ref (eA (kZ K) a0)), (1, .int a1), (2, .int a2)] [] σ := by
  unfold m_X7_placeOf at h
  refine Z_aload_n hk 0 dX7_placeOf_0 rfl rfl ?_
  refine Z_iload_n hk 1 dX7_placeOf_1 rfl rfl ?_
  rcases bx_ok h with ⟨e4, s2, h3, h⟩ | ⟨x1, s2, h3, h⟩
  · cases h
    exact ZX_callV 1 hk [.int a1] (c_X7_graphAt hk.loc hk.inj hfl F a0 a1 ha0 σ h3) gX7_placeOf_X7_graphAt rfl ⟨rfl, by decide +kernel, by decide +kernel, by decide +kernel⟩ ⟨Nat.le_of_ble_eq_true rfl, Nat.le_of_ble_eq_true rfl⟩ ha0.cell.1 (ha0.cell.2 _) rfl rfl rfl (Nat.le_of_ble_eq_true rfl) ⟨Nat.le_of_ble_eq_true rfl, Nat.le_of_ble_eq_true rfl⟩ dX7_placeOf_2 (fun X hX => by cases hX; exact Y_out hk hnx hq ⟨Nat.le_of_ble_eq_true rfl, Nat.le_of_ble_eq_true rfl⟩) (fun v hv => by cases hv)
  · refine ZX_callV 1 hk [.int a1] (c_X7_graphAt hk.loc hk.inj hfl F a0 a1 ha0 σ h3) gX7_placeOf_X7_graphAt rfl ⟨rfl, by decide +kernel, by decide +kernel, by decide +kernel⟩ ⟨Nat.le_of_ble_eq_true rfl, Nat.le_of_ble_eq_true rfl⟩ ha0.cell.1 (ha0.cell.2 _) rfl rfl rfl (Nat.le_of_ble_eq_true rfl) ⟨Nat.le_of_ble_eq_true rfl, Nat.le_of_ble_eq_true rfl⟩ dX7_placeOf_2 (fun X hX => by cases hX) (fun v hv => ?_)
    cases hv
    show Z K 1 6 5 [(0, .ref (eA (kZ K) a0)), (1, .int a1), (2, .int a2)] [.ref (eA (kZ K) x1)] s2
    refine Z_astore_n hk (lv' := [(3, .ref (eA (kZ K) x1)), (0, .ref (eA (kZ K) a0)), (1, .int a1), (2, .int a2)]) dX7_placeOf_5 rfl (by decide) rfl ?_
    refine Z_aload_n hk 0 dX7_placeOf_6 rfl rfl ?_
    refine Z_iload_n hk 3 dX7_placeOf_7 rfl rfl ?_
    rcases bx_ok h with ⟨e8, s6, h7, h⟩ | ⟨x5, s6, h7, h⟩
    · cases h
      exact ZX_callT 2 hk [.ref (eA (kZ K) x1), .int a2] (c_X7_checkVertex hk.loc hk.inj hfl F x1 a2 (graphAt_at ha0 h3) s2 h7) gX7_placeOf_X7_checkVertex rfl ⟨by decide +kernel, by decide +kernel, by decide +kernel⟩ ⟨Nat.le_of_ble_eq_true rfl, Nat.le_of_ble_eq_true rfl⟩ rfl rfl (Nat.le_of_ble_eq_true rfl) ⟨Nat.le_of_ble_eq_true rfl, Nat.le_of_ble_eq_true rfl⟩ dX7_placeOf_8 (fun X hX => by cases hX; exact Y_out hk hnx hq ⟨Nat.le_of_ble_eq_true rfl, Nat.le_of_ble_eq_true rfl⟩) (fun v hv => by cases hv)
    · refine ZX_callT 2 hk [.ref (eA (kZ K) x1), .int a2] (c_X7_checkVertex hk.loc hk.inj hfl F x1 a2 (graphAt_at ha0 h3) s2 h7) gX7_placeOf_X7_checkVertex rfl ⟨by decide +kernel, by decide +kernel, by decide +kernel⟩ ⟨Nat.le_of_ble_eq_true rfl, Nat.le_of_ble_eq_true rfl⟩ rfl rfl (Nat.le_of_ble_eq_true rfl) ⟨Nat.le_of_ble_eq_true rfl, Nat.le_of_ble_eq_true rfl⟩ dX7_placeOf_8 (fun X hX => by cases hX) (fun v hv => ?_)
      cases hv
      show Z K 2 12 11 [(3, .ref (eA (kZ K) x1)), (0, .ref (eA (kZ K) a0)), (1, .int a1), (2, .int a2)] [] s6
      refine Z_aload_n hk 1 dX7_placeOf_11 rfl rfl ?_
      refine Z_get hk in_X7_placeOf_CanonCote rfl ha0.cell.1 (ha0.cell.2 _) 3 (by decide) wd_X7_placeOf_1 rfl dX7_placeOf_12 ?_
      refine Z_aload_n hk 0 dX7_placeOf_15 rfl rfl ?_
      obtain ⟨s10, h11, h⟩ := bv_ok h
      refine Z_callVN 1 hk (C := RX0) [.ref (eA (kZ K) x1)] (c_X0_search hk.loc hk.inj F (a0 + 21) x1 (ha0.arranging) (graphAt_at ha0 h3) s6 h11) gX7_placeOf_X0_search_n120 nw_26 rfl ⟨rfl, rfl⟩ ⟨wd_X7_placeOf_2, wd_X7_placeOf_3, wd_X7_placeOf_4⟩ (by decide +kernel) ⟨Nat.le_of_ble_eq_true rfl, Nat.le_of_ble_eq_true rfl⟩ (ha0.arranging).cell.1 ((ha0.arranging).cell.2 _) rfl rfl rfl (Nat.le_of_ble_eq_true rfl) ⟨Nat.le_of_ble_eq_true rfl, Nat.le_of_ble_eq_true rfl⟩ dX7_placeOf_16 ?_
      show Z K 2 12 19 [(3, .ref (eA (kZ K) x1)), (0, .ref (eA (kZ K) a0)), (1, .int a1), (2, .int a2)] [] s10
      refine Z_aload_n hk 1 dX7_placeOf_19 rfl rfl ?_
      refine Z_get hk in_X7_placeOf_CanonCote rfl ha0.cell.1 (ha0.cell.2 _) 3 (by decide) wd_X7_placeOf_1 rfl dX7_placeOf_20 ?_
      refine Z_iload_n hk 3 dX7_placeOf_23 rfl rfl ?_
      obtain ⟨x12, s13, h14, h⟩ := bd_ok h
      refine Z_callVN 1 hk (C := RX0) [.int a2] (c_X0_bestPlace hk.loc hk.inj F (a0 + 21) a2 (ha0.arranging) s10 h14) gX7_placeOf_X0_bestPlace_n123 nw_42 rfl ⟨rfl, rfl⟩ ⟨wd_X7_placeOf_5, wd_X7_placeOf_6, wd_X7_placeOf_7⟩ (by decide +kernel) ⟨Nat.le_of_ble_eq_true rfl, Nat.le_of_ble_eq_true rfl⟩ (ha0.arranging).cell.1 ((ha0.arranging).cell.2 _) rfl rfl rfl (Nat.le_of_ble_eq_true rfl) ⟨Nat.le_of_ble_eq_true rfl, Nat.le_of_ble_eq_true rfl⟩ dX7_placeOf_24 ?_
      show Z K 2 12 27 [(3, .ref (eA (kZ K) x1)), (0, .ref (eA (kZ K) a0)), (1, .int a1), (2, .int a2)] [.int x12] s13
      cases h
      exact ZX_iret hk hq ⟨Nat.le_of_ble_eq_true rfl, Nat.le_of_ble_eq_true rfl⟩ dX7_placeOf_27
theorem c_X7_placeOf {l : Launch} {E : zE} (hL : eL E) (hJ : eJ E) (hfl : l.stackTraces = false) (F : Nat) (a0 : Nat) (a1 : Int32) (a2 : Int32) (ha0 : atCanonCote E a0) (σ : zST) {r0 : zX Int32} {τ0 : zST} (h : m_X7_placeOf F a0 a1 a2 σ = some (r0, τ0)) : CtX l yX7_placeOf wsX7_placeOf r_X7_placeOf E [.ref (eA E a0), .int a1, .int a2] σ (zrI r0) τ0 := by
  refine CtX_of (by decide) rfl hL hJ (Nat.le_of_ble_eq_true rfl) (fun K hE hl hk htb hq => ?_)
  subst hE
  subst hl
  exact w_X7_placeOf hk hfl htb hq F a0 a1 a2 ha0 σ h
end

-- CanonCote.areAlike (II)Z
section
theorem dX7_areAlike_0 : decode cX7_areAlike 0 = .ok (.aload_n 0, 1) := by decide +kernel
theorem dX7_areAlike_1 : decode cX7_areAlike 1 = .ok (.iload_n 1, 1) := by decide +kernel
theorem dX7_areAlike_2 : decode cX7_areAlike 2 = .ok (.invokevirtual 48, 3) := by decide +kernel
theorem dX7_areAlike_5 : decode cX7_areAlike 5 = .ok (.astore_n 3, 1) := by decide +kernel
theorem dX7_areAlike_6 : decode cX7_areAlike 6 = .ok (.aload_n 0, 1) := by decide +kernel
theorem dX7_areAlike_7 : decode cX7_areAlike 7 = .ok (.aload_n 3, 1) := by decide +kernel
theorem dX7_areAlike_8 : decode cX7_areAlike 8 = .ok (.aload_n 0, 1) := by decide +kernel
theorem dX7_areAlike_9 : decode cX7_areAlike 9 = .ok (.iload_n 2, 1) := by decide +kernel
theorem dX7_areAlike_10 : decode cX7_areAlike 10 = .ok (.invokevirtual 48, 3) := by decide +kernel
theorem dX7_areAlike_13 : decode cX7_areAlike 13 = .ok (.invokevirtual 127, 3) := by decide +kernel
theorem dX7_areAlike_16 : decode cX7_areAlike 16 = .ok (.ireturn, 1) := by decide +kernel
set_option maxRecDepth 20000 in
theorem ggX7_areAlike_X7_graphAt : GoodIn wsX7_areAlike wsX7_graphAt := goodIn_ca (goodIn_r _ [5, 6, 7, 8, 84, 85, 86, 87, 88, 89] (by decide +kernel) (by decide +kernel)) (goodIn_sub (fun _ h => List.mem_cons_of_mem _ (List.mem_append_right _ h)) (by decide +kernel))
set_option maxRecDepth 20000 in
theorem gX7_areAlike_X7_graphAt : GoodIn wsX7_areAlike (wsV RX7 48 RX7 yX7_graphAt wsX7_graphAt) := goodIn_app (goodIn_of _ (by decide +kernel)) ggX7_areAlike_X7_graphAt
set_option maxRecDepth 20000 in
theorem ggX7_areAlike_X7_haveOneForm : GoodIn wsX7_areAlike wsX7_haveOneForm := goodIn_r _ [12, 13, 14, 15, 4, 16, 17, 18, 19, 20, 21, 22, 23, 24, 25, 26, 27, 28, 29, 30, 31, 32, 33, 34, 35, 36, 37, 38, 39, 40, 41, 42, 43, 44, 45, 46, 47, 48, 49, 50, 51, 52, 53, 54, 55, 56, 57, 58, 59, 60, 61, 62, 63, 64, 65, 66, 67, 68, 69, 70, 71, 72, 73, 74, 75, 76, 77, 78, 79, 80, 81, 82, 83, 84, 85, 86, 87, 88, 89, 90, 91, 92, 93, 94, 95, 96, 97, 98, 99] (by decide +kernel) (by decide +kernel)
set_option maxRecDepth 20000 in
theorem gX7_areAlike_X7_haveOneForm : GoodIn wsX7_areAlike (wsV RX7 127 RX7 yX7_haveOneForm wsX7_haveOneForm) := goodIn_app (goodIn_of _ (by decide +kernel)) ggX7_areAlike_X7_haveOneForm
def r_X7_areAlike : Room := { frames := 16, cells := 2, slots := 12, locals := 396 }
set_option maxRecDepth 100000 in
set_option maxHeartbeats 4000000 in
theorem w_X7_areAlike {K : zK} (hk : zIs K RX7 cX7_areAlike 4 wsX7_areAlike (some .boolean) r_X7_areAlike) (hfl : (kL K).stackTraces = false) (hnx : zNX K) {r0 : zX Int32} {τ0 : zST} (hq : zQX K (zrI r0) τ0) (F : Nat) (a0 : Nat) (a1 : Int32) (a2 : Int32) (ha0 : atCanonCote (kZ K) a0) (σ : zST) (h : m_X7_areAlike F a0 a1 a2 σ = some (r0, τ0)) : Z K 0 0 0 [(0, .ref (eA (kZ K) a0)), (1, .int a1), (2, .int a2)] [] σ := by
  unfold m_X7_areAlike at h
  refine Z_aload_n hk 0 dX7_areAlike_0 rfl rfl ?_
  refine Z_iload_n hk 1 dX7_areAlike_1 rfl rfl ?_
  rcases bx_ok h with ⟨e4, s2, h3, h⟩ | ⟨x1, s2, h3, h⟩
  · cases h
    exact ZX_callV 1 hk [.int a1] (c_X7_graphAt hk.loc hk.inj hfl F a0 a1 ha0 σ h3) gX7_areAlike_X7_graphAt rfl ⟨rfl, by decide +kernel, by decide +kernel, by decide +kernel⟩ ⟨Nat.le_of_ble_eq_true rfl, Nat.le_of_ble_eq_true rfl⟩ ha0.cell.1 (ha0.cell.2 _) rfl rfl rfl (Nat.le_of_ble_eq_true rfl) ⟨Nat.le_of_ble_eq_true rfl, Nat.le_of_ble_eq_true rfl⟩ dX7_areAlike_2 (fun X hX => by cases hX; exact Y_out hk hnx hq ⟨Nat.le_of_ble_eq_true rfl, Nat.le_of_ble_eq_true rfl⟩) (fun v hv => by cases hv)
  · refine ZX_callV 1 hk [.int a1] (c_X7_graphAt hk.loc hk.inj hfl F a0 a1 ha0 σ h3) gX7_areAlike_X7_graphAt rfl ⟨rfl, by decide +kernel, by decide +kernel, by decide +kernel⟩ ⟨Nat.le_of_ble_eq_true rfl, Nat.le_of_ble_eq_true rfl⟩ ha0.cell.1 (ha0.cell.2 _) rfl rfl rfl (Nat.le_of_ble_eq_true rfl) ⟨Nat.le_of_ble_eq_true rfl, Nat.le_of_ble_eq_true rfl⟩ dX7_areAlike_2 (fun X hX => by cases hX) (fun v hv => ?_)
    cases hv
    show Z K 1 6 5 [(0, .ref (eA (kZ K) a0)), (1, .int a1), (2, .int a2)] [.ref (eA (kZ K) x1)] s2
    refine Z_astore_n hk (lv' := [(3, .ref (eA (kZ K) x1)), (0, .ref (eA (kZ K) a0)), (1, .int a1), (2, .int a2)]) dX7_areAlike_5 rfl (by decide) rfl ?_
    refine Z_aload_n hk 1 dX7_areAlike_6 rfl rfl ?_
    refine Z_aload_n hk 0 dX7_areAlike_7 rfl rfl ?_
    refine Z_aload_n hk 1 dX7_areAlike_8 rfl rfl ?_
    refine Z_iload_n hk 3 dX7_areAlike_9 rfl rfl ?_
    rcases bx_ok h with ⟨e8, s6, h7, h⟩ | ⟨x5, s6, h7, h⟩
    · cases h
      exact ZX_callV 1 hk [.int a2] (c_X7_graphAt hk.loc hk.inj hfl F a0 a2 ha0 s2 h7) gX7_areAlike_X7_graphAt rfl ⟨rfl, by decide +kernel, by decide +kernel, by decide +kernel⟩ ⟨Nat.le_of_ble_eq_true rfl, Nat.le_of_ble_eq_true rfl⟩ ha0.cell.1 (ha0.cell.2 _) rfl rfl rfl (Nat.le_of_ble_eq_true rfl) ⟨Nat.le_of_ble_eq_true rfl, Nat.le_of_ble_eq_true rfl⟩ dX7_areAlike_10 (fun X hX => by cases hX; exact Y_out hk hnx hq ⟨Nat.le_of_ble_eq_true rfl, Nat.le_of_ble_eq_true rfl⟩) (fun v hv => by cases hv)
    · refine ZX_callV 1 hk [.int a2] (c_X7_graphAt hk.loc hk.inj hfl F a0 a2 ha0 s2 h7) gX7_areAlike_X7_graphAt rfl ⟨rfl, by decide +kernel, by decide +kernel, by decide +kernel⟩ ⟨Nat.le_of_ble_eq_true rfl, Nat.le_of_ble_eq_true rfl⟩ ha0.cell.1 (ha0.cell.2 _) rfl rfl rfl (Nat.le_of_ble_eq_true rfl) ⟨Nat.le_of_ble_eq_true rfl, Nat.le_of_ble_eq_true rfl⟩ dX7_areAlike_10 (fun X hX => by cases hX) (fun v hv => ?_)
      cases hv
      show Z K 2 12 13 [(3, .ref (eA (kZ K) x1)), (0, .ref (eA (kZ K) a0)), (1, .int a1), (2, .int a2)] [.ref (eA (kZ K) x5), .ref (eA (kZ K) x1), .ref (eA (kZ K) a0)] s6
      obtain ⟨x9, s10, h11, h⟩ := bd_ok h
      refine Z_callV 2 hk [.ref (eA (kZ K) x1), .ref (eA (kZ K) x5)] (c_X7_haveOneForm hk.loc hk.inj F a0 x1 x5 ha0 (graphAt_at ha0 h3) (graphAt_at ha0 h7) s6 h11) gX7_areAlike_X7_haveOneForm rfl ⟨rfl, rfl⟩ (by decide +kernel) ⟨Nat.le_of_ble_eq_true rfl, Nat.le_of_ble_eq_true rfl⟩ ha0.cell.1 (ha0.cell.2 _) rfl rfl rfl (Nat.le_of_ble_eq_true rfl) ⟨Nat.le_of_ble_eq_true rfl, Nat.le_of_ble_eq_true rfl⟩ dX7_areAlike_13 ?_
      show Z K 2 12 16 [(3, .ref (eA (kZ K) x1)), (0, .ref (eA (kZ K) a0)), (1, .int a1), (2, .int a2)] [.int x9] s10
      obtain ⟨hz, h⟩ := gd_some h
      cases h
      exact ZX_zret hk hz hq ⟨Nat.le_of_ble_eq_true rfl, Nat.le_of_ble_eq_true rfl⟩ dX7_areAlike_16
theorem c_X7_areAlike {l : Launch} {E : zE} (hL : eL E) (hJ : eJ E) (hfl : l.stackTraces = false) (F : Nat) (a0 : Nat) (a1 : Int32) (a2 : Int32) (ha0 : atCanonCote E a0) (σ : zST) {r0 : zX Int32} {τ0 : zST} (h : m_X7_areAlike F a0 a1 a2 σ = some (r0, τ0)) : CtX l yX7_areAlike wsX7_areAlike r_X7_areAlike E [.ref (eA E a0), .int a1, .int a2] σ (zrI r0) τ0 := by
  refine CtX_of (by decide) rfl hL hJ (Nat.le_of_ble_eq_true rfl) (fun K hE hl hk htb hq => ?_)
  subst hE
  subst hl
  exact w_X7_areAlike hk hfl htb hq F a0 a1 a2 ha0 σ h
end

-- CanonCote.image (III)I
section
theorem dX7_image_0 : decode cX7_image 0 = .ok (.aload_n 0, 1) := by decide +kernel
theorem dX7_image_1 : decode cX7_image 1 = .ok (.iload_n 1, 1) := by decide +kernel
theorem dX7_image_2 : decode cX7_image 2 = .ok (.invokevirtual 48, 3) := by decide +kernel
theorem dX7_image_5 : decode cX7_image 5 = .ok (.astore 4, 2) := by decide +kernel
theorem dX7_image_7 : decode cX7_image 7 = .ok (.aload_n 0, 1) := by decide +kernel
theorem dX7_image_8 : decode cX7_image 8 = .ok (.iload_n 2, 1) := by decide +kernel
theorem dX7_image_9 : decode cX7_image 9 = .ok (.invokevirtual 48, 3) := by decide +kernel
theorem dX7_image_12 : decode cX7_image 12 = .ok (.astore 5, 2) := by decide +kernel
theorem dX7_image_14 : decode cX7_image 14 = .ok (.aload 4, 2) := by decide +kernel
theorem dX7_image_16 : decode cX7_image 16 = .ok (.iload_n 3, 1) := by decide +kernel
theorem dX7_image_17 : decode cX7_image 17 = .ok (.invokestatic 67, 3) := by decide +kernel
theorem dX7_image_20 : decode cX7_image 20 = .ok (.aload_n 0, 1) := by decide +kernel
theorem dX7_image_21 : decode cX7_image 21 = .ok (.aload 4, 2) := by decide +kernel
theorem dX7_image_23 : decode cX7_image 23 = .ok (.aload 5, 2) := by decide +kernel
theorem dX7_image_25 : decode cX7_image 25 = .ok (.invokevirtual 127, 3) := by decide +kernel
theorem dX7_image_28 : decode cX7_image 28 = .ok (.ifCond .eq 27, 3) := by decide +kernel
theorem dX7_image_31 : decode cX7_image 31 = .ok (.aload_n 0, 1) := by decide +kernel
theorem dX7_image_32 : decode cX7_image 32 = .ok (.getfield 37, 3) := by decide +kernel
theorem dX7_image_35 : decode cX7_image 35 = .ok (.aload 4, 2) := by decide +kernel
theorem dX7_image_37 : decode cX7_image 37 = .ok (.aload 5, 2) := by decide +kernel
theorem dX7_image_39 : decode cX7_image 39 = .ok (.invokevirtual 131, 3) := by decide +kernel
theorem dX7_image_42 : decode cX7_image 42 = .ok (.ifCond .eq 13, 3) := by decide +kernel
theorem dX7_image_45 : decode cX7_image 45 = .ok (.aload_n 0, 1) := by decide +kernel
theorem dX7_image_46 : decode cX7_image 46 = .ok (.getfield 37, 3) := by decide +kernel
theorem dX7_image_49 : decode cX7_image 49 = .ok (.getfield 134, 3) := by decide +kernel
theorem dX7_image_52 : decode cX7_image 52 = .ok (.iload_n 3, 1) := by decide +kernel
theorem dX7_image_53 : decode cX7_image 53 = .ok (.iaload, 1) := by decide +kernel
theorem dX7_image_54 : decode cX7_image 54 = .ok (.ireturn, 1) := by decide +kernel
theorem dX7_image_55 : decode cX7_image 55 = .ok (.iconst (-1), 1) := by decide +kernel
theorem dX7_image_56 : decode cX7_image 56 = .ok (.ireturn, 1) := by decide +kernel
set_option maxRecDepth 20000 in
theorem ggX7_image_X7_graphAt : GoodIn wsX7_image wsX7_graphAt := goodIn_ca (goodIn_r _ [6, 7, 8, 9, 130, 131, 132, 133, 134, 135] (by decide +kernel) (by decide +kernel)) (goodIn_sub (fun _ h => List.mem_cons_of_mem _ (List.mem_append_right _ h)) (by decide +kernel))
set_option maxRecDepth 20000 in
theorem gX7_image_X7_graphAt : GoodIn wsX7_image (wsV RX7 48 RX7 yX7_graphAt wsX7_graphAt) := goodIn_app (goodIn_of _ (by decide +kernel)) ggX7_image_X7_graphAt
set_option maxRecDepth 20000 in
theorem ggX7_image_X7_checkVertex : GoodIn wsX7_image wsX7_checkVertex := goodIn_ca (goodIn_r _ [12, 7, 8, 139, 140, 141] (by decide +kernel) (by decide +kernel)) (goodIn_sub (fun _ h => List.mem_cons_of_mem _ (List.mem_append_right _ h)) (by decide +kernel))
set_option maxRecDepth 20000 in
theorem gX7_image_X7_checkVertex : GoodIn wsX7_image (va_wsS RX7 67 yX7_checkVertex wsX7_checkVertex) := goodIn_app (goodIn_of _ (by decide +kernel)) ggX7_image_X7_checkVertex
set_option maxRecDepth 20000 in
theorem ggX7_image_X7_haveOneForm : GoodIn wsX7_image wsX7_haveOneForm := goodIn_r _ [16, 17, 18, 19, 5, 20, 21, 22, 23, 24, 25, 26, 27, 28, 29, 30, 31, 32, 33, 34, 35, 36, 37, 38, 39, 40, 41, 42, 43, 44, 45, 46, 47, 48, 49, 50, 51, 52, 53, 54, 55, 56, 57, 58, 59, 60, 61, 62, 63, 64, 65, 66, 67, 68, 69, 70, 71, 72, 73, 74, 75, 76, 77, 78, 79, 80, 81, 82, 83, 84, 85, 86, 87, 130, 131, 132, 133, 134, 135, 142, 143, 144, 145, 146, 147, 148, 139, 140, 141] (by decide +kernel) (by decide +kernel)
set_option maxRecDepth 20000 in
theorem gX7_image_X7_haveOneForm : GoodIn wsX7_image (wsV RX7 127 RX7 yX7_haveOneForm wsX7_haveOneForm) := goodIn_app (goodIn_of _ (by decide +kernel)) ggX7_image_X7_haveOneForm
set_option maxRecDepth 20000 in
theorem ggX7_image_X4_find : GoodIn wsX7_image wsX4_find := goodIn_r _ [91, 92, 93, 94, 95, 96, 97, 98, 99, 100, 101, 102, 103, 104, 105, 106, 107, 108, 109, 110, 111, 45, 46, 47, 48, 49, 50, 112, 69, 70, 71, 113, 5, 114, 115, 116, 117, 118, 119, 120, 89, 121, 122, 123, 124, 125, 126, 127, 34, 128, 129, 38, 139, 140, 141, 136, 137, 138, 149, 150, 151, 152, 153] (by decide +kernel) (by decide +kernel)
set_option maxRecDepth 20000 in
theorem gX7_image_X4_find_n131 : GoodIn wsX7_image (wsX4_find) := ggX7_image_X4_find
theorem in_X7_image_CanonCote : ∀ w ∈ u_ws RX7 TX7 6, w ∈ wsX7_image := by decide +kernel
theorem wd_X7_image_1 : Cond.fieldLink RX7 37 (TX7 4).1 (TX7 4).2.1 (TX7 4).2.2.1 ∈ wsX7_image := by decide +kernel
theorem wd_X7_image_2 : Cond.initialized yX4_find.cls ∈ wsX7_image := by decide +kernel
theorem wd_X7_image_3 : Cond.instanceMethod yX4_find ∈ wsX7_image := by decide +kernel
theorem wd_X7_image_4 : Cond.selects RX4 yX4_find yX4_find ∈ wsX7_image := by decide +kernel
theorem in_X7_image_Mapping : ∀ w ∈ u_ws RX4 TX4 3, w ∈ wsX7_image := by decide +kernel
def r_X7_image : Room := { frames := 16, cells := 3, slots := 18, locals := 396 }
set_option maxRecDepth 100000 in
set_option maxHeartbeats 4000000 in
theorem w_X7_image_55 {K : zK} (hk : zIs K RX7 cX7_image 6 wsX7_image (some .int) r_X7_image) (hfl : (kL K).stackTraces = false) (hnx : zNX K) {r0 : zX Int32} {τ0 : zST} (hq : zQX K (zrI r0) τ0) (F : Nat)  (σ : zST) (h : m_X7_image_55 F σ = some (r0, τ0)) : Z K 3 18 55 [] [] σ := by
  unfold m_X7_image_55 at h
  refine Z_iconst hk dX7_image_55 zc_iconst_m1 ?_
  cases h
  exact ZX_iret hk hq ⟨Nat.le_of_ble_eq_true rfl, Nat.le_of_ble_eq_true rfl⟩ dX7_image_56
set_option maxRecDepth 100000 in
set_option maxHeartbeats 4000000 in
theorem w_X7_image {K : zK} (hk : zIs K RX7 cX7_image 6 wsX7_image (some .int) r_X7_image) (hfl : (kL K).stackTraces = false) (hnx : zNX K) {r0 : zX Int32} {τ0 : zST} (hq : zQX K (zrI r0) τ0) (F : Nat) (a0 : Nat) (a1 : Int32) (a2 : Int32) (a3 : Int32) (ha0 : atCanonCote (kZ K) a0) (σ : zST) (h : m_X7_image F a0 a1 a2 a3 σ = some (r0, τ0)) : Z K 0 0 0 [(0, .ref (eA (kZ K) a0)), (1, .int a1), (2, .int a2), (3, .int a3)] [] σ := by
  unfold m_X7_image at h
  refine Z_aload_n hk 0 dX7_image_0 rfl rfl ?_
  refine Z_iload_n hk 1 dX7_image_1 rfl rfl ?_
  rcases bx_ok h with ⟨e4, s2, h3, h⟩ | ⟨x1, s2, h3, h⟩
  · cases h
    exact ZX_callV 1 hk [.int a1] (c_X7_graphAt hk.loc hk.inj hfl F a0 a1 ha0 σ h3) gX7_image_X7_graphAt rfl ⟨rfl, by decide +kernel, by decide +kernel, by decide +kernel⟩ ⟨Nat.le_of_ble_eq_true rfl, Nat.le_of_ble_eq_true rfl⟩ ha0.cell.1 (ha0.cell.2 _) rfl rfl rfl (Nat.le_of_ble_eq_true rfl) ⟨Nat.le_of_ble_eq_true rfl, Nat.le_of_ble_eq_true rfl⟩ dX7_image_2 (fun X hX => by cases hX; exact Y_out hk hnx hq ⟨Nat.le_of_ble_eq_true rfl, Nat.le_of_ble_eq_true rfl⟩) (fun v hv => by cases hv)
  · refine ZX_callV 1 hk [.int a1] (c_X7_graphAt hk.loc hk.inj hfl F a0 a1 ha0 σ h3) gX7_image_X7_graphAt rfl ⟨rfl, by decide +kernel, by decide +kernel, by decide +kernel⟩ ⟨Nat.le_of_ble_eq_true rfl, Nat.le_of_ble_eq_true rfl⟩ ha0.cell.1 (ha0.cell.2 _) rfl rfl rfl (Nat.le_of_ble_eq_true rfl) ⟨Nat.le_of_ble_eq_true rfl, Nat.le_of_ble_eq_true rfl⟩ dX7_image_2 (fun X hX => by cases hX) (fun v hv => ?_)
    cases hv
    show Z K 1 6 5 [(0, .ref (eA (kZ K) a0)), (1, .int a1), (2, .int a2), (3, .int a3)] [.ref (eA (kZ K) x1)] s2
    refine Z_astore hk (lv' := [(4, .ref (eA (kZ K) x1)), (0, .ref (eA (kZ K) a0)), (1, .int a1), (2, .int a2), (3, .int a3)]) dX7_image_5 (by decide) rfl ?_
    refine Z_aload_n hk 1 dX7_image_7 rfl rfl ?_
    refine Z_iload_n hk 3 dX7_image_8 rfl rfl ?_
    rcases bx_ok h with ⟨e8, s6, h7, h⟩ | ⟨x5, s6, h7, h⟩
    · cases h
      exact ZX_callV 1 hk [.int a2] (c_X7_graphAt hk.loc hk.inj hfl F a0 a2 ha0 s2 h7) gX7_image_X7_graphAt rfl ⟨rfl, by decide +kernel, by decide +kernel, by decide +kernel⟩ ⟨Nat.le_of_ble_eq_true rfl, Nat.le_of_ble_eq_true rfl⟩ ha0.cell.1 (ha0.cell.2 _) rfl rfl rfl (Nat.le_of_ble_eq_true rfl) ⟨Nat.le_of_ble_eq_true rfl, Nat.le_of_ble_eq_true rfl⟩ dX7_image_9 (fun X hX => by cases hX; exact Y_out hk hnx hq ⟨Nat.le_of_ble_eq_true rfl, Nat.le_of_ble_eq_true rfl⟩) (fun v hv => by cases hv)
    · refine ZX_callV 1 hk [.int a2] (c_X7_graphAt hk.loc hk.inj hfl F a0 a2 ha0 s2 h7) gX7_image_X7_graphAt rfl ⟨rfl, by decide +kernel, by decide +kernel, by decide +kernel⟩ ⟨Nat.le_of_ble_eq_true rfl, Nat.le_of_ble_eq_true rfl⟩ ha0.cell.1 (ha0.cell.2 _) rfl rfl rfl (Nat.le_of_ble_eq_true rfl) ⟨Nat.le_of_ble_eq_true rfl, Nat.le_of_ble_eq_true rfl⟩ dX7_image_9 (fun X hX => by cases hX) (fun v hv => ?_)
      cases hv
      show Z K 2 12 12 [(4, .ref (eA (kZ K) x1)), (0, .ref (eA (kZ K) a0)), (1, .int a1), (2, .int a2), (3, .int a3)] [.ref (eA (kZ K) x5)] s6
      refine Z_astore hk (lv' := [(5, .ref (eA (kZ K) x5)), (4, .ref (eA (kZ K) x1)), (0, .ref (eA (kZ K) a0)), (1, .int a1), (2, .int a2), (3, .int a3)]) dX7_image_12 (by decide) rfl ?_
      refine Z_aload hk 1 dX7_image_14 rfl ?_
      refine Z_iload_n hk 5 dX7_image_16 rfl rfl ?_
      rcases bx_ok h with ⟨e12, s10, h11, h⟩ | ⟨x9, s10, h11, h⟩
      · cases h
        exact ZX_callT 2 hk [.ref (eA (kZ K) x1), .int a3] (c_X7_checkVertex hk.loc hk.inj hfl F x1 a3 (graphAt_at ha0 h3) s6 h11) gX7_image_X7_checkVertex rfl ⟨by decide +kernel, by decide +kernel, by decide +kernel⟩ ⟨Nat.le_of_ble_eq_true rfl, Nat.le_of_ble_eq_true rfl⟩ rfl rfl (Nat.le_of_ble_eq_true rfl) ⟨Nat.le_of_ble_eq_true rfl, Nat.le_of_ble_eq_true rfl⟩ dX7_image_17 (fun X hX => by cases hX; exact Y_out hk hnx hq ⟨Nat.le_of_ble_eq_true rfl, Nat.le_of_ble_eq_true rfl⟩) (fun v hv => by cases hv)
      · refine ZX_callT 2 hk [.ref (eA (kZ K) x1), .int a3] (c_X7_checkVertex hk.loc hk.inj hfl F x1 a3 (graphAt_at ha0 h3) s6 h11) gX7_image_X7_checkVertex rfl ⟨by decide +kernel, by decide +kernel, by decide +kernel⟩ ⟨Nat.le_of_ble_eq_true rfl, Nat.le_of_ble_eq_true rfl⟩ rfl rfl (Nat.le_of_ble_eq_true rfl) ⟨Nat.le_of_ble_eq_true rfl, Nat.le_of_ble_eq_true rfl⟩ dX7_image_17 (fun X hX => by cases hX) (fun v hv => ?_)
        cases hv
        show Z K 3 18 20 [(5, .ref (eA (kZ K) x5)), (4, .ref (eA (kZ K) x1)), (0, .ref (eA (kZ K) a0)), (1, .int a1), (2, .int a2), (3, .int a3)] [] s10
        refine Z_aload_n hk 2 dX7_image_20 rfl rfl ?_
        refine Z_aload hk 1 dX7_image_21 rfl ?_
        refine Z_aload hk 0 dX7_image_23 rfl ?_
        obtain ⟨x13, s14, h15, h⟩ := bd_ok h
        refine Z_callV 2 hk [.ref (eA (kZ K) x1), .ref (eA (kZ K) x5)] (c_X7_haveOneForm hk.loc hk.inj F a0 x1 x5 ha0 (graphAt_at ha0 h3) (graphAt_at ha0 h7) s10 h15) gX7_image_X7_haveOneForm rfl ⟨rfl, rfl⟩ (by decide +kernel) ⟨Nat.le_of_ble_eq_true rfl, Nat.le_of_ble_eq_true rfl⟩ ha0.cell.1 (ha0.cell.2 _) rfl rfl rfl (Nat.le_of_ble_eq_true rfl) ⟨Nat.le_of_ble_eq_true rfl, Nat.le_of_ble_eq_true rfl⟩ dX7_image_25 ?_
        show Z K 3 18 28 [(5, .ref (eA (kZ K) x5)), (4, .ref (eA (kZ K) x1)), (0, .ref (eA (kZ K) a0)), (1, .int a1), (2, .int a2), (3, .int a3)] [.int x13] s14
        refine Z_if_eq hk (tgt := 55) dX7_image_28 (by decide) (fun c16 => ?_) (fun c16 => ?_)
        · have h := if_yes h c16
          refine Z_sub [] rfl ?_
          exact w_X7_image_55 hk hfl hnx hq F s14 h
        · have h := if_no h c16
          refine Z_aload_n hk 2 dX7_image_31 rfl rfl ?_
          refine Z_get hk in_X7_image_CanonCote rfl ha0.cell.1 (ha0.cell.2 _) 4 (by decide) wd_X7_image_1 rfl dX7_image_32 ?_
          refine Z_aload hk 1 dX7_image_35 rfl ?_
          refine Z_aload hk 0 dX7_image_37 rfl ?_
          obtain ⟨x17, s18, h19, h⟩ := bd_ok h
          refine Z_callVN 2 hk (C := RX4) [.ref (eA (kZ K) x1), .ref (eA (kZ K) x5)] (c_X4_find hk.loc hk.inj F (a0 + 26) x1 x5 (ha0.mapping) (graphAt_at ha0 h3) (graphAt_at ha0 h7) s14 h19) gX7_image_X4_find_n131 nw_43 rfl ⟨rfl, rfl⟩ ⟨wd_X7_image_2, wd_X7_image_3, wd_X7_image_4⟩ (by decide +kernel) ⟨Nat.le_of_ble_eq_true rfl, Nat.le_of_ble_eq_true rfl⟩ (ha0.mapping).cell.1 ((ha0.mapping).cell.2 _) rfl rfl rfl (Nat.le_of_ble_eq_true rfl) ⟨Nat.le_of_ble_eq_true rfl, Nat.le_of_ble_eq_true rfl⟩ dX7_image_39 ?_
          show Z K 3 18 42 [(5, .ref (eA (kZ K) x5)), (4, .ref (eA (kZ K) x1)), (0, .ref (eA (kZ K) a0)), (1, .int a1), (2, .int a2), (3, .int a3)] [.int x17] s18
          refine Z_if_eq hk (tgt := 55) dX7_image_42 (by decide) (fun c20 => ?_) (fun c20 => ?_)
          · have h := if_yes h c20
            refine Z_sub [] rfl ?_
            exact w_X7_image_55 hk hfl hnx hq F s18 h
          · have h := if_no h c20
            refine Z_aload_n hk 2 dX7_image_45 rfl rfl ?_
            refine Z_get hk in_X7_image_CanonCote rfl ha0.cell.1 (ha0.cell.2 _) 4 (by decide) wd_X7_image_1 rfl dX7_image_46 ?_
            refine Z_getN hk in_X7_image_Mapping rfl (ha0.mapping).cell.1 ((ha0.mapping).cell.2 _) 0 (by decide) nw_44 rfl dX7_image_49 ?_
            refine Z_iload_n hk 5 dX7_image_52 rfl rfl ?_
            obtain ⟨i23, x21, e22, h⟩ := ldI_get h
            refine Z_iald hk (((ha0.mapping).images)) i23 dX7_image_53 ?_
            refine Z_eqI e22 ?_
            cases h
            exact ZX_iret hk hq ⟨Nat.le_of_ble_eq_true rfl, Nat.le_of_ble_eq_true rfl⟩ dX7_image_54
theorem c_X7_image {l : Launch} {E : zE} (hL : eL E) (hJ : eJ E) (hfl : l.stackTraces = false) (F : Nat) (a0 : Nat) (a1 : Int32) (a2 : Int32) (a3 : Int32) (ha0 : atCanonCote E a0) (σ : zST) {r0 : zX Int32} {τ0 : zST} (h : m_X7_image F a0 a1 a2 a3 σ = some (r0, τ0)) : CtX l yX7_image wsX7_image r_X7_image E [.ref (eA E a0), .int a1, .int a2, .int a3] σ (zrI r0) τ0 := by
  refine CtX_of (by decide) rfl hL hJ (Nat.le_of_ble_eq_true rfl) (fun K hE hl hk htb hq => ?_)
  subst hE
  subst hl
  exact w_X7_image hk hfl htb hq F a0 a1 a2 a3 ha0 σ h
end

-- CanonCote.copies (II)I
section
theorem dX7_copies_0 : decode cX7_copies 0 = .ok (.aload_n 0, 1) := by decide +kernel
theorem dX7_copies_1 : decode cX7_copies 1 = .ok (.iload_n 1, 1) := by decide +kernel
theorem dX7_copies_2 : decode cX7_copies 2 = .ok (.invokevirtual 48, 3) := by decide +kernel
theorem dX7_copies_5 : decode cX7_copies 5 = .ok (.astore_n 3, 1) := by decide +kernel
theorem dX7_copies_6 : decode cX7_copies 6 = .ok (.aload_n 0, 1) := by decide +kernel
theorem dX7_copies_7 : decode cX7_copies 7 = .ok (.iload_n 2, 1) := by decide +kernel
theorem dX7_copies_8 : decode cX7_copies 8 = .ok (.invokevirtual 48, 3) := by decide +kernel
theorem dX7_copies_11 : decode cX7_copies 11 = .ok (.astore 4, 2) := by decide +kernel
theorem dX7_copies_13 : decode cX7_copies 13 = .ok (.aload_n 0, 1) := by decide +kernel
theorem dX7_copies_14 : decode cX7_copies 14 = .ok (.aload_n 3, 1) := by decide +kernel
theorem dX7_copies_15 : decode cX7_copies 15 = .ok (.invokevirtual 116, 3) := by decide +kernel
theorem dX7_copies_18 : decode cX7_copies 18 = .ok (.lstore 5, 2) := by decide +kernel
theorem dX7_copies_20 : decode cX7_copies 20 = .ok (.iconst 0, 1) := by decide +kernel
theorem dX7_copies_21 : decode cX7_copies 21 = .ok (.istore 7, 2) := by decide +kernel
theorem dX7_copies_23 : decode cX7_copies 23 = .ok (.iconst 1, 1) := by decide +kernel
theorem dX7_copies_24 : decode cX7_copies 24 = .ok (.istore 8, 2) := by decide +kernel
theorem dX7_copies_26 : decode cX7_copies 26 = .ok (.iload 8, 2) := by decide +kernel
theorem dX7_copies_28 : decode cX7_copies 28 = .ok (.iconst 1, 1) := by decide +kernel
theorem dX7_copies_29 : decode cX7_copies 29 = .ok (.aload 4, 2) := by decide +kernel
theorem dX7_copies_31 : decode cX7_copies 31 = .ok (.getfield 59, 3) := by decide +kernel
theorem dX7_copies_34 : decode cX7_copies 34 = .ok (.ishl, 1) := by decide +kernel
theorem dX7_copies_35 : decode cX7_copies 35 = .ok (.if_icmp .ge 63, 3) := by decide +kernel
theorem dX7_copies_38 : decode cX7_copies 38 = .ok (.iload 8, 2) := by decide +kernel
theorem dX7_copies_40 : decode cX7_copies 40 = .ok (.invokestatic 137, 3) := by decide +kernel
theorem dX7_copies_43 : decode cX7_copies 43 = .ok (.aload_n 3, 1) := by decide +kernel
theorem dX7_copies_44 : decode cX7_copies 44 = .ok (.getfield 59, 3) := by decide +kernel
theorem dX7_copies_47 : decode cX7_copies 47 = .ok (.if_icmp .ne 45, 3) := by decide +kernel
theorem dX7_copies_50 : decode cX7_copies 50 = .ok (.aload_n 0, 1) := by decide +kernel
theorem dX7_copies_51 : decode cX7_copies 51 = .ok (.getfield 16, 3) := by decide +kernel
theorem dX7_copies_54 : decode cX7_copies 54 = .ok (.aload 4, 2) := by decide +kernel
theorem dX7_copies_56 : decode cX7_copies 56 = .ok (.iload 8, 2) := by decide +kernel
theorem dX7_copies_58 : decode cX7_copies 58 = .ok (.invokevirtual 142, 3) := by decide +kernel
theorem dX7_copies_61 : decode cX7_copies 61 = .ok (.aload_n 0, 1) := by decide +kernel
theorem dX7_copies_62 : decode cX7_copies 62 = .ok (.getfield 16, 3) := by decide +kernel
theorem dX7_copies_65 : decode cX7_copies 65 = .ok (.invokevirtual 97, 3) := by decide +kernel
theorem dX7_copies_68 : decode cX7_copies 68 = .ok (.aload_n 3, 1) := by decide +kernel
theorem dX7_copies_69 : decode cX7_copies 69 = .ok (.invokevirtual 97, 3) := by decide +kernel
theorem dX7_copies_72 : decode cX7_copies 72 = .ok (.if_icmp .ne 20, 3) := by decide +kernel
theorem dX7_copies_75 : decode cX7_copies 75 = .ok (.aload_n 0, 1) := by decide +kernel
theorem dX7_copies_76 : decode cX7_copies 76 = .ok (.aload_n 0, 1) := by decide +kernel
theorem dX7_copies_77 : decode cX7_copies 77 = .ok (.getfield 16, 3) := by decide +kernel
theorem dX7_copies_80 : decode cX7_copies 80 = .ok (.invokevirtual 116, 3) := by decide +kernel
theorem dX7_copies_83 : decode cX7_copies 83 = .ok (.lload 5, 2) := by decide +kernel
theorem dX7_copies_85 : decode cX7_copies 85 = .ok (.lcmp, 1) := by decide +kernel
theorem dX7_copies_86 : decode cX7_copies 86 = .ok (.ifCond .ne 6, 3) := by decide +kernel
theorem dX7_copies_89 : decode cX7_copies 89 = .ok (.iinc 7 1, 3) := by decide +kernel
theorem dX7_copies_92 : decode cX7_copies 92 = .ok (.iinc 8 1, 3) := by decide +kernel
theorem dX7_copies_95 : decode cX7_copies 95 = .ok (.goto (-69), 3) := by decide +kernel
theorem dX7_copies_98 : decode cX7_copies 98 = .ok (.iload 7, 2) := by decide +kernel
theorem dX7_copies_100 : decode cX7_copies 100 = .ok (.ireturn, 1) := by decide +kernel
set_option maxRecDepth 20000 in
theorem ggX7_copies_X7_graphAt : GoodIn wsX7_copies wsX7_graphAt := goodIn_ca (goodIn_r _ [6, 7, 8, 9, 98, 99, 100, 101, 102, 103] (by decide +kernel) (by decide +kernel)) (goodIn_sub (fun _ h => List.mem_cons_of_mem _ (List.mem_append_right _ h)) (by decide +kernel))
set_option maxRecDepth 20000 in
theorem gX7_copies_X7_graphAt : GoodIn wsX7_copies (wsV RX7 48 RX7 yX7_graphAt wsX7_graphAt) := goodIn_app (goodIn_of _ (by decide +kernel)) ggX7_copies_X7_graphAt
set_option maxRecDepth 20000 in
theorem ggX7_copies_X7_leastCode : GoodIn wsX7_copies wsX7_leastCode := goodIn_r _ [13, 14, 15, 16, 17, 18, 19, 20, 21, 22, 23, 24, 25, 26, 27, 28, 29, 30, 31, 32, 33, 34, 35, 36, 37, 38, 39, 40, 41, 42, 43, 44, 45, 46, 47, 48, 49, 50, 51, 52, 53, 54, 55, 56, 57, 58, 59, 60, 61, 62, 63, 64, 65, 66, 67, 68, 5, 69, 70, 71, 72, 73, 74, 75, 76, 77, 78, 79, 80, 98, 99, 100, 101, 102, 103, 104, 105, 106, 107, 108, 109, 110, 95, 96, 97] (by decide +kernel) (by decide +kernel)
set_option maxRecDepth 20000 in
theorem gX7_copies_X7_leastCode : GoodIn wsX7_copies (wsV RX7 116 RX7 yX7_leastCode wsX7_leastCode) := goodIn_app (goodIn_of _ (by decide +kernel)) ggX7_copies_X7_leastCode
set_option maxRecDepth 20000 in
theorem ggX7_copies_J6_bitCount_0f7a4 : GoodIn wsX7_copies wsJ6_bitCount_0f7a4 := goodIn_r _ [40, 41, 42, 43] (by decide +kernel) (by decide +kernel)
set_option maxRecDepth 20000 in
theorem gX7_copies_J6_bitCount_0f7a4 : GoodIn wsX7_copies (va_wsS RX7 137 yJ6_bitCount_0f7a4 wsJ6_bitCount_0f7a4) := goodIn_app (goodIn_of _ (by decide +kernel)) ggX7_copies_J6_bitCount_0f7a4
set_option maxRecDepth 20000 in
theorem ggX7_copies_X2_becomePart : GoodIn wsX7_copies wsX2_becomePart := goodIn_r _ [84, 85, 30, 31, 86, 5, 87, 88, 89, 27, 90, 95, 96, 97] (by decide +kernel) (by decide +kernel)
set_option maxRecDepth 20000 in
theorem gX7_copies_X2_becomePart_n142 : GoodIn wsX7_copies (wsX2_becomePart) := ggX7_copies_X2_becomePart
set_option maxRecDepth 20000 in
theorem ggX7_copies_X2_countEdges : GoodIn wsX7_copies wsX2_countEdges := goodIn_r _ [93, 85, 31, 94, 38, 39, 40, 41, 42, 43, 95, 96, 97] (by decide +kernel) (by decide +kernel)
set_option maxRecDepth 20000 in
theorem gX7_copies_X2_countEdges_n97 : GoodIn wsX7_copies (wsX2_countEdges) := ggX7_copies_X2_countEdges
theorem in_X7_copies_Graph : ∀ w ∈ u_ws RX2 TX2 3, w ∈ wsX7_copies := by decide +kernel
theorem in_X7_copies_CanonCote : ∀ w ∈ u_ws RX7 TX7 6, w ∈ wsX7_copies := by decide +kernel
theorem wd_X7_copies_2 : Cond.fieldLink RX7 16 (TX7 1).1 (TX7 1).2.1 (TX7 1).2.2.1 ∈ wsX7_copies := by decide +kernel
theorem wd_X7_copies_3 : Cond.initialized yX2_becomePart.cls ∈ wsX7_copies := by decide +kernel
theorem wd_X7_copies_4 : Cond.instanceMethod yX2_becomePart ∈ wsX7_copies := by decide +kernel
theorem wd_X7_copies_5 : Cond.selects RX2 yX2_becomePart yX2_becomePart ∈ wsX7_copies := by decide +kernel
theorem wd_X7_copies_6 : Cond.initialized yX2_countEdges.cls ∈ wsX7_copies := by decide +kernel
theorem wd_X7_copies_7 : Cond.instanceMethod yX2_countEdges ∈ wsX7_copies := by decide +kernel
theorem wd_X7_copies_8 : Cond.selects RX2 yX2_countEdges yX2_countEdges ∈ wsX7_copies := by decide +kernel
def r_X7_copies : Room := { frames := 15, cells := 2, slots := 12, locals := 374 }
set_option maxRecDepth 100000 in
set_option maxHeartbeats 4000000 in
theorem w_X7_copies_92 {K : zK} (hk : zIs K RX7 cX7_copies 9 wsX7_copies (some .int) r_X7_copies) (hfl : (kL K).stackTraces = false) (hnx : zNX K) {r0 : zX Int32} {τ0 : zST} (hq : zQX K (zrI r0) τ0) (F : Nat) (k26 : Nat → Nat → Nat → Int64 → Int32 → Int32 → zST → Option (zX Int32 × zST)) (hk26 : ∀ (a0 : Nat) (a3 : Nat) (a4 : Nat) (a5 : Int64) (a7 : Int32) (a8 : Int32) (ha0 : atCanonCote (kZ K) a0) (ha3 : atGraph (kZ K) a3) (ha4 : atGraph (kZ K) a4) (σ : zST), k26 a0 a3 a4 a5 a7 a8 σ = some (r0, τ0) → Z K 2 12 26 [(0, .ref (eA (kZ K) a0)), (3, .ref (eA (kZ K) a3)), (4, .ref (eA (kZ K) a4)), (5, .long a5), (7, .int a7), (8, .int a8)] [] σ) (a0 : Nat) (a3 : Nat) (a4 : Nat) (a5 : Int64) (a7 : Int32) (a8 : Int32) (ha0 : atCanonCote (kZ K) a0) (ha3 : atGraph (kZ K) a3) (ha4 : atGraph (kZ K) a4) (σ : zST) (h : m_X7_copies_92 F k26 a0 a3 a4 a5 a7 a8 σ = some (r0, τ0)) : Z K 2 12 92 [(0, .ref (eA (kZ K) a0)), (3, .ref (eA (kZ K) a3)), (4, .ref (eA (kZ K) a4)), (5, .long a5), (7, .int a7), (8, .int a8)] [] σ := by
  unfold m_X7_copies_92 at h
  obtain ⟨x33, e34, h⟩ := nm_get h
  refine Z_iinc hk 5 (v := x33) (lv' := [(8, .int x33), (0, .ref (eA (kZ K) a0)), (3, .ref (eA (kZ K) a3)), (4, .ref (eA (kZ K) a4)), (5, .long a5), (7, .int a7)]) dX7_copies_92 rfl (by rw [zc_iinc_1]; exact e34) (by decide) rfl ?_
  refine Z_goto hk (tgt := 26) dX7_copies_95 (by decide) ?_
  refine Z_sub [1, 2, 3, 4, 5, 0] rfl ?_
  exact hk26 a0 a3 a4 a5 a7 x33 ha0 ha3 ha4 σ h
set_option maxRecDepth 100000 in
set_option maxHeartbeats 4000000 in
theorem w_X7_copies_26 {K : zK} (hk : zIs K RX7 cX7_copies 9 wsX7_copies (some .int) r_X7_copies) (hfl : (kL K).stackTraces = false) (hnx : zNX K) {r0 : zX Int32} {τ0 : zST} (hq : zQX K (zrI r0) τ0) (F : Nat) : ∀ (n : Nat) (a0 : Nat) (a3 : Nat) (a4 : Nat) (a5 : Int64) (a7 : Int32) (a8 : Int32) (ha0 : atCanonCote (kZ K) a0) (ha3 : atGraph (kZ K) a3) (ha4 : atGraph (kZ K) a4) (σ : zST), m_X7_copies_26 F n a0 a3 a4 a5 a7 a8 σ = some (r0, τ0) → Z K 2 12 26 [(0, .ref (eA (kZ K) a0)), (3, .ref (eA (kZ K) a3)), (4, .ref (eA (kZ K) a4)), (5, .long a5), (7, .int a7), (8, .int a8)] [] σ := by
  intro n
  induction n with
  | zero => intro a0 a3 a4 a5 a7 a8 ha0 ha3 ha4 σ h; cases h
  | succ n ih =>
    intro a0 a3 a4 a5 a7 a8 ha0 ha3 ha4 σ h
    rw [m_X7_copies_26] at h
    refine Z_iload hk 5 dX7_copies_26 rfl ?_
    refine Z_iconst hk dX7_copies_28 zc_iconst_1 ?_
    refine Z_aload hk 2 dX7_copies_29 rfl ?_
    refine Z_getN hk in_X7_copies_Graph rfl ha4.cell.1 (ha4.cell.2 _) 0 (by decide) nw_28 rfl dX7_copies_31 ?_
    refine Z_ishl hk dX7_copies_34 ?_
    refine Z_icmp_ge hk (tgt := 98) dX7_copies_35 (by decide) (fun c12 => ?_) (fun c12 => ?_)
    · have h := if_yes h c12
      refine Z_iload hk 4 dX7_copies_98 rfl ?_
      cases h
      exact ZX_iret hk hq ⟨Nat.le_of_ble_eq_true rfl, Nat.le_of_ble_eq_true rfl⟩ dX7_copies_100
    · have h := if_no h c12
      refine Z_iload hk 5 dX7_copies_38 rfl ?_
      obtain ⟨x13, s14, h15, h⟩ := bd_ok h
      refine Z_callT 1 hk [.int a8] (c_J6_bitCount_0f7a4 hk.loc hk.inj F a8 σ h15) gX7_copies_J6_bitCount_0f7a4 rfl ⟨rfl, rfl⟩ (by decide +kernel) ⟨Nat.le_of_ble_eq_true rfl, Nat.le_of_ble_eq_true rfl⟩ rfl rfl (Nat.le_of_ble_eq_true rfl) ⟨Nat.le_of_ble_eq_true rfl, Nat.le_of_ble_eq_true rfl⟩ dX7_copies_40 ?_
      show Z K 2 12 43 [(0, .ref (eA (kZ K) a0)), (3, .ref (eA (kZ K) a3)), (4, .ref (eA (kZ K) a4)), (5, .long a5), (7, .int a7), (8, .int a8)] [.int x13] s14
      refine Z_aload_n hk 1 dX7_copies_43 rfl rfl ?_
      refine Z_getN hk in_X7_copies_Graph rfl ha3.cell.1 (ha3.cell.2 _) 0 (by decide) nw_28 rfl dX7_copies_44 ?_
      refine Z_icmp_ne hk (tgt := 92) dX7_copies_47 (by decide) (fun c16 => ?_) (fun c16 => ?_)
      · have h := if_yes h c16
        refine Z_aload_n hk 0 dX7_copies_50 rfl rfl ?_
        refine Z_get hk in_X7_copies_CanonCote rfl ha0.cell.1 (ha0.cell.2 _) 1 (by decide) wd_X7_copies_2 rfl dX7_copies_51 ?_
        refine Z_aload hk 2 dX7_copies_54 rfl ?_
        refine Z_iload hk 5 dX7_copies_56 rfl ?_
        obtain ⟨s18, h19, h⟩ := bv_ok h
        refine Z_callVN 2 hk (C := RX2) [.ref (eA (kZ K) a4), .int a8] (c_X2_becomePart hk.loc hk.inj F (a0 + 14) a4 a8 (ha0.chosen) ha4 s14 h19) gX7_copies_X2_becomePart_n142 nw_45 rfl ⟨rfl, rfl⟩ ⟨wd_X7_copies_3, wd_X7_copies_4, wd_X7_copies_5⟩ (by decide +kernel) ⟨Nat.le_of_ble_eq_true rfl, Nat.le_of_ble_eq_true rfl⟩ (ha0.chosen).cell.1 ((ha0.chosen).cell.2 _) rfl rfl rfl (Nat.le_of_ble_eq_true rfl) ⟨Nat.le_of_ble_eq_true rfl, Nat.le_of_ble_eq_true rfl⟩ dX7_copies_58 ?_
        show Z K 2 12 61 [(0, .ref (eA (kZ K) a0)), (3, .ref (eA (kZ K) a3)), (4, .ref (eA (kZ K) a4)), (5, .long a5), (7, .int a7), (8, .int a8)] [] s18
        refine Z_aload_n hk 0 dX7_copies_61 rfl rfl ?_
        refine Z_get hk in_X7_copies_CanonCote rfl ha0.cell.1 (ha0.cell.2 _) 1 (by decide) wd_X7_copies_2 rfl dX7_copies_62 ?_
        obtain ⟨x20, s21, h22, h⟩ := bd_ok h
        refine Z_callVN 0 hk (C := RX2) [] (c_X2_countEdges hk.loc hk.inj F (a0 + 14) (ha0.chosen) s18 h22) gX7_copies_X2_countEdges_n97 nw_36 rfl ⟨rfl, rfl⟩ ⟨wd_X7_copies_6, wd_X7_copies_7, wd_X7_copies_8⟩ (by decide +kernel) ⟨Nat.le_of_ble_eq_true rfl, Nat.le_of_ble_eq_true rfl⟩ (ha0.chosen).cell.1 ((ha0.chosen).cell.2 _) rfl rfl rfl (Nat.le_of_ble_eq_true rfl) ⟨Nat.le_of_ble_eq_true rfl, Nat.le_of_ble_eq_true rfl⟩ dX7_copies_65 ?_
        show Z K 2 12 68 [(0, .ref (eA (kZ K) a0)), (3, .ref (eA (kZ K) a3)), (4, .ref (eA (kZ K) a4)), (5, .long a5), (7, .int a7), (8, .int a8)] [.int x20] s21
        refine Z_aload_n hk 1 dX7_copies_68 rfl rfl ?_
        obtain ⟨x23, s24, h25, h⟩ := bd_ok h
        refine Z_callVN 0 hk (C := RX2) [] (c_X2_countEdges hk.loc hk.inj F a3 ha3 s21 h25) gX7_copies_X2_countEdges_n97 nw_36 rfl ⟨rfl, rfl⟩ ⟨wd_X7_copies_6, wd_X7_copies_7, wd_X7_copies_8⟩ (by decide +kernel) ⟨Nat.le_of_ble_eq_true rfl, Nat.le_of_ble_eq_true rfl⟩ ha3.cell.1 (ha3.cell.2 _) rfl rfl rfl (Nat.le_of_ble_eq_true rfl) ⟨Nat.le_of_ble_eq_true rfl, Nat.le_of_ble_eq_true rfl⟩ dX7_copies_69 ?_
        show Z K 2 12 72 [(0, .ref (eA (kZ K) a0)), (3, .ref (eA (kZ K) a3)), (4, .ref (eA (kZ K) a4)), (5, .long a5), (7, .int a7), (8, .int a8)] [.int x23, .int x20] s24
        refine Z_icmp_ne hk (tgt := 92) dX7_copies_72 (by decide) (fun c26 => ?_) (fun c26 => ?_)
        · have h := if_yes h c26
          refine Z_aload_n hk 0 dX7_copies_75 rfl rfl ?_
          refine Z_aload_n hk 0 dX7_copies_76 rfl rfl ?_
          refine Z_get hk in_X7_copies_CanonCote rfl ha0.cell.1 (ha0.cell.2 _) 1 (by decide) wd_X7_copies_2 rfl dX7_copies_77 ?_
          obtain ⟨x27, s28, h29, h⟩ := bd_ok h
          refine Z_callV 1 hk [.ref (eA (kZ K) (a0 + 14))] (c_X7_leastCode hk.loc hk.inj F a0 (a0 + 14) ha0 (ha0.chosen) s24 h29) gX7_copies_X7_leastCode rfl ⟨rfl, rfl⟩ (by decide +kernel) ⟨Nat.le_of_ble_eq_true rfl, Nat.le_of_ble_eq_true rfl⟩ ha0.cell.1 (ha0.cell.2 _) rfl rfl rfl (Nat.le_of_ble_eq_true rfl) ⟨Nat.le_of_ble_eq_true rfl, Nat.le_of_ble_eq_true rfl⟩ dX7_copies_80 ?_
          show Z K 2 12 83 [(0, .ref (eA (kZ K) a0)), (3, .ref (eA (kZ K) a3)), (4, .ref (eA (kZ K) a4)), (5, .long a5), (7, .int a7), (8, .int a8)] [.long x27] s28
          refine Z_lload hk 3 dX7_copies_83 rfl ?_
          refine Z_lcmp hk dX7_copies_85 ?_
          refine Z_if_ne hk (tgt := 92) dX7_copies_86 (by decide) (fun c30 => ?_) (fun c30 => ?_)
          · have h := if_yes h c30
            obtain ⟨x31, e32, h⟩ := nm_get h
            refine Z_iinc hk 4 (v := x31) (lv' := [(7, .int x31), (0, .ref (eA (kZ K) a0)), (3, .ref (eA (kZ K) a3)), (4, .ref (eA (kZ K) a4)), (5, .long a5), (8, .int a8)]) dX7_copies_89 rfl (by rw [zc_iinc_1]; exact e32) (by decide) rfl ?_
            refine Z_sub [1, 2, 3, 4, 0, 5] rfl ?_
            exact w_X7_copies_92 hk hfl hnx hq F (m_X7_copies_26 F n) ih a0 a3 a4 a5 x31 a8 ha0 ha3 ha4 s28 h
          · have h := if_no h c30
            refine Z_sub [0, 1, 2, 3, 4, 5] rfl ?_
            exact w_X7_copies_92 hk hfl hnx hq F (m_X7_copies_26 F n) ih a0 a3 a4 a5 a7 a8 ha0 ha3 ha4 s28 h
        · have h := if_no h c26
          refine Z_sub [0, 1, 2, 3, 4, 5] rfl ?_
          exact w_X7_copies_92 hk hfl hnx hq F (m_X7_copies_26 F n) ih a0 a3 a4 a5 a7 a8 ha0 ha3 ha4 s24 h
      · have h := if_no h c16
        refine Z_sub [0, 1, 2, 3, 4, 5] rfl ?_
        exact w_X7_copies_92 hk hfl hnx hq F (m_X7_copies_26 F n) ih a0 a3 a4 a5 a7 a8 ha0 ha3 ha4 s14 h
set_option maxRecDepth 100000 in
set_option maxHeartbeats 4000000 in
theorem w_X7_copies {K : zK} (hk : zIs K RX7 cX7_copies 9 wsX7_copies (some .int) r_X7_copies) (hfl : (kL K).stackTraces = false) (hnx : zNX K) {r0 : zX Int32} {τ0 : zST} (hq : zQX K (zrI r0) τ0) (F : Nat) (a0 : Nat) (a1 : Int32) (a2 : Int32) (ha0 : atCanonCote (kZ K) a0) (σ : zST) (h : m_X7_copies F a0 a1 a2 σ = some (r0, τ0)) : Z K 0 0 0 [(0, .ref (eA (kZ K) a0)), (1, .int a1), (2, .int a2)] [] σ := by
  unfold m_X7_copies at h
  refine Z_aload_n hk 0 dX7_copies_0 rfl rfl ?_
  refine Z_iload_n hk 1 dX7_copies_1 rfl rfl ?_
  rcases bx_ok h with ⟨e4, s2, h3, h⟩ | ⟨x1, s2, h3, h⟩
  · cases h
    exact ZX_callV 1 hk [.int a1] (c_X7_graphAt hk.loc hk.inj hfl F a0 a1 ha0 σ h3) gX7_copies_X7_graphAt rfl ⟨rfl, by decide +kernel, by decide +kernel, by decide +kernel⟩ ⟨Nat.le_of_ble_eq_true rfl, Nat.le_of_ble_eq_true rfl⟩ ha0.cell.1 (ha0.cell.2 _) rfl rfl rfl (Nat.le_of_ble_eq_true rfl) ⟨Nat.le_of_ble_eq_true rfl, Nat.le_of_ble_eq_true rfl⟩ dX7_copies_2 (fun X hX => by cases hX; exact Y_out hk hnx hq ⟨Nat.le_of_ble_eq_true rfl, Nat.le_of_ble_eq_true rfl⟩) (fun v hv => by cases hv)
  · refine ZX_callV 1 hk [.int a1] (c_X7_graphAt hk.loc hk.inj hfl F a0 a1 ha0 σ h3) gX7_copies_X7_graphAt rfl ⟨rfl, by decide +kernel, by decide +kernel, by decide +kernel⟩ ⟨Nat.le_of_ble_eq_true rfl, Nat.le_of_ble_eq_true rfl⟩ ha0.cell.1 (ha0.cell.2 _) rfl rfl rfl (Nat.le_of_ble_eq_true rfl) ⟨Nat.le_of_ble_eq_true rfl, Nat.le_of_ble_eq_true rfl⟩ dX7_copies_2 (fun X hX => by cases hX) (fun v hv => ?_)
    cases hv
    show Z K 1 6 5 [(0, .ref (eA (kZ K) a0)), (1, .int a1), (2, .int a2)] [.ref (eA (kZ K) x1)] s2
    refine Z_astore_n hk (lv' := [(3, .ref (eA (kZ K) x1)), (0, .ref (eA (kZ K) a0)), (1, .int a1), (2, .int a2)]) dX7_copies_5 rfl (by decide) rfl ?_
    refine Z_aload_n hk 1 dX7_copies_6 rfl rfl ?_
    refine Z_iload_n hk 3 dX7_copies_7 rfl rfl ?_
    rcases bx_ok h with ⟨e8, s6, h7, h⟩ | ⟨x5, s6, h7, h⟩
    · cases h
      exact ZX_callV 1 hk [.int a2] (c_X7_graphAt hk.loc hk.inj hfl F a0 a2 ha0 s2 h7) gX7_copies_X7_graphAt rfl ⟨rfl, by decide +kernel, by decide +kernel, by decide +kernel⟩ ⟨Nat.le_of_ble_eq_true rfl, Nat.le_of_ble_eq_true rfl⟩ ha0.cell.1 (ha0.cell.2 _) rfl rfl rfl (Nat.le_of_ble_eq_true rfl) ⟨Nat.le_of_ble_eq_true rfl, Nat.le_of_ble_eq_true rfl⟩ dX7_copies_8 (fun X hX => by cases hX; exact Y_out hk hnx hq ⟨Nat.le_of_ble_eq_true rfl, Nat.le_of_ble_eq_true rfl⟩) (fun v hv => by cases hv)
    · refine ZX_callV 1 hk [.int a2] (c_X7_graphAt hk.loc hk.inj hfl F a0 a2 ha0 s2 h7) gX7_copies_X7_graphAt rfl ⟨rfl, by decide +kernel, by decide +kernel, by decide +kernel⟩ ⟨Nat.le_of_ble_eq_true rfl, Nat.le_of_ble_eq_true rfl⟩ ha0.cell.1 (ha0.cell.2 _) rfl rfl rfl (Nat.le_of_ble_eq_true rfl) ⟨Nat.le_of_ble_eq_true rfl, Nat.le_of_ble_eq_true rfl⟩ dX7_copies_8 (fun X hX => by cases hX) (fun v hv => ?_)
      cases hv
      show Z K 2 12 11 [(3, .ref (eA (kZ K) x1)), (0, .ref (eA (kZ K) a0)), (1, .int a1), (2, .int a2)] [.ref (eA (kZ K) x5)] s6
      refine Z_astore hk (lv' := [(4, .ref (eA (kZ K) x5)), (3, .ref (eA (kZ K) x1)), (0, .ref (eA (kZ K) a0)), (1, .int a1), (2, .int a2)]) dX7_copies_11 (by decide) rfl ?_
      refine Z_aload_n hk 2 dX7_copies_13 rfl rfl ?_
      refine Z_aload_n hk 1 dX7_copies_14 rfl rfl ?_
      obtain ⟨x9, s10, h11, h⟩ := bd_ok h
      refine Z_callV 1 hk [.ref (eA (kZ K) x1)] (c_X7_leastCode hk.loc hk.inj F a0 x1 ha0 (graphAt_at ha0 h3) s6 h11) gX7_copies_X7_leastCode rfl ⟨rfl, rfl⟩ (by decide +kernel) ⟨Nat.le_of_ble_eq_true rfl, Nat.le_of_ble_eq_true rfl⟩ ha0.cell.1 (ha0.cell.2 _) rfl rfl rfl (Nat.le_of_ble_eq_true rfl) ⟨Nat.le_of_ble_eq_true rfl, Nat.le_of_ble_eq_true rfl⟩ dX7_copies_15 ?_
      show Z K 2 12 18 [(4, .ref (eA (kZ K) x5)), (3, .ref (eA (kZ K) x1)), (0, .ref (eA (kZ K) a0)), (1, .int a1), (2, .int a2)] [.long x9] s10
      refine Z_lstore hk (lv' := [(5, .long x9), (4, .ref (eA (kZ K) x5)), (3, .ref (eA (kZ K) x1)), (0, .ref (eA (kZ K) a0)), (1, .int a1), (2, .int a2)]) dX7_copies_18 (by decide) rfl ?_
      refine Z_iconst hk dX7_copies_20 zc_iconst_0 ?_
      refine Z_istore hk (lv' := [(7, .int 0), (5, .long x9), (4, .ref (eA (kZ K) x5)), (3, .ref (eA (kZ K) x1)), (0, .ref (eA (kZ K) a0)), (1, .int a1), (2, .int a2)]) dX7_copies_21 (by decide) rfl ?_
      refine Z_iconst hk dX7_copies_23 zc_iconst_1 ?_
      refine Z_istore hk (lv' := [(8, .int 1), (7, .int 0), (5, .long x9), (4, .ref (eA (kZ K) x5)), (3, .ref (eA (kZ K) x1)), (0, .ref (eA (kZ K) a0)), (1, .int a1), (2, .int a2)]) dX7_copies_24 (by decide) rfl ?_
      refine Z_sub [5, 4, 3, 2, 1, 0] rfl ?_
      exact w_X7_copies_26 hk hfl hnx hq F F a0 x1 x5 x9 0 1 ha0 (graphAt_at ha0 h3) (graphAt_at ha0 h7) s10 h
theorem c_X7_copies {l : Launch} {E : zE} (hL : eL E) (hJ : eJ E) (hfl : l.stackTraces = false) (F : Nat) (a0 : Nat) (a1 : Int32) (a2 : Int32) (ha0 : atCanonCote E a0) (σ : zST) {r0 : zX Int32} {τ0 : zST} (h : m_X7_copies F a0 a1 a2 σ = some (r0, τ0)) : CtX l yX7_copies wsX7_copies r_X7_copies E [.ref (eA E a0), .int a1, .int a2] σ (zrI r0) τ0 := by
  refine CtX_of (by decide) rfl hL hJ (Nat.le_of_ble_eq_true rfl) (fun K hE hl hk htb hq => ?_)
  subst hE
  subst hl
  exact w_X7_copies hk hfl htb hq F a0 a1 a2 ha0 σ h
end

-- CanonCote.symmetries (I)I
section
theorem dX7_symmetries_0 : decode cX7_symmetries 0 = .ok (.aload_n 0, 1) := by decide +kernel
theorem dX7_symmetries_1 : decode cX7_symmetries 1 = .ok (.iload_n 1, 1) := by decide +kernel
theorem dX7_symmetries_2 : decode cX7_symmetries 2 = .ok (.invokevirtual 48, 3) := by decide +kernel
theorem dX7_symmetries_5 : decode cX7_symmetries 5 = .ok (.astore_n 2, 1) := by decide +kernel
theorem dX7_symmetries_6 : decode cX7_symmetries 6 = .ok (.aload_n 0, 1) := by decide +kernel
theorem dX7_symmetries_7 : decode cX7_symmetries 7 = .ok (.getfield 30, 3) := by decide +kernel
theorem dX7_symmetries_10 : decode cX7_symmetries 10 = .ok (.aload_n 2, 1) := by decide +kernel
theorem dX7_symmetries_11 : decode cX7_symmetries 11 = .ok (.invokevirtual 120, 3) := by decide +kernel
theorem dX7_symmetries_14 : decode cX7_symmetries 14 = .ok (.aload_n 0, 1) := by decide +kernel
theorem dX7_symmetries_15 : decode cX7_symmetries 15 = .ok (.getfield 30, 3) := by decide +kernel
theorem dX7_symmetries_18 : decode cX7_symmetries 18 = .ok (.aload_n 2, 1) := by decide +kernel
theorem dX7_symmetries_19 : decode cX7_symmetries 19 = .ok (.getfield 59, 3) := by decide +kernel
theorem dX7_symmetries_22 : decode cX7_symmetries 22 = .ok (.invokevirtual 145, 3) := by decide +kernel
theorem dX7_symmetries_25 : decode cX7_symmetries 25 = .ok (.ireturn, 1) := by decide +kernel
set_option maxRecDepth 20000 in
theorem ggX7_symmetries_X7_graphAt : GoodIn wsX7_symmetries wsX7_graphAt := goodIn_ca (goodIn_r _ [6, 7, 8, 9, 72, 73, 74, 75, 76, 77] (by decide +kernel) (by decide +kernel)) (goodIn_sub (fun _ h => List.mem_cons_of_mem _ (List.mem_append_right _ h)) (by decide +kernel))
set_option maxRecDepth 20000 in
theorem gX7_symmetries_X7_graphAt : GoodIn wsX7_symmetries (wsV RX7 48 RX7 yX7_graphAt wsX7_graphAt) := goodIn_app (goodIn_of _ (by decide +kernel)) ggX7_symmetries_X7_graphAt
set_option maxRecDepth 20000 in
theorem ggX7_symmetries_X0_search : GoodIn wsX7_symmetries wsX0_search := goodIn_r _ [13, 14, 15, 16, 17, 18, 11, 19, 20, 21, 22, 23, 24, 25, 26, 27, 28, 29, 30, 31, 32, 33, 34, 35, 36, 37, 38, 39, 40, 41, 42, 43, 44, 45, 46, 47, 48, 49, 50, 51, 52, 53, 54, 55, 56, 57, 58, 59, 60, 61, 62, 63, 5, 64, 65, 66, 67, 68, 81, 82, 83, 84, 85, 86, 87, 78, 79, 80] (by decide +kernel) (by decide +kernel)
set_option maxRecDepth 20000 in
theorem gX7_symmetries_X0_search_n120 : GoodIn wsX7_symmetries (wsX0_search) := ggX7_symmetries_X0_search
set_option maxRecDepth 20000 in
theorem ggX7_symmetries_X0_countBest : GoodIn wsX7_symmetries wsX0_countBest := goodIn_r _ [71, 50, 20, 63, 5, 64, 32, 33, 34, 35, 36, 37, 38, 81, 82, 83, 84, 85, 86, 87] (by decide +kernel) (by decide +kernel)
set_option maxRecDepth 20000 in
theorem gX7_symmetries_X0_countBest_n145 : GoodIn wsX7_symmetries (wsX0_countBest) := ggX7_symmetries_X0_countBest
theorem in_X7_symmetries_CanonCote : ∀ w ∈ u_ws RX7 TX7 6, w ∈ wsX7_symmetries := by decide +kernel
theorem wd_X7_symmetries_1 : Cond.fieldLink RX7 30 (TX7 3).1 (TX7 3).2.1 (TX7 3).2.2.1 ∈ wsX7_symmetries := by decide +kernel
theorem wd_X7_symmetries_2 : Cond.initialized yX0_search.cls ∈ wsX7_symmetries := by decide +kernel
theorem wd_X7_symmetries_3 : Cond.instanceMethod yX0_search ∈ wsX7_symmetries := by decide +kernel
theorem wd_X7_symmetries_4 : Cond.selects RX0 yX0_search yX0_search ∈ wsX7_symmetries := by decide +kernel
theorem in_X7_symmetries_Graph : ∀ w ∈ u_ws RX2 TX2 3, w ∈ wsX7_symmetries := by decide +kernel
theorem wd_X7_symmetries_6 : Cond.initialized yX0_countBest.cls ∈ wsX7_symmetries := by decide +kernel
theorem wd_X7_symmetries_7 : Cond.instanceMethod yX0_countBest ∈ wsX7_symmetries := by decide +kernel
theorem wd_X7_symmetries_8 : Cond.selects RX0 yX0_countBest yX0_countBest ∈ wsX7_symmetries := by decide +kernel
def r_X7_symmetries : Room := { frames := 14, cells := 1, slots := 6, locals := 353 }
set_option maxRecDepth 100000 in
set_option maxHeartbeats 4000000 in
theorem w_X7_symmetries {K : zK} (hk : zIs K RX7 cX7_symmetries 3 wsX7_symmetries (some .int) r_X7_symmetries) (hfl : (kL K).stackTraces = false) (hnx : zNX K) {r0 : zX Int32} {τ0 : zST} (hq : zQX K (zrI r0) τ0) (F : Nat) (a0 : Nat) (a1 : Int32) (ha0 : atCanonCote (kZ K) a0) (σ : zST) (h : m_X7_symmetries F a0 a1 σ = some (r0, τ0)) : Z K 0 0 0 [(0, .ref (eA (kZ K) a0)), (1, .int a1)] [] σ := by
  unfold m_X7_symmetries at h
  refine Z_aload_n hk 0 dX7_symmetries_0 rfl rfl ?_
  refine Z_iload_n hk 1 dX7_symmetries_1 rfl rfl ?_
  rcases bx_ok h with ⟨e4, s2, h3, h⟩ | ⟨x1, s2, h3, h⟩
  · cases h
    exact ZX_callV 1 hk [.int a1] (c_X7_graphAt hk.loc hk.inj hfl F a0 a1 ha0 σ h3) gX7_symmetries_X7_graphAt rfl ⟨rfl, by decide +kernel, by decide +kernel, by decide +kernel⟩ ⟨Nat.le_of_ble_eq_true rfl, Nat.le_of_ble_eq_true rfl⟩ ha0.cell.1 (ha0.cell.2 _) rfl rfl rfl (Nat.le_of_ble_eq_true rfl) ⟨Nat.le_of_ble_eq_true rfl, Nat.le_of_ble_eq_true rfl⟩ dX7_symmetries_2 (fun X hX => by cases hX; exact Y_out hk hnx hq ⟨Nat.le_of_ble_eq_true rfl, Nat.le_of_ble_eq_true rfl⟩) (fun v hv => by cases hv)
  · refine ZX_callV 1 hk [.int a1] (c_X7_graphAt hk.loc hk.inj hfl F a0 a1 ha0 σ h3) gX7_symmetries_X7_graphAt rfl ⟨rfl, by decide +kernel, by decide +kernel, by decide +kernel⟩ ⟨Nat.le_of_ble_eq_true rfl, Nat.le_of_ble_eq_true rfl⟩ ha0.cell.1 (ha0.cell.2 _) rfl rfl rfl (Nat.le_of_ble_eq_true rfl) ⟨Nat.le_of_ble_eq_true rfl, Nat.le_of_ble_eq_true rfl⟩ dX7_symmetries_2 (fun X hX => by cases hX) (fun v hv => ?_)
    cases hv
    show Z K 1 6 5 [(0, .ref (eA (kZ K) a0)), (1, .int a1)] [.ref (eA (kZ K) x1)] s2
    refine Z_astore_n hk (lv' := [(2, .ref (eA (kZ K) x1)), (0, .ref (eA (kZ K) a0)), (1, .int a1)]) dX7_symmetries_5 rfl (by decide) rfl ?_
    refine Z_aload_n hk 1 dX7_symmetries_6 rfl rfl ?_
    refine Z_get hk in_X7_symmetries_CanonCote rfl ha0.cell.1 (ha0.cell.2 _) 3 (by decide) wd_X7_symmetries_1 rfl dX7_symmetries_7 ?_
    refine Z_aload_n hk 0 dX7_symmetries_10 rfl rfl ?_
    obtain ⟨s6, h7, h⟩ := bv_ok h
    refine Z_callVN 1 hk (C := RX0) [.ref (eA (kZ K) x1)] (c_X0_search hk.loc hk.inj F (a0 + 21) x1 (ha0.arranging) (graphAt_at ha0 h3) s2 h7) gX7_symmetries_X0_search_n120 nw_26 rfl ⟨rfl, rfl⟩ ⟨wd_X7_symmetries_2, wd_X7_symmetries_3, wd_X7_symmetries_4⟩ (by decide +kernel) ⟨Nat.le_of_ble_eq_true rfl, Nat.le_of_ble_eq_true rfl⟩ (ha0.arranging).cell.1 ((ha0.arranging).cell.2 _) rfl rfl rfl (Nat.le_of_ble_eq_true rfl) ⟨Nat.le_of_ble_eq_true rfl, Nat.le_of_ble_eq_true rfl⟩ dX7_symmetries_11 ?_
    show Z K 1 6 14 [(2, .ref (eA (kZ K) x1)), (0, .ref (eA (kZ K) a0)), (1, .int a1)] [] s6
    refine Z_aload_n hk 1 dX7_symmetries_14 rfl rfl ?_
    refine Z_get hk in_X7_symmetries_CanonCote rfl ha0.cell.1 (ha0.cell.2 _) 3 (by decide) wd_X7_symmetries_1 rfl dX7_symmetries_15 ?_
    refine Z_aload_n hk 0 dX7_symmetries_18 rfl rfl ?_
    refine Z_getN hk in_X7_symmetries_Graph rfl (graphAt_at ha0 h3).cell.1 ((graphAt_at ha0 h3).cell.2 _) 0 (by decide) nw_28 rfl dX7_symmetries_19 ?_
    obtain ⟨x8, s9, h10, h⟩ := bd_ok h
    refine Z_callVN 1 hk (C := RX0) [.int (gI s6 x1 0)] (c_X0_countBest hk.loc hk.inj F (a0 + 21) (gI s6 x1 0) (ha0.arranging) s6 h10) gX7_symmetries_X0_countBest_n145 nw_46 rfl ⟨rfl, rfl⟩ ⟨wd_X7_symmetries_6, wd_X7_symmetries_7, wd_X7_symmetries_8⟩ (by decide +kernel) ⟨Nat.le_of_ble_eq_true rfl, Nat.le_of_ble_eq_true rfl⟩ (ha0.arranging).cell.1 ((ha0.arranging).cell.2 _) rfl rfl rfl (Nat.le_of_ble_eq_true rfl) ⟨Nat.le_of_ble_eq_true rfl, Nat.le_of_ble_eq_true rfl⟩ dX7_symmetries_22 ?_
    show Z K 1 6 25 [(2, .ref (eA (kZ K) x1)), (0, .ref (eA (kZ K) a0)), (1, .int a1)] [.int x8] s9
    cases h
    exact ZX_iret hk hq ⟨Nat.le_of_ble_eq_true rfl, Nat.le_of_ble_eq_true rfl⟩ dX7_symmetries_25
theorem c_X7_symmetries {l : Launch} {E : zE} (hL : eL E) (hJ : eJ E) (hfl : l.stackTraces = false) (F : Nat) (a0 : Nat) (a1 : Int32) (ha0 : atCanonCote E a0) (σ : zST) {r0 : zX Int32} {τ0 : zST} (h : m_X7_symmetries F a0 a1 σ = some (r0, τ0)) : CtX l yX7_symmetries wsX7_symmetries r_X7_symmetries E [.ref (eA E a0), .int a1] σ (zrI r0) τ0 := by
  refine CtX_of (by decide) rfl hL hJ (Nat.le_of_ble_eq_true rfl) (fun K hE hl hk htb hq => ?_)
  subst hE
  subst hl
  exact w_X7_symmetries hk hfl htb hq F a0 a1 ha0 σ h
end

-- CanonCote.orbits (I)I
section
theorem dX7_orbits_0 : decode cX7_orbits 0 = .ok (.aload_n 0, 1) := by decide +kernel
theorem dX7_orbits_1 : decode cX7_orbits 1 = .ok (.iload_n 1, 1) := by decide +kernel
theorem dX7_orbits_2 : decode cX7_orbits 2 = .ok (.invokevirtual 48, 3) := by decide +kernel
theorem dX7_orbits_5 : decode cX7_orbits 5 = .ok (.astore_n 2, 1) := by decide +kernel
theorem dX7_orbits_6 : decode cX7_orbits 6 = .ok (.aload_n 0, 1) := by decide +kernel
theorem dX7_orbits_7 : decode cX7_orbits 7 = .ok (.getfield 30, 3) := by decide +kernel
theorem dX7_orbits_10 : decode cX7_orbits 10 = .ok (.aload_n 2, 1) := by decide +kernel
theorem dX7_orbits_11 : decode cX7_orbits 11 = .ok (.invokevirtual 120, 3) := by decide +kernel
theorem dX7_orbits_14 : decode cX7_orbits 14 = .ok (.iconst 0, 1) := by decide +kernel
theorem dX7_orbits_15 : decode cX7_orbits 15 = .ok (.istore_n 3, 1) := by decide +kernel
theorem dX7_orbits_16 : decode cX7_orbits 16 = .ok (.iconst 0, 1) := by decide +kernel
theorem dX7_orbits_17 : decode cX7_orbits 17 = .ok (.istore 4, 2) := by decide +kernel
theorem dX7_orbits_19 : decode cX7_orbits 19 = .ok (.iload 4, 2) := by decide +kernel
theorem dX7_orbits_21 : decode cX7_orbits 21 = .ok (.aload_n 2, 1) := by decide +kernel
theorem dX7_orbits_22 : decode cX7_orbits 22 = .ok (.getfield 59, 3) := by decide +kernel
theorem dX7_orbits_25 : decode cX7_orbits 25 = .ok (.if_icmp .ge 30, 3) := by decide +kernel
theorem dX7_orbits_28 : decode cX7_orbits 28 = .ok (.aload_n 0, 1) := by decide +kernel
theorem dX7_orbits_29 : decode cX7_orbits 29 = .ok (.getfield 30, 3) := by decide +kernel
theorem dX7_orbits_32 : decode cX7_orbits 32 = .ok (.iload 4, 2) := by decide +kernel
theorem dX7_orbits_34 : decode cX7_orbits 34 = .ok (.invokevirtual 148, 3) := by decide +kernel
theorem dX7_orbits_37 : decode cX7_orbits 37 = .ok (.iload 4, 2) := by decide +kernel
theorem dX7_orbits_39 : decode cX7_orbits 39 = .ok (.invokestatic 151, 3) := by decide +kernel
theorem dX7_orbits_42 : decode cX7_orbits 42 = .ok (.iand, 1) := by decide +kernel
theorem dX7_orbits_43 : decode cX7_orbits 43 = .ok (.ifCond .ne 6, 3) := by decide +kernel
theorem dX7_orbits_46 : decode cX7_orbits 46 = .ok (.iinc 3 1, 3) := by decide +kernel
theorem dX7_orbits_49 : decode cX7_orbits 49 = .ok (.iinc 4 1, 3) := by decide +kernel
theorem dX7_orbits_52 : decode cX7_orbits 52 = .ok (.goto (-33), 3) := by decide +kernel
theorem dX7_orbits_55 : decode cX7_orbits 55 = .ok (.iload_n 3, 1) := by decide +kernel
theorem dX7_orbits_56 : decode cX7_orbits 56 = .ok (.ireturn, 1) := by decide +kernel
set_option maxRecDepth 20000 in
theorem ggX7_orbits_X7_graphAt : GoodIn wsX7_orbits wsX7_graphAt := goodIn_ca (goodIn_r _ [6, 7, 8, 9, 77, 78, 79, 80, 81, 82] (by decide +kernel) (by decide +kernel)) (goodIn_sub (fun _ h => List.mem_cons_of_mem _ (List.mem_append_right _ h)) (by decide +kernel))
set_option maxRecDepth 20000 in
theorem gX7_orbits_X7_graphAt : GoodIn wsX7_orbits (wsV RX7 48 RX7 yX7_graphAt wsX7_graphAt) := goodIn_app (goodIn_of _ (by decide +kernel)) ggX7_orbits_X7_graphAt
set_option maxRecDepth 20000 in
theorem ggX7_orbits_X0_search : GoodIn wsX7_orbits wsX0_search := goodIn_r _ [13, 14, 15, 16, 17, 18, 11, 19, 20, 21, 22, 23, 24, 25, 26, 27, 28, 29, 30, 31, 32, 33, 34, 35, 36, 37, 38, 39, 40, 41, 42, 43, 44, 45, 46, 47, 48, 49, 50, 51, 52, 53, 54, 55, 56, 57, 58, 59, 60, 61, 62, 63, 5, 64, 65, 66, 67, 68, 86, 87, 88, 89, 90, 91, 92, 83, 84, 85] (by decide +kernel) (by decide +kernel)
set_option maxRecDepth 20000 in
theorem gX7_orbits_X0_search_n120 : GoodIn wsX7_orbits (wsX0_search) := ggX7_orbits_X0_search
set_option maxRecDepth 20000 in
theorem ggX7_orbits_X0_exchangeable : GoodIn wsX7_orbits wsX0_exchangeable := goodIn_r _ [71, 51, 72, 73, 74, 11, 75, 49, 60, 61, 62, 86, 87, 88, 89, 90, 91, 92] (by decide +kernel) (by decide +kernel)
set_option maxRecDepth 20000 in
theorem gX7_orbits_X0_exchangeable_n148 : GoodIn wsX7_orbits (wsX0_exchangeable) := ggX7_orbits_X0_exchangeable
set_option maxRecDepth 20000 in
theorem ggX7_orbits_X7_below : GoodIn wsX7_orbits wsX7_below := goodIn_r _ [64] (by decide +kernel) (by decide +kernel)
set_option maxRecDepth 20000 in
theorem gX7_orbits_X7_below : GoodIn wsX7_orbits (va_wsS RX7 151 yX7_below wsX7_below) := goodIn_app (goodIn_of _ (by decide +kernel)) ggX7_orbits_X7_below
theorem in_X7_orbits_CanonCote : ∀ w ∈ u_ws RX7 TX7 6, w ∈ wsX7_orbits := by decide +kernel
theorem wd_X7_orbits_1 : Cond.fieldLink RX7 30 (TX7 3).1 (TX7 3).2.1 (TX7 3).2.2.1 ∈ wsX7_orbits := by decide +kernel
theorem wd_X7_orbits_2 : Cond.initialized yX0_search.cls ∈ wsX7_orbits := by decide +kernel
theorem wd_X7_orbits_3 : Cond.instanceMethod yX0_search ∈ wsX7_orbits := by decide +kernel
theorem wd_X7_orbits_4 : Cond.selects RX0 yX0_search yX0_search ∈ wsX7_orbits := by decide +kernel
theorem in_X7_orbits_Graph : ∀ w ∈ u_ws RX2 TX2 3, w ∈ wsX7_orbits := by decide +kernel
theorem wd_X7_orbits_6 : Cond.initialized yX0_exchangeable.cls ∈ wsX7_orbits := by decide +kernel
theorem wd_X7_orbits_7 : Cond.instanceMethod yX0_exchangeable ∈ wsX7_orbits := by decide +kernel
theorem wd_X7_orbits_8 : Cond.selects RX0 yX0_exchangeable yX0_exchangeable ∈ wsX7_orbits := by decide +kernel
def r_X7_orbits : Room := { frames := 14, cells := 1, slots := 6, locals := 353 }
set_option maxRecDepth 100000 in
set_option maxHeartbeats 4000000 in
theorem w_X7_orbits_49 {K : zK} (hk : zIs K RX7 cX7_orbits 5 wsX7_orbits (some .int) r_X7_orbits) (hfl : (kL K).stackTraces = false) (hnx : zNX K) {r0 : zX Int32} {τ0 : zST} (hq : zQX K (zrI r0) τ0) (F : Nat) (k19 : Nat → Nat → Int32 → Int32 → zST → Option (zX Int32 × zST)) (hk19 : ∀ (a0 : Nat) (a2 : Nat) (a3 : Int32) (a4 : Int32) (ha0 : atCanonCote (kZ K) a0) (ha2 : atGraph (kZ K) a2) (σ : zST), k19 a0 a2 a3 a4 σ = some (r0, τ0) → Z K 1 6 19 [(0, .ref (eA (kZ K) a0)), (2, .ref (eA (kZ K) a2)), (3, .int a3), (4, .int a4)] [] σ) (a0 : Nat) (a2 : Nat) (a3 : Int32) (a4 : Int32) (ha0 : atCanonCote (kZ K) a0) (ha2 : atGraph (kZ K) a2) (σ : zST) (h : m_X7_orbits_49 F k19 a0 a2 a3 a4 σ = some (r0, τ0)) : Z K 1 6 49 [(0, .ref (eA (kZ K) a0)), (2, .ref (eA (kZ K) a2)), (3, .int a3), (4, .int a4)] [] σ := by
  unfold m_X7_orbits_49 at h
  obtain ⟨x18, e19, h⟩ := nm_get h
  refine Z_iinc hk 3 (v := x18) (lv' := [(4, .int x18), (0, .ref (eA (kZ K) a0)), (2, .ref (eA (kZ K) a2)), (3, .int a3)]) dX7_orbits_49 rfl (by rw [zc_iinc_1]; exact e19) (by decide) rfl ?_
  refine Z_goto hk (tgt := 19) dX7_orbits_52 (by decide) ?_
  refine Z_sub [1, 2, 3, 0] rfl ?_
  exact hk19 a0 a2 a3 x18 ha0 ha2 σ h
set_option maxRecDepth 100000 in
set_option maxHeartbeats 4000000 in
theorem w_X7_orbits_19 {K : zK} (hk : zIs K RX7 cX7_orbits 5 wsX7_orbits (some .int) r_X7_orbits) (hfl : (kL K).stackTraces = false) (hnx : zNX K) {r0 : zX Int32} {τ0 : zST} (hq : zQX K (zrI r0) τ0) (F : Nat) : ∀ (n : Nat) (a0 : Nat) (a2 : Nat) (a3 : Int32) (a4 : Int32) (ha0 : atCanonCote (kZ K) a0) (ha2 : atGraph (kZ K) a2) (σ : zST), m_X7_orbits_19 F n a0 a2 a3 a4 σ = some (r0, τ0) → Z K 1 6 19 [(0, .ref (eA (kZ K) a0)), (2, .ref (eA (kZ K) a2)), (3, .int a3), (4, .int a4)] [] σ := by
  intro n
  induction n with
  | zero => intro a0 a2 a3 a4 ha0 ha2 σ h; cases h
  | succ n ih =>
    intro a0 a2 a3 a4 ha0 ha2 σ h
    rw [m_X7_orbits_19] at h
    refine Z_iload hk 3 dX7_orbits_19 rfl ?_
    refine Z_aload_n hk 1 dX7_orbits_21 rfl rfl ?_
    refine Z_getN hk in_X7_orbits_Graph rfl ha2.cell.1 (ha2.cell.2 _) 0 (by decide) nw_28 rfl dX7_orbits_22 ?_
    refine Z_icmp_ge hk (tgt := 55) dX7_orbits_25 (by decide) (fun c8 => ?_) (fun c8 => ?_)
    · have h := if_yes h c8
      refine Z_iload_n hk 2 dX7_orbits_55 rfl rfl ?_
      cases h
      exact ZX_iret hk hq ⟨Nat.le_of_ble_eq_true rfl, Nat.le_of_ble_eq_true rfl⟩ dX7_orbits_56
    · have h := if_no h c8
      refine Z_aload_n hk 0 dX7_orbits_28 rfl rfl ?_
      refine Z_get hk in_X7_orbits_CanonCote rfl ha0.cell.1 (ha0.cell.2 _) 3 (by decide) wd_X7_orbits_1 rfl dX7_orbits_29 ?_
      refine Z_iload hk 3 dX7_orbits_32 rfl ?_
      obtain ⟨x9, s10, h11, h⟩ := bd_ok h
      refine Z_callVN 1 hk (C := RX0) [.int a4] (c_X0_exchangeable hk.loc hk.inj F (a0 + 21) a4 (ha0.arranging) σ h11) gX7_orbits_X0_exchangeable_n148 nw_47 rfl ⟨rfl, rfl⟩ ⟨wd_X7_orbits_6, wd_X7_orbits_7, wd_X7_orbits_8⟩ (by decide +kernel) ⟨Nat.le_of_ble_eq_true rfl, Nat.le_of_ble_eq_true rfl⟩ (ha0.arranging).cell.1 ((ha0.arranging).cell.2 _) rfl rfl rfl (Nat.le_of_ble_eq_true rfl) ⟨Nat.le_of_ble_eq_true rfl, Nat.le_of_ble_eq_true rfl⟩ dX7_orbits_34 ?_
      show Z K 1 6 37 [(0, .ref (eA (kZ K) a0)), (2, .ref (eA (kZ K) a2)), (3, .int a3), (4, .int a4)] [.int x9] s10
      refine Z_iload hk 3 dX7_orbits_37 rfl ?_
      obtain ⟨x12, s13, h14, h⟩ := bd_ok h
      refine Z_callT 1 hk [.int a4] (c_X7_below hk.loc hk.inj F a4 s10 h14) gX7_orbits_X7_below rfl ⟨rfl, rfl⟩ (by decide +kernel) ⟨Nat.le_of_ble_eq_true rfl, Nat.le_of_ble_eq_true rfl⟩ rfl rfl (Nat.le_of_ble_eq_true rfl) ⟨Nat.le_of_ble_eq_true rfl, Nat.le_of_ble_eq_true rfl⟩ dX7_orbits_39 ?_
      show Z K 1 6 42 [(0, .ref (eA (kZ K) a0)), (2, .ref (eA (kZ K) a2)), (3, .int a3), (4, .int a4)] [.int x12, .int x9] s13
      refine Z_iand hk dX7_orbits_42 ?_
      refine Z_if_ne hk (tgt := 49) dX7_orbits_43 (by decide) (fun c15 => ?_) (fun c15 => ?_)
      · have h := if_yes h c15
        obtain ⟨x16, e17, h⟩ := nm_get h
        refine Z_iinc hk 2 (v := x16) (lv' := [(3, .int x16), (0, .ref (eA (kZ K) a0)), (2, .ref (eA (kZ K) a2)), (4, .int a4)]) dX7_orbits_46 rfl (by rw [zc_iinc_1]; exact e17) (by decide) rfl ?_
        refine Z_sub [1, 2, 0, 3] rfl ?_
        exact w_X7_orbits_49 hk hfl hnx hq F (m_X7_orbits_19 F n) ih a0 a2 x16 a4 ha0 ha2 s13 h
      · have h := if_no h c15
        refine Z_sub [0, 1, 2, 3] rfl ?_
        exact w_X7_orbits_49 hk hfl hnx hq F (m_X7_orbits_19 F n) ih a0 a2 a3 a4 ha0 ha2 s13 h
set_option maxRecDepth 100000 in
set_option maxHeartbeats 4000000 in
theorem w_X7_orbits {K : zK} (hk : zIs K RX7 cX7_orbits 5 wsX7_orbits (some .int) r_X7_orbits) (hfl : (kL K).stackTraces = false) (hnx : zNX K) {r0 : zX Int32} {τ0 : zST} (hq : zQX K (zrI r0) τ0) (F : Nat) (a0 : Nat) (a1 : Int32) (ha0 : atCanonCote (kZ K) a0) (σ : zST) (h : m_X7_orbits F a0 a1 σ = some (r0, τ0)) : Z K 0 0 0 [(0, .ref (eA (kZ K) a0)), (1, .int a1)] [] σ := by
  unfold m_X7_orbits at h
  refine Z_aload_n hk 0 dX7_orbits_0 rfl rfl ?_
  refine Z_iload_n hk 1 dX7_orbits_1 rfl rfl ?_
  rcases bx_ok h with ⟨e4, s2, h3, h⟩ | ⟨x1, s2, h3, h⟩
  · cases h
    exact ZX_callV 1 hk [.int a1] (c_X7_graphAt hk.loc hk.inj hfl F a0 a1 ha0 σ h3) gX7_orbits_X7_graphAt rfl ⟨rfl, by decide +kernel, by decide +kernel, by decide +kernel⟩ ⟨Nat.le_of_ble_eq_true rfl, Nat.le_of_ble_eq_true rfl⟩ ha0.cell.1 (ha0.cell.2 _) rfl rfl rfl (Nat.le_of_ble_eq_true rfl) ⟨Nat.le_of_ble_eq_true rfl, Nat.le_of_ble_eq_true rfl⟩ dX7_orbits_2 (fun X hX => by cases hX; exact Y_out hk hnx hq ⟨Nat.le_of_ble_eq_true rfl, Nat.le_of_ble_eq_true rfl⟩) (fun v hv => by cases hv)
  · refine ZX_callV 1 hk [.int a1] (c_X7_graphAt hk.loc hk.inj hfl F a0 a1 ha0 σ h3) gX7_orbits_X7_graphAt rfl ⟨rfl, by decide +kernel, by decide +kernel, by decide +kernel⟩ ⟨Nat.le_of_ble_eq_true rfl, Nat.le_of_ble_eq_true rfl⟩ ha0.cell.1 (ha0.cell.2 _) rfl rfl rfl (Nat.le_of_ble_eq_true rfl) ⟨Nat.le_of_ble_eq_true rfl, Nat.le_of_ble_eq_true rfl⟩ dX7_orbits_2 (fun X hX => by cases hX) (fun v hv => ?_)
    cases hv
    show Z K 1 6 5 [(0, .ref (eA (kZ K) a0)), (1, .int a1)] [.ref (eA (kZ K) x1)] s2
    refine Z_astore_n hk (lv' := [(2, .ref (eA (kZ K) x1)), (0, .ref (eA (kZ K) a0)), (1, .int a1)]) dX7_orbits_5 rfl (by decide) rfl ?_
    refine Z_aload_n hk 1 dX7_orbits_6 rfl rfl ?_
    refine Z_get hk in_X7_orbits_CanonCote rfl ha0.cell.1 (ha0.cell.2 _) 3 (by decide) wd_X7_orbits_1 rfl dX7_orbits_7 ?_
    refine Z_aload_n hk 0 dX7_orbits_10 rfl rfl ?_
    obtain ⟨s6, h7, h⟩ := bv_ok h
    refine Z_callVN 1 hk (C := RX0) [.ref (eA (kZ K) x1)] (c_X0_search hk.loc hk.inj F (a0 + 21) x1 (ha0.arranging) (graphAt_at ha0 h3) s2 h7) gX7_orbits_X0_search_n120 nw_26 rfl ⟨rfl, rfl⟩ ⟨wd_X7_orbits_2, wd_X7_orbits_3, wd_X7_orbits_4⟩ (by decide +kernel) ⟨Nat.le_of_ble_eq_true rfl, Nat.le_of_ble_eq_true rfl⟩ (ha0.arranging).cell.1 ((ha0.arranging).cell.2 _) rfl rfl rfl (Nat.le_of_ble_eq_true rfl) ⟨Nat.le_of_ble_eq_true rfl, Nat.le_of_ble_eq_true rfl⟩ dX7_orbits_11 ?_
    show Z K 1 6 14 [(2, .ref (eA (kZ K) x1)), (0, .ref (eA (kZ K) a0)), (1, .int a1)] [] s6
    refine Z_iconst hk dX7_orbits_14 zc_iconst_0 ?_
    refine Z_istore_n hk (lv' := [(3, .int 0), (2, .ref (eA (kZ K) x1)), (0, .ref (eA (kZ K) a0)), (1, .int a1)]) dX7_orbits_15 rfl (by decide) rfl ?_
    refine Z_iconst hk dX7_orbits_16 zc_iconst_0 ?_
    refine Z_istore hk (lv' := [(4, .int 0), (3, .int 0), (2, .ref (eA (kZ K) x1)), (0, .ref (eA (kZ K) a0)), (1, .int a1)]) dX7_orbits_17 (by decide) rfl ?_
    refine Z_sub [3, 2, 1, 0] rfl ?_
    exact w_X7_orbits_19 hk hfl hnx hq F F a0 x1 0 0 ha0 (graphAt_at ha0 h3) s6 h
theorem c_X7_orbits {l : Launch} {E : zE} (hL : eL E) (hJ : eJ E) (hfl : l.stackTraces = false) (F : Nat) (a0 : Nat) (a1 : Int32) (ha0 : atCanonCote E a0) (σ : zST) {r0 : zX Int32} {τ0 : zST} (h : m_X7_orbits F a0 a1 σ = some (r0, τ0)) : CtX l yX7_orbits wsX7_orbits r_X7_orbits E [.ref (eA E a0), .int a1] σ (zrI r0) τ0 := by
  refine CtX_of (by decide) rfl hL hJ (Nat.le_of_ble_eq_true rfl) (fun K hE hl hk htb hq => ?_)
  subst hE
  subst hl
  exact w_X7_orbits hk hfl htb hq F a0 a1 ha0 σ h
end

-- CanonCote.orbit (II)I
section
theorem dX7_orbit_0 : decode cX7_orbit 0 = .ok (.aload_n 0, 1) := by decide +kernel
theorem dX7_orbit_1 : decode cX7_orbit 1 = .ok (.iload_n 1, 1) := by decide +kernel
theorem dX7_orbit_2 : decode cX7_orbit 2 = .ok (.invokevirtual 48, 3) := by decide +kernel
theorem dX7_orbit_5 : decode cX7_orbit 5 = .ok (.astore_n 3, 1) := by decide +kernel
theorem dX7_orbit_6 : decode cX7_orbit 6 = .ok (.aload_n 3, 1) := by decide +kernel
theorem dX7_orbit_7 : decode cX7_orbit 7 = .ok (.iload_n 2, 1) := by decide +kernel
theorem dX7_orbit_8 : decode cX7_orbit 8 = .ok (.invokestatic 67, 3) := by decide +kernel
theorem dX7_orbit_11 : decode cX7_orbit 11 = .ok (.aload_n 0, 1) := by decide +kernel
theorem dX7_orbit_12 : decode cX7_orbit 12 = .ok (.getfield 30, 3) := by decide +kernel
theorem dX7_orbit_15 : decode cX7_orbit 15 = .ok (.aload_n 3, 1) := by decide +kernel
theorem dX7_orbit_16 : decode cX7_orbit 16 = .ok (.invokevirtual 120, 3) := by decide +kernel
theorem dX7_orbit_19 : decode cX7_orbit 19 = .ok (.aload_n 0, 1) := by decide +kernel
theorem dX7_orbit_20 : decode cX7_orbit 20 = .ok (.getfield 30, 3) := by decide +kernel
theorem dX7_orbit_23 : decode cX7_orbit 23 = .ok (.iload_n 2, 1) := by decide +kernel
theorem dX7_orbit_24 : decode cX7_orbit 24 = .ok (.invokevirtual 148, 3) := by decide +kernel
theorem dX7_orbit_27 : decode cX7_orbit 27 = .ok (.ireturn, 1) := by decide +kernel
set_option maxRecDepth 20000 in
theorem ggX7_orbit_X7_graphAt : GoodIn wsX7_orbit wsX7_graphAt := goodIn_ca (goodIn_r _ [6, 7, 8, 9, 79, 80, 81, 82, 83, 84] (by decide +kernel) (by decide +kernel)) (goodIn_sub (fun _ h => List.mem_cons_of_mem _ (List.mem_append_right _ h)) (by decide +kernel))
set_option maxRecDepth 20000 in
theorem gX7_orbit_X7_graphAt : GoodIn wsX7_orbit (wsV RX7 48 RX7 yX7_graphAt wsX7_graphAt) := goodIn_app (goodIn_of _ (by decide +kernel)) ggX7_orbit_X7_graphAt
set_option maxRecDepth 20000 in
theorem ggX7_orbit_X7_checkVertex : GoodIn wsX7_orbit wsX7_checkVertex := goodIn_ca (goodIn_r _ [12, 7, 8, 85, 86, 87] (by decide +kernel) (by decide +kernel)) (goodIn_sub (fun _ h => List.mem_cons_of_mem _ (List.mem_append_right _ h)) (by decide +kernel))
set_option maxRecDepth 20000 in
theorem gX7_orbit_X7_checkVertex : GoodIn wsX7_orbit (va_wsS RX7 67 yX7_checkVertex wsX7_checkVertex) := goodIn_app (goodIn_of _ (by decide +kernel)) ggX7_orbit_X7_checkVertex
set_option maxRecDepth 20000 in
theorem ggX7_orbit_X0_search : GoodIn wsX7_orbit wsX0_search := goodIn_r _ [16, 17, 18, 19, 20, 21, 14, 22, 23, 24, 25, 26, 27, 28, 29, 30, 31, 32, 33, 34, 35, 36, 37, 38, 39, 40, 41, 42, 43, 44, 45, 46, 47, 48, 49, 50, 51, 52, 53, 54, 55, 56, 57, 58, 59, 60, 61, 62, 63, 64, 65, 66, 5, 67, 68, 69, 70, 71, 88, 89, 90, 91, 92, 93, 94, 85, 86, 87] (by decide +kernel) (by decide +kernel)
set_option maxRecDepth 20000 in
theorem gX7_orbit_X0_search_n120 : GoodIn wsX7_orbit (wsX0_search) := ggX7_orbit_X0_search
set_option maxRecDepth 20000 in
theorem ggX7_orbit_X0_exchangeable : GoodIn wsX7_orbit wsX0_exchangeable := goodIn_r _ [74, 54, 75, 76, 77, 14, 78, 52, 63, 64, 65, 88, 89, 90, 91, 92, 93, 94] (by decide +kernel) (by decide +kernel)
set_option maxRecDepth 20000 in
theorem gX7_orbit_X0_exchangeable_n148 : GoodIn wsX7_orbit (wsX0_exchangeable) := ggX7_orbit_X0_exchangeable
theorem in_X7_orbit_CanonCote : ∀ w ∈ u_ws RX7 TX7 6, w ∈ wsX7_orbit := by decide +kernel
theorem wd_X7_orbit_1 : Cond.fieldLink RX7 30 (TX7 3).1 (TX7 3).2.1 (TX7 3).2.2.1 ∈ wsX7_orbit := by decide +kernel
theorem wd_X7_orbit_2 : Cond.initialized yX0_search.cls ∈ wsX7_orbit := by decide +kernel
theorem wd_X7_orbit_3 : Cond.instanceMethod yX0_search ∈ wsX7_orbit := by decide +kernel
theorem wd_X7_orbit_4 : Cond.selects RX0 yX0_search yX0_search ∈ wsX7_orbit := by decide +kernel
theorem wd_X7_orbit_5 : Cond.initialized yX0_exchangeable.cls ∈ wsX7_orbit := by decide +kernel
theorem wd_X7_orbit_6 : Cond.instanceMethod yX0_exchangeable ∈ wsX7_orbit := by decide +kernel
theorem wd_X7_orbit_7 : Cond.selects RX0 yX0_exchangeable yX0_exchangeable ∈ wsX7_orbit := by decide +kernel
def r_X7_orbit : Room := { frames := 14, cells := 2, slots := 12, locals := 353 }
set_option maxRecDepth 100000 in
set_option maxHeartbeats 4000000 in
theorem w_X7_orbit {K : zK} (hk : zIs K RX7 cX7_orbit 4 wsX7_orbit (some .int) r_X7_orbit) (hfl : (kL K).stackTraces = false) (hnx : zNX K) {r0 : zX Int32} {τ0 : zST} (hq : zQX K (zrI r0) τ0) (F : Nat) (a0 : Nat) (a1 : Int32) (a2 : Int32) (ha0 : atCanonCote (kZ K) a0) (σ : zST) (h : m_X7_orbit F a0 a1 a2 σ = some (r0, τ0)) : Z K 0 0 0 [(0, .ref (eA (kZ K) a0)), (1, .int a1), (2, .int a2)] [] σ := by
  unfold m_X7_orbit at h
  refine Z_aload_n hk 0 dX7_orbit_0 rfl rfl ?_
  refine Z_iload_n hk 1 dX7_orbit_1 rfl rfl ?_
  rcases bx_ok h with ⟨e4, s2, h3, h⟩ | ⟨x1, s2, h3, h⟩
  · cases h
    exact ZX_callV 1 hk [.int a1] (c_X7_graphAt hk.loc hk.inj hfl F a0 a1 ha0 σ h3) gX7_orbit_X7_graphAt rfl ⟨rfl, by decide +kernel, by decide +kernel, by decide +kernel⟩ ⟨Nat.le_of_ble_eq_true rfl, Nat.le_of_ble_eq_true rfl⟩ ha0.cell.1 (ha0.cell.2 _) rfl rfl rfl (Nat.le_of_ble_eq_true rfl) ⟨Nat.le_of_ble_eq_true rfl, Nat.le_of_ble_eq_true rfl⟩ dX7_orbit_2 (fun X hX => by cases hX; exact Y_out hk hnx hq ⟨Nat.le_of_ble_eq_true rfl, Nat.le_of_ble_eq_true rfl⟩) (fun v hv => by cases hv)
  · refine ZX_callV 1 hk [.int a1] (c_X7_graphAt hk.loc hk.inj hfl F a0 a1 ha0 σ h3) gX7_orbit_X7_graphAt rfl ⟨rfl, by decide +kernel, by decide +kernel, by decide +kernel⟩ ⟨Nat.le_of_ble_eq_true rfl, Nat.le_of_ble_eq_true rfl⟩ ha0.cell.1 (ha0.cell.2 _) rfl rfl rfl (Nat.le_of_ble_eq_true rfl) ⟨Nat.le_of_ble_eq_true rfl, Nat.le_of_ble_eq_true rfl⟩ dX7_orbit_2 (fun X hX => by cases hX) (fun v hv => ?_)
    cases hv
    show Z K 1 6 5 [(0, .ref (eA (kZ K) a0)), (1, .int a1), (2, .int a2)] [.ref (eA (kZ K) x1)] s2
    refine Z_astore_n hk (lv' := [(3, .ref (eA (kZ K) x1)), (0, .ref (eA (kZ K) a0)), (1, .int a1), (2, .int a2)]) dX7_orbit_5 rfl (by decide) rfl ?_
    refine Z_aload_n hk 0 dX7_orbit_6 rfl rfl ?_
    refine Z_iload_n hk 3 dX7_orbit_7 rfl rfl ?_
    rcases bx_ok h with ⟨e8, s6, h7, h⟩ | ⟨x5, s6, h7, h⟩
    · cases h
      exact ZX_callT 2 hk [.ref (eA (kZ K) x1), .int a2] (c_X7_checkVertex hk.loc hk.inj hfl F x1 a2 (graphAt_at ha0 h3) s2 h7) gX7_orbit_X7_checkVertex rfl ⟨by decide +kernel, by decide +kernel, by decide +kernel⟩ ⟨Nat.le_of_ble_eq_true rfl, Nat.le_of_ble_eq_true rfl⟩ rfl rfl (Nat.le_of_ble_eq_true rfl) ⟨Nat.le_of_ble_eq_true rfl, Nat.le_of_ble_eq_true rfl⟩ dX7_orbit_8 (fun X hX => by cases hX; exact Y_out hk hnx hq ⟨Nat.le_of_ble_eq_true rfl, Nat.le_of_ble_eq_true rfl⟩) (fun v hv => by cases hv)
    · refine ZX_callT 2 hk [.ref (eA (kZ K) x1), .int a2] (c_X7_checkVertex hk.loc hk.inj hfl F x1 a2 (graphAt_at ha0 h3) s2 h7) gX7_orbit_X7_checkVertex rfl ⟨by decide +kernel, by decide +kernel, by decide +kernel⟩ ⟨Nat.le_of_ble_eq_true rfl, Nat.le_of_ble_eq_true rfl⟩ rfl rfl (Nat.le_of_ble_eq_true rfl) ⟨Nat.le_of_ble_eq_true rfl, Nat.le_of_ble_eq_true rfl⟩ dX7_orbit_8 (fun X hX => by cases hX) (fun v hv => ?_)
      cases hv
      show Z K 2 12 11 [(3, .ref (eA (kZ K) x1)), (0, .ref (eA (kZ K) a0)), (1, .int a1), (2, .int a2)] [] s6
      refine Z_aload_n hk 1 dX7_orbit_11 rfl rfl ?_
      refine Z_get hk in_X7_orbit_CanonCote rfl ha0.cell.1 (ha0.cell.2 _) 3 (by decide) wd_X7_orbit_1 rfl dX7_orbit_12 ?_
      refine Z_aload_n hk 0 dX7_orbit_15 rfl rfl ?_
      obtain ⟨s10, h11, h⟩ := bv_ok h
      refine Z_callVN 1 hk (C := RX0) [.ref (eA (kZ K) x1)] (c_X0_search hk.loc hk.inj F (a0 + 21) x1 (ha0.arranging) (graphAt_at ha0 h3) s6 h11) gX7_orbit_X0_search_n120 nw_26 rfl ⟨rfl, rfl⟩ ⟨wd_X7_orbit_2, wd_X7_orbit_3, wd_X7_orbit_4⟩ (by decide +kernel) ⟨Nat.le_of_ble_eq_true rfl, Nat.le_of_ble_eq_true rfl⟩ (ha0.arranging).cell.1 ((ha0.arranging).cell.2 _) rfl rfl rfl (Nat.le_of_ble_eq_true rfl) ⟨Nat.le_of_ble_eq_true rfl, Nat.le_of_ble_eq_true rfl⟩ dX7_orbit_16 ?_
      show Z K 2 12 19 [(3, .ref (eA (kZ K) x1)), (0, .ref (eA (kZ K) a0)), (1, .int a1), (2, .int a2)] [] s10
      refine Z_aload_n hk 1 dX7_orbit_19 rfl rfl ?_
      refine Z_get hk in_X7_orbit_CanonCote rfl ha0.cell.1 (ha0.cell.2 _) 3 (by decide) wd_X7_orbit_1 rfl dX7_orbit_20 ?_
      refine Z_iload_n hk 3 dX7_orbit_23 rfl rfl ?_
      obtain ⟨x12, s13, h14, h⟩ := bd_ok h
      refine Z_callVN 1 hk (C := RX0) [.int a2] (c_X0_exchangeable hk.loc hk.inj F (a0 + 21) a2 (ha0.arranging) s10 h14) gX7_orbit_X0_exchangeable_n148 nw_47 rfl ⟨rfl, rfl⟩ ⟨wd_X7_orbit_5, wd_X7_orbit_6, wd_X7_orbit_7⟩ (by decide +kernel) ⟨Nat.le_of_ble_eq_true rfl, Nat.le_of_ble_eq_true rfl⟩ (ha0.arranging).cell.1 ((ha0.arranging).cell.2 _) rfl rfl rfl (Nat.le_of_ble_eq_true rfl) ⟨Nat.le_of_ble_eq_true rfl, Nat.le_of_ble_eq_true rfl⟩ dX7_orbit_24 ?_
      show Z K 2 12 27 [(3, .ref (eA (kZ K) x1)), (0, .ref (eA (kZ K) a0)), (1, .int a1), (2, .int a2)] [.int x12] s13
      cases h
      exact ZX_iret hk hq ⟨Nat.le_of_ble_eq_true rfl, Nat.le_of_ble_eq_true rfl⟩ dX7_orbit_27
theorem c_X7_orbit {l : Launch} {E : zE} (hL : eL E) (hJ : eJ E) (hfl : l.stackTraces = false) (F : Nat) (a0 : Nat) (a1 : Int32) (a2 : Int32) (ha0 : atCanonCote E a0) (σ : zST) {r0 : zX Int32} {τ0 : zST} (h : m_X7_orbit F a0 a1 a2 σ = some (r0, τ0)) : CtX l yX7_orbit wsX7_orbit r_X7_orbit E [.ref (eA E a0), .int a1, .int a2] σ (zrI r0) τ0 := by
  refine CtX_of (by decide) rfl hL hJ (Nat.le_of_ble_eq_true rfl) (fun K hE hl hk htb hq => ?_)
  subst hE
  subst hl
  exact w_X7_orbit hk hfl htb hq F a0 a1 a2 ha0 σ h
end

-- CanonCote.checkPermutation (J)V
section
theorem dX7_checkPermutation_0 : decode cX7_checkPermutation 0 = .ok (.lload_n 0, 1) := by decide +kernel
theorem dX7_checkPermutation_1 : decode cX7_checkPermutation 1 = .ok (.invokestatic 199, 3) := by decide +kernel
theorem dX7_checkPermutation_4 : decode cX7_checkPermutation 4 = .ok (.ifCond .ne 13, 3) := by decide +kernel
theorem dX7_checkPermutation_7 : decode cX7_checkPermutation 7 = .ok (.new 52, 3) := by decide +kernel
theorem dX7_checkPermutation_10 : decode cX7_checkPermutation 10 = .ok (.dup, 1) := by decide +kernel
theorem dX7_checkPermutation_11 : decode cX7_checkPermutation 11 = .ok (.ldc 204, 2) := by decide +kernel
theorem dX7_checkPermutation_13 : decode cX7_checkPermutation 13 = .ok (.invokespecial 56, 3) := by decide +kernel
theorem dX7_checkPermutation_16 : decode cX7_checkPermutation 16 = .ok (.athrow, 1) := by decide +kernel
theorem dX7_checkPermutation_17 : decode cX7_checkPermutation 17 = .ok (.return_, 1) := by decide +kernel
set_option maxRecDepth 20000 in
theorem ggX7_checkPermutation_X5_isOne : GoodIn wsX7_checkPermutation wsX5_isOne := goodIn_r _ [5, 6] (by decide +kernel) (by decide +kernel)
set_option maxRecDepth 20000 in
theorem gX7_checkPermutation_X5_isOne_n199 : GoodIn wsX7_checkPermutation (wsX5_isOne) := ggX7_checkPermutation_X5_isOne
theorem wd_X7_checkPermutation_0 : Cond.initialized yX5_isOne.cls ∈ wsX7_checkPermutation := by decide +kernel
theorem wd_X7_checkPermutation_1 : Cond.static yX5_isOne ∈ wsX7_checkPermutation := by decide +kernel
theorem wd_X7_checkPermutation_2 : Cond.classLink RX7 52 "java/lang/IllegalArgumentException" ∈ wsX7_checkPermutation := by decide +kernel
theorem wd_X7_checkPermutation_3 : Cond.initialized "java/lang/IllegalArgumentException" ∈ wsX7_checkPermutation := by decide +kernel
theorem at_X7_checkPermutation_56 : ∀ w ∈ (vx_atS RX7 56 "java/lang/IllegalArgumentException" ["java/lang/RuntimeException", "java/lang/Exception"]).filter goodWord, w ∈ wsX7_checkPermutation := by decide +kernel
def r_X7_checkPermutation : Room := { frames := 6, cells := 1, slots := 6, locals := 90 }
set_option maxRecDepth 100000 in
set_option maxHeartbeats 4000000 in
theorem w_X7_checkPermutation {K : zK} (hk : zIs K RX7 cX7_checkPermutation 2 wsX7_checkPermutation none r_X7_checkPermutation) (hfl : (kL K).stackTraces = false) (hnx : zNX K) {r0 : zX Unit} {τ0 : zST} (hq : zQX K (zrU r0) τ0) (F : Nat) (a0 : Int64) (σ : zST) (h : m_X7_checkPermutation F a0 σ = some (r0, τ0)) : Z K 0 0 0 [(0, .long a0)] [] σ := by
  unfold m_X7_checkPermutation at h
  refine Z_lload_n hk 0 dX7_checkPermutation_0 rfl rfl ?_
  obtain ⟨x1, s2, h3, h⟩ := bd_ok h
  refine Z_callSN 1 hk [.long a0] (c_X5_isOne hk.loc hk.inj F a0 σ h3) gX7_checkPermutation_X5_isOne_n199 nw_48 rfl ⟨rfl, rfl⟩ ⟨wd_X7_checkPermutation_0, wd_X7_checkPermutation_1⟩ (by decide +kernel) ⟨Nat.le_of_ble_eq_true rfl, Nat.le_of_ble_eq_true rfl⟩ rfl rfl (Nat.le_of_ble_eq_true rfl) ⟨Nat.zero_le _, Nat.zero_le _⟩ dX7_checkPermutation_1 ?_
  show Z K 0 0 4 [(0, .long a0)] [.int x1] s2
  refine Z_if_ne hk (tgt := 17) dX7_checkPermutation_4 (by decide) (fun c4 => ?_) (fun c4 => ?_)
  · have h := if_yes h c4
    cases h
    exact ZX_throw hk hnx hfl (text := "no permutation") hq (by decide +kernel) ⟨wd_X7_checkPermutation_2, wd_X7_checkPermutation_3⟩ gw_9 at_X7_checkPermutation_56 gw_4 gw_5 dX7_checkPermutation_7 dX7_checkPermutation_10 dX7_checkPermutation_11 dX7_checkPermutation_13 dX7_checkPermutation_16 ⟨Nat.le_of_ble_eq_true rfl, Nat.le_of_ble_eq_true rfl⟩ (Nat.le_of_ble_eq_true rfl) ⟨Nat.le_of_ble_eq_true rfl, Nat.le_of_ble_eq_true rfl⟩
  · have h := if_no h c4
    cases h
    exact ZX_vret hk hq ⟨Nat.le_of_ble_eq_true rfl, Nat.le_of_ble_eq_true rfl⟩ dX7_checkPermutation_17
theorem c_X7_checkPermutation {l : Launch} {E : zE} (hL : eL E) (hJ : eJ E) (hfl : l.stackTraces = false) (F : Nat) (a0 : Int64) (σ : zST) {r0 : zX Unit} {τ0 : zST} (h : m_X7_checkPermutation F a0 σ = some (r0, τ0)) : CtX l yX7_checkPermutation wsX7_checkPermutation r_X7_checkPermutation E [.long a0] σ (zrU r0) τ0 := by
  refine CtX_of (by decide) rfl hL hJ (Nat.le_of_ble_eq_true rfl) (fun K hE hl hk htb hq => ?_)
  subst hE
  subst hl
  exact w_X7_checkPermutation hk hfl htb hq F a0 σ h
end

-- CanonCote.addGenerator (J)I
section
theorem dX7_addGenerator_0 : decode cX7_addGenerator 0 = .ok (.lload_n 1, 1) := by decide +kernel
theorem dX7_addGenerator_1 : decode cX7_addGenerator 1 = .ok (.invokestatic 154, 3) := by decide +kernel
theorem dX7_addGenerator_4 : decode cX7_addGenerator 4 = .ok (.aload_n 0, 1) := by decide +kernel
theorem dX7_addGenerator_5 : decode cX7_addGenerator 5 = .ok (.getfield 44, 3) := by decide +kernel
theorem dX7_addGenerator_8 : decode cX7_addGenerator 8 = .ok (.getfield 158, 3) := by decide +kernel
theorem dX7_addGenerator_11 : decode cX7_addGenerator 11 = .ok (.bipush 6, 2) := by decide +kernel
theorem dX7_addGenerator_13 : decode cX7_addGenerator 13 = .ok (.if_icmp .lt 13, 3) := by decide +kernel
theorem dX7_addGenerator_16 : decode cX7_addGenerator 16 = .ok (.new 159, 3) := by decide +kernel
theorem dX7_addGenerator_19 : decode cX7_addGenerator 19 = .ok (.dup, 1) := by decide +kernel
theorem dX7_addGenerator_20 : decode cX7_addGenerator 20 = .ok (.ldc 161, 2) := by decide +kernel
theorem dX7_addGenerator_22 : decode cX7_addGenerator 22 = .ok (.invokespecial 163, 3) := by decide +kernel
theorem dX7_addGenerator_25 : decode cX7_addGenerator 25 = .ok (.athrow, 1) := by decide +kernel
theorem dX7_addGenerator_26 : decode cX7_addGenerator 26 = .ok (.aload_n 0, 1) := by decide +kernel
theorem dX7_addGenerator_27 : decode cX7_addGenerator 27 = .ok (.getfield 44, 3) := by decide +kernel
theorem dX7_addGenerator_30 : decode cX7_addGenerator 30 = .ok (.lload_n 1, 1) := by decide +kernel
theorem dX7_addGenerator_31 : decode cX7_addGenerator 31 = .ok (.invokevirtual 164, 3) := by decide +kernel
theorem dX7_addGenerator_34 : decode cX7_addGenerator 34 = .ok (.aload_n 0, 1) := by decide +kernel
theorem dX7_addGenerator_35 : decode cX7_addGenerator 35 = .ok (.getfield 44, 3) := by decide +kernel
theorem dX7_addGenerator_38 : decode cX7_addGenerator 38 = .ok (.getfield 167, 3) := by decide +kernel
theorem dX7_addGenerator_41 : decode cX7_addGenerator 41 = .ok (.getfield 171, 3) := by decide +kernel
theorem dX7_addGenerator_44 : decode cX7_addGenerator 44 = .ok (.ireturn, 1) := by decide +kernel
set_option maxRecDepth 20000 in
theorem ggX7_addGenerator_X7_checkPermutation : GoodIn wsX7_addGenerator wsX7_checkPermutation := goodIn_ca (goodIn_r _ [7, 8, 9, 10, 11, 12, 13] (by decide +kernel) (by decide +kernel)) (goodIn_sub (fun _ h => List.mem_cons_of_mem _ (List.mem_append_right _ h)) (by decide +kernel))
set_option maxRecDepth 20000 in
theorem gX7_addGenerator_X7_checkPermutation : GoodIn wsX7_addGenerator (va_wsS RX7 154 yX7_checkPermutation wsX7_checkPermutation) := goodIn_app (goodIn_of _ (by decide +kernel)) ggX7_addGenerator_X7_checkPermutation
set_option maxRecDepth 20000 in
theorem ggX7_addGenerator_X3_add : GoodIn wsX7_addGenerator wsX3_add := goodIn_r _ [17, 18, 19, 20, 21, 22, 23, 24, 25, 26, 27, 28, 29, 30, 31, 32, 33, 34, 35, 36, 37, 38, 39, 40, 41, 11, 42, 43, 44, 45, 46, 47, 48, 49, 50, 51, 52, 53, 54, 55, 56, 57, 58, 65, 66, 67, 68, 69, 70, 71, 72, 73, 74] (by decide +kernel) (by decide +kernel)
set_option maxRecDepth 20000 in
theorem gX7_addGenerator_X3_add_n164 : GoodIn wsX7_addGenerator (wsX3_add) := ggX7_addGenerator_X3_add
theorem in_X7_addGenerator_CanonCote : ∀ w ∈ u_ws RX7 TX7 6, w ∈ wsX7_addGenerator := by decide +kernel
theorem wd_X7_addGenerator_1 : Cond.fieldLink RX7 44 (TX7 5).1 (TX7 5).2.1 (TX7 5).2.2.1 ∈ wsX7_addGenerator := by decide +kernel
theorem in_X7_addGenerator_Group : ∀ w ∈ u_ws RX3 TX3 4, w ∈ wsX7_addGenerator := by decide +kernel
theorem wd_X7_addGenerator_3 : Cond.initialized yX3_add.cls ∈ wsX7_addGenerator := by decide +kernel
theorem wd_X7_addGenerator_4 : Cond.instanceMethod yX3_add ∈ wsX7_addGenerator := by decide +kernel
theorem wd_X7_addGenerator_5 : Cond.selects RX3 yX3_add yX3_add ∈ wsX7_addGenerator := by decide +kernel
theorem in_X7_addGenerator_Chain : ∀ w ∈ u_ws RX1 TX1 6, w ∈ wsX7_addGenerator := by decide +kernel
theorem wd_X7_addGenerator_7 : Cond.classLink RX7 159 "java/lang/IllegalStateException" ∈ wsX7_addGenerator := by decide +kernel
theorem wd_X7_addGenerator_8 : Cond.initialized "java/lang/IllegalStateException" ∈ wsX7_addGenerator := by decide +kernel
theorem at_X7_addGenerator_163 : ∀ w ∈ (vx_atS RX7 163 "java/lang/IllegalStateException" ["java/lang/RuntimeException", "java/lang/Exception"]).filter goodWord, w ∈ wsX7_addGenerator := by decide +kernel
def r_X7_addGenerator : Room := { frames := 7, cells := 2, slots := 12, locals := 161 }
set_option maxRecDepth 100000 in
set_option maxHeartbeats 4000000 in
theorem w_X7_addGenerator {K : zK} (hk : zIs K RX7 cX7_addGenerator 3 wsX7_addGenerator (some .int) r_X7_addGenerator) (hfl : (kL K).stackTraces = false) (hnx : zNX K) {r0 : zX Int32} {τ0 : zST} (hq : zQX K (zrI r0) τ0) (F : Nat) (a0 : Nat) (a1 : Int64) (ha0 : atCanonCote (kZ K) a0) (σ : zST) (h : m_X7_addGenerator F a0 a1 σ = some (r0, τ0)) : Z K 0 0 0 [(0, .ref (eA (kZ K) a0)), (1, .long a1)] [] σ := by
  unfold m_X7_addGenerator at h
  refine Z_lload_n hk 1 dX7_addGenerator_0 rfl rfl ?_
  rcases bx_ok h with ⟨e4, s2, h3, h⟩ | ⟨x1, s2, h3, h⟩
  · cases h
    exact ZX_callT 1 hk [.long a1] (c_X7_checkPermutation hk.loc hk.inj hfl F a1 σ h3) gX7_addGenerator_X7_checkPermutation rfl ⟨by decide +kernel, by decide +kernel, by decide +kernel⟩ ⟨Nat.le_of_ble_eq_true rfl, Nat.le_of_ble_eq_true rfl⟩ rfl rfl (Nat.le_of_ble_eq_true rfl) ⟨Nat.le_of_ble_eq_true rfl, Nat.le_of_ble_eq_true rfl⟩ dX7_addGenerator_1 (fun X hX => by cases hX; exact Y_out hk hnx hq ⟨Nat.le_of_ble_eq_true rfl, Nat.le_of_ble_eq_true rfl⟩) (fun v hv => by cases hv)
  · refine ZX_callT 1 hk [.long a1] (c_X7_checkPermutation hk.loc hk.inj hfl F a1 σ h3) gX7_addGenerator_X7_checkPermutation rfl ⟨by decide +kernel, by decide +kernel, by decide +kernel⟩ ⟨Nat.le_of_ble_eq_true rfl, Nat.le_of_ble_eq_true rfl⟩ rfl rfl (Nat.le_of_ble_eq_true rfl) ⟨Nat.le_of_ble_eq_true rfl, Nat.le_of_ble_eq_true rfl⟩ dX7_addGenerator_1 (fun X hX => by cases hX) (fun v hv => ?_)
    cases hv
    show Z K 1 6 4 [(0, .ref (eA (kZ K) a0)), (1, .long a1)] [] s2
    refine Z_aload_n hk 0 dX7_addGenerator_4 rfl rfl ?_
    refine Z_get hk in_X7_addGenerator_CanonCote rfl ha0.cell.1 (ha0.cell.2 _) 5 (by decide) wd_X7_addGenerator_1 rfl dX7_addGenerator_5 ?_
    refine Z_getN hk in_X7_addGenerator_Group rfl (ha0.group).cell.1 ((ha0.group).cell.2 _) 0 (by decide) nw_49 rfl dX7_addGenerator_8 ?_
    refine Z_bipush hk dX7_addGenerator_11 zc_bipush_6 ?_
    refine Z_icmp_lt hk (tgt := 26) dX7_addGenerator_13 (by decide) (fun c5 => ?_) (fun c5 => ?_)
    · have h := if_yes h c5
      refine Z_aload_n hk 0 dX7_addGenerator_26 rfl rfl ?_
      refine Z_get hk in_X7_addGenerator_CanonCote rfl ha0.cell.1 (ha0.cell.2 _) 5 (by decide) wd_X7_addGenerator_1 rfl dX7_addGenerator_27 ?_
      refine Z_lload_n hk 1 dX7_addGenerator_30 rfl rfl ?_
      obtain ⟨s7, h8, h⟩ := bv_ok h
      refine Z_callVN 1 hk (C := RX3) [.long a1] (c_X3_add hk.loc hk.inj F (a0 + 36) a1 (ha0.group) s2 h8) gX7_addGenerator_X3_add_n164 nw_50 rfl ⟨rfl, rfl⟩ ⟨wd_X7_addGenerator_3, wd_X7_addGenerator_4, wd_X7_addGenerator_5⟩ (by decide +kernel) ⟨Nat.le_of_ble_eq_true rfl, Nat.le_of_ble_eq_true rfl⟩ (ha0.group).cell.1 ((ha0.group).cell.2 _) rfl rfl rfl (Nat.le_of_ble_eq_true rfl) ⟨Nat.le_of_ble_eq_true rfl, Nat.le_of_ble_eq_true rfl⟩ dX7_addGenerator_31 ?_
      show Z K 1 6 34 [(0, .ref (eA (kZ K) a0)), (1, .long a1)] [] s7
      refine Z_aload_n hk 0 dX7_addGenerator_34 rfl rfl ?_
      refine Z_get hk in_X7_addGenerator_CanonCote rfl ha0.cell.1 (ha0.cell.2 _) 5 (by decide) wd_X7_addGenerator_1 rfl dX7_addGenerator_35 ?_
      refine Z_getN hk in_X7_addGenerator_Group rfl (ha0.group).cell.1 ((ha0.group).cell.2 _) 2 (by decide) nw_51 rfl dX7_addGenerator_38 ?_
      refine Z_getN hk in_X7_addGenerator_Chain rfl (((ha0.group).chain)).cell.1 ((((ha0.group).chain)).cell.2 _) 0 (by decide) nw_52 rfl dX7_addGenerator_41 ?_
      cases h
      exact ZX_iret hk hq ⟨Nat.le_of_ble_eq_true rfl, Nat.le_of_ble_eq_true rfl⟩ dX7_addGenerator_44
    · have h := if_no h c5
      cases h
      exact ZX_throw hk hnx hfl (text := "there are 6 generators") hq (by decide +kernel) ⟨wd_X7_addGenerator_7, wd_X7_addGenerator_8⟩ gw_10 at_X7_addGenerator_163 gw_11 gw_12 dX7_addGenerator_16 dX7_addGenerator_19 dX7_addGenerator_20 dX7_addGenerator_22 dX7_addGenerator_25 ⟨Nat.le_of_ble_eq_true rfl, Nat.le_of_ble_eq_true rfl⟩ (Nat.le_of_ble_eq_true rfl) ⟨Nat.le_of_ble_eq_true rfl, Nat.le_of_ble_eq_true rfl⟩
theorem c_X7_addGenerator {l : Launch} {E : zE} (hL : eL E) (hJ : eJ E) (hfl : l.stackTraces = false) (F : Nat) (a0 : Nat) (a1 : Int64) (ha0 : atCanonCote E a0) (σ : zST) {r0 : zX Int32} {τ0 : zST} (h : m_X7_addGenerator F a0 a1 σ = some (r0, τ0)) : CtX l yX7_addGenerator wsX7_addGenerator r_X7_addGenerator E [.ref (eA E a0), .long a1] σ (zrI r0) τ0 := by
  refine CtX_of (by decide) rfl hL hJ (Nat.le_of_ble_eq_true rfl) (fun K hE hl hk htb hq => ?_)
  subst hE
  subst hl
  exact w_X7_addGenerator hk hfl htb hq F a0 a1 ha0 σ h
end

-- CanonCote.isInGroup (J)Z
section
theorem dX7_isInGroup_0 : decode cX7_isInGroup 0 = .ok (.lload_n 1, 1) := by decide +kernel
theorem dX7_isInGroup_1 : decode cX7_isInGroup 1 = .ok (.invokestatic 154, 3) := by decide +kernel
theorem dX7_isInGroup_4 : decode cX7_isInGroup 4 = .ok (.aload_n 0, 1) := by decide +kernel
theorem dX7_isInGroup_5 : decode cX7_isInGroup 5 = .ok (.getfield 44, 3) := by decide +kernel
theorem dX7_isInGroup_8 : decode cX7_isInGroup 8 = .ok (.getfield 167, 3) := by decide +kernel
theorem dX7_isInGroup_11 : decode cX7_isInGroup 11 = .ok (.lload_n 1, 1) := by decide +kernel
theorem dX7_isInGroup_12 : decode cX7_isInGroup 12 = .ok (.invokevirtual 178, 3) := by decide +kernel
theorem dX7_isInGroup_15 : decode cX7_isInGroup 15 = .ok (.ireturn, 1) := by decide +kernel
set_option maxRecDepth 20000 in
theorem ggX7_isInGroup_X7_checkPermutation : GoodIn wsX7_isInGroup wsX7_checkPermutation := goodIn_ca (goodIn_r _ [5, 6, 7, 8, 9, 10, 11] (by decide +kernel) (by decide +kernel)) (goodIn_sub (fun _ h => List.mem_cons_of_mem _ (List.mem_append_right _ h)) (by decide +kernel))
set_option maxRecDepth 20000 in
theorem gX7_isInGroup_X7_checkPermutation : GoodIn wsX7_isInGroup (va_wsS RX7 154 yX7_checkPermutation wsX7_checkPermutation) := goodIn_app (goodIn_of _ (by decide +kernel)) ggX7_isInGroup_X7_checkPermutation
set_option maxRecDepth 20000 in
theorem ggX7_isInGroup_X1_holds : GoodIn wsX7_isInGroup wsX1_holds := goodIn_r _ [15, 16, 17, 18, 19, 13, 20, 21, 22, 23, 9, 24, 25, 26, 27, 28, 29, 30, 41, 42, 43, 44, 45, 46] (by decide +kernel) (by decide +kernel)
set_option maxRecDepth 20000 in
theorem gX7_isInGroup_X1_holds_n178 : GoodIn wsX7_isInGroup (wsX1_holds) := ggX7_isInGroup_X1_holds
theorem in_X7_isInGroup_CanonCote : ∀ w ∈ u_ws RX7 TX7 6, w ∈ wsX7_isInGroup := by decide +kernel
theorem wd_X7_isInGroup_1 : Cond.fieldLink RX7 44 (TX7 5).1 (TX7 5).2.1 (TX7 5).2.2.1 ∈ wsX7_isInGroup := by decide +kernel
theorem in_X7_isInGroup_Group : ∀ w ∈ u_ws RX3 TX3 4, w ∈ wsX7_isInGroup := by decide +kernel
theorem wd_X7_isInGroup_3 : Cond.initialized yX1_holds.cls ∈ wsX7_isInGroup := by decide +kernel
theorem wd_X7_isInGroup_4 : Cond.instanceMethod yX1_holds ∈ wsX7_isInGroup := by decide +kernel
theorem wd_X7_isInGroup_5 : Cond.selects RX1 yX1_holds yX1_holds ∈ wsX7_isInGroup := by decide +kernel
def r_X7_isInGroup : Room := { frames := 7, cells := 1, slots := 6, locals := 111 }
set_option maxRecDepth 100000 in
set_option maxHeartbeats 4000000 in
theorem w_X7_isInGroup {K : zK} (hk : zIs K RX7 cX7_isInGroup 3 wsX7_isInGroup (some .boolean) r_X7_isInGroup) (hfl : (kL K).stackTraces = false) (hnx : zNX K) {r0 : zX Int32} {τ0 : zST} (hq : zQX K (zrI r0) τ0) (F : Nat) (a0 : Nat) (a1 : Int64) (ha0 : atCanonCote (kZ K) a0) (σ : zST) (h : m_X7_isInGroup F a0 a1 σ = some (r0, τ0)) : Z K 0 0 0 [(0, .ref (eA (kZ K) a0)), (1, .long a1)] [] σ := by
  unfold m_X7_isInGroup at h
  refine Z_lload_n hk 1 dX7_isInGroup_0 rfl rfl ?_
  rcases bx_ok h with ⟨e4, s2, h3, h⟩ | ⟨x1, s2, h3, h⟩
  · cases h
    exact ZX_callT 1 hk [.long a1] (c_X7_checkPermutation hk.loc hk.inj hfl F a1 σ h3) gX7_isInGroup_X7_checkPermutation rfl ⟨by decide +kernel, by decide +kernel, by decide +kernel⟩ ⟨Nat.le_of_ble_eq_true rfl, Nat.le_of_ble_eq_true rfl⟩ rfl rfl (Nat.le_of_ble_eq_true rfl) ⟨Nat.le_of_ble_eq_true rfl, Nat.le_of_ble_eq_true rfl⟩ dX7_isInGroup_1 (fun X hX => by cases hX; exact Y_out hk hnx hq ⟨Nat.le_of_ble_eq_true rfl, Nat.le_of_ble_eq_true rfl⟩) (fun v hv => by cases hv)
  · refine ZX_callT 1 hk [.long a1] (c_X7_checkPermutation hk.loc hk.inj hfl F a1 σ h3) gX7_isInGroup_X7_checkPermutation rfl ⟨by decide +kernel, by decide +kernel, by decide +kernel⟩ ⟨Nat.le_of_ble_eq_true rfl, Nat.le_of_ble_eq_true rfl⟩ rfl rfl (Nat.le_of_ble_eq_true rfl) ⟨Nat.le_of_ble_eq_true rfl, Nat.le_of_ble_eq_true rfl⟩ dX7_isInGroup_1 (fun X hX => by cases hX) (fun v hv => ?_)
    cases hv
    show Z K 1 6 4 [(0, .ref (eA (kZ K) a0)), (1, .long a1)] [] s2
    refine Z_aload_n hk 0 dX7_isInGroup_4 rfl rfl ?_
    refine Z_get hk in_X7_isInGroup_CanonCote rfl ha0.cell.1 (ha0.cell.2 _) 5 (by decide) wd_X7_isInGroup_1 rfl dX7_isInGroup_5 ?_
    refine Z_getN hk in_X7_isInGroup_Group rfl (ha0.group).cell.1 ((ha0.group).cell.2 _) 2 (by decide) nw_51 rfl dX7_isInGroup_8 ?_
    refine Z_lload_n hk 1 dX7_isInGroup_11 rfl rfl ?_
    obtain ⟨x5, s6, h7, h⟩ := bd_ok h
    refine Z_callVN 1 hk (C := RX1) [.long a1] (c_X1_holds hk.loc hk.inj F (a0 + 36 + 2) a1 (((ha0.group).chain)) s2 h7) gX7_isInGroup_X1_holds_n178 nw_54 rfl ⟨rfl, rfl⟩ ⟨wd_X7_isInGroup_3, wd_X7_isInGroup_4, wd_X7_isInGroup_5⟩ (by decide +kernel) ⟨Nat.le_of_ble_eq_true rfl, Nat.le_of_ble_eq_true rfl⟩ (((ha0.group).chain)).cell.1 ((((ha0.group).chain)).cell.2 _) rfl rfl rfl (Nat.le_of_ble_eq_true rfl) ⟨Nat.le_of_ble_eq_true rfl, Nat.le_of_ble_eq_true rfl⟩ dX7_isInGroup_12 ?_
    show Z K 1 6 15 [(0, .ref (eA (kZ K) a0)), (1, .long a1)] [.int x5] s6
    obtain ⟨hz, h⟩ := gd_some h
    cases h
    exact ZX_zret hk hz hq ⟨Nat.le_of_ble_eq_true rfl, Nat.le_of_ble_eq_true rfl⟩ dX7_isInGroup_15
theorem c_X7_isInGroup {l : Launch} {E : zE} (hL : eL E) (hJ : eJ E) (hfl : l.stackTraces = false) (F : Nat) (a0 : Nat) (a1 : Int64) (ha0 : atCanonCote E a0) (σ : zST) {r0 : zX Int32} {τ0 : zST} (h : m_X7_isInGroup F a0 a1 σ = some (r0, τ0)) : CtX l yX7_isInGroup wsX7_isInGroup r_X7_isInGroup E [.ref (eA E a0), .long a1] σ (zrI r0) τ0 := by
  refine CtX_of (by decide) rfl hL hJ (Nat.le_of_ble_eq_true rfl) (fun K hE hl hk htb hq => ?_)
  subst hE
  subst hl
  exact w_X7_isInGroup hk hfl htb hq F a0 a1 ha0 σ h
end

-- CanonCote.moves (I)I
section
theorem dX7_moves_0 : decode cX7_moves 0 = .ok (.iload_n 1, 1) := by decide +kernel
theorem dX7_moves_1 : decode cX7_moves 1 = .ok (.ifCond .lt 9, 3) := by decide +kernel
theorem dX7_moves_4 : decode cX7_moves 4 = .ok (.iload_n 1, 1) := by decide +kernel
theorem dX7_moves_5 : decode cX7_moves 5 = .ok (.bipush 8, 2) := by decide +kernel
theorem dX7_moves_7 : decode cX7_moves 7 = .ok (.if_icmp .lt 13, 3) := by decide +kernel
theorem dX7_moves_10 : decode cX7_moves 10 = .ok (.new 182, 3) := by decide +kernel
theorem dX7_moves_13 : decode cX7_moves 13 = .ok (.dup, 1) := by decide +kernel
theorem dX7_moves_14 : decode cX7_moves 14 = .ok (.ldc 184, 2) := by decide +kernel
theorem dX7_moves_16 : decode cX7_moves 16 = .ok (.invokespecial 186, 3) := by decide +kernel
theorem dX7_moves_19 : decode cX7_moves 19 = .ok (.athrow, 1) := by decide +kernel
theorem dX7_moves_20 : decode cX7_moves 20 = .ok (.aload_n 0, 1) := by decide +kernel
theorem dX7_moves_21 : decode cX7_moves 21 = .ok (.getfield 44, 3) := by decide +kernel
theorem dX7_moves_24 : decode cX7_moves 24 = .ok (.iload_n 1, 1) := by decide +kernel
theorem dX7_moves_25 : decode cX7_moves 25 = .ok (.invokevirtual 187, 3) := by decide +kernel
theorem dX7_moves_28 : decode cX7_moves 28 = .ok (.ireturn, 1) := by decide +kernel
set_option maxRecDepth 20000 in
theorem ggX7_moves_X3_reach : GoodIn wsX7_moves wsX3_reach := goodIn_r _ [7, 8, 9, 10, 11, 5, 12, 13, 14, 15, 16, 17, 18, 25, 26, 27, 28] (by decide +kernel) (by decide +kernel)
set_option maxRecDepth 20000 in
theorem gX7_moves_X3_reach_n187 : GoodIn wsX7_moves (wsX3_reach) := ggX7_moves_X3_reach
theorem in_X7_moves_CanonCote : ∀ w ∈ u_ws RX7 TX7 6, w ∈ wsX7_moves := by decide +kernel
theorem wd_X7_moves_1 : Cond.fieldLink RX7 44 (TX7 5).1 (TX7 5).2.1 (TX7 5).2.2.1 ∈ wsX7_moves := by decide +kernel
theorem wd_X7_moves_2 : Cond.initialized yX3_reach.cls ∈ wsX7_moves := by decide +kernel
theorem wd_X7_moves_3 : Cond.instanceMethod yX3_reach ∈ wsX7_moves := by decide +kernel
theorem wd_X7_moves_4 : Cond.selects RX3 yX3_reach yX3_reach ∈ wsX7_moves := by decide +kernel
theorem wd_X7_moves_5 : Cond.classLink RX7 182 "java/lang/IndexOutOfBoundsException" ∈ wsX7_moves := by decide +kernel
theorem wd_X7_moves_6 : Cond.initialized "java/lang/IndexOutOfBoundsException" ∈ wsX7_moves := by decide +kernel
theorem at_X7_moves_186 : ∀ w ∈ (vx_atS RX7 186 "java/lang/IndexOutOfBoundsException" ["java/lang/RuntimeException", "java/lang/Exception"]).filter goodWord, w ∈ wsX7_moves := by decide +kernel
def r_X7_moves : Room := { frames := 6, cells := 1, slots := 6, locals := 90 }
set_option maxRecDepth 100000 in
set_option maxHeartbeats 4000000 in
theorem w_X7_moves_10 {K : zK} (hk : zIs K RX7 cX7_moves 2 wsX7_moves (some .int) r_X7_moves) (hfl : (kL K).stackTraces = false) (hnx : zNX K) {r0 : zX Int32} {τ0 : zST} (hq : zQX K (zrI r0) τ0) (F : Nat)  (σ : zST) (h : m_X7_moves_10 F σ = some (r0, τ0)) : Z K 0 0 10 [] [] σ := by
  unfold m_X7_moves_10 at h
  cases h
  exact ZX_throw hk hnx hfl (text := "no such point") hq (by decide +kernel) ⟨wd_X7_moves_5, wd_X7_moves_6⟩ gw_13 at_X7_moves_186 gw_1 gw_2 dX7_moves_10 dX7_moves_13 dX7_moves_14 dX7_moves_16 dX7_moves_19 ⟨Nat.le_of_ble_eq_true rfl, Nat.le_of_ble_eq_true rfl⟩ (Nat.le_of_ble_eq_true rfl) ⟨Nat.le_of_ble_eq_true rfl, Nat.le_of_ble_eq_true rfl⟩
set_option maxRecDepth 100000 in
set_option maxHeartbeats 4000000 in
theorem w_X7_moves {K : zK} (hk : zIs K RX7 cX7_moves 2 wsX7_moves (some .int) r_X7_moves) (hfl : (kL K).stackTraces = false) (hnx : zNX K) {r0 : zX Int32} {τ0 : zST} (hq : zQX K (zrI r0) τ0) (F : Nat) (a0 : Nat) (a1 : Int32) (ha0 : atCanonCote (kZ K) a0) (σ : zST) (h : m_X7_moves F a0 a1 σ = some (r0, τ0)) : Z K 0 0 0 [(0, .ref (eA (kZ K) a0)), (1, .int a1)] [] σ := by
  unfold m_X7_moves at h
  refine Z_iload_n hk 1 dX7_moves_0 rfl rfl ?_
  refine Z_if_lt hk (tgt := 10) dX7_moves_1 (by decide) (fun c1 => ?_) (fun c1 => ?_)
  · have h := if_yes h c1
    refine Z_sub [] rfl ?_
    exact w_X7_moves_10 hk hfl hnx hq F σ h
  · have h := if_no h c1
    refine Z_iload_n hk 1 dX7_moves_4 rfl rfl ?_
    refine Z_bipush hk dX7_moves_5 zc_bipush_8 ?_
    refine Z_icmp_lt hk (tgt := 20) dX7_moves_7 (by decide) (fun c2 => ?_) (fun c2 => ?_)
    · have h := if_yes h c2
      refine Z_aload_n hk 0 dX7_moves_20 rfl rfl ?_
      refine Z_get hk in_X7_moves_CanonCote rfl ha0.cell.1 (ha0.cell.2 _) 5 (by decide) wd_X7_moves_1 rfl dX7_moves_21 ?_
      refine Z_iload_n hk 1 dX7_moves_24 rfl rfl ?_
      obtain ⟨x3, s4, h5, h⟩ := bd_ok h
      refine Z_callVN 1 hk (C := RX3) [.int a1] (c_X3_reach hk.loc hk.inj F (a0 + 36) a1 (ha0.group) σ h5) gX7_moves_X3_reach_n187 nw_55 rfl ⟨rfl, rfl⟩ ⟨wd_X7_moves_2, wd_X7_moves_3, wd_X7_moves_4⟩ (by decide +kernel) ⟨Nat.le_of_ble_eq_true rfl, Nat.le_of_ble_eq_true rfl⟩ (ha0.group).cell.1 ((ha0.group).cell.2 _) rfl rfl rfl (Nat.le_of_ble_eq_true rfl) ⟨Nat.zero_le _, Nat.zero_le _⟩ dX7_moves_25 ?_
      show Z K 0 0 28 [(0, .ref (eA (kZ K) a0)), (1, .int a1)] [.int x3] s4
      cases h
      exact ZX_iret hk hq ⟨Nat.le_of_ble_eq_true rfl, Nat.le_of_ble_eq_true rfl⟩ dX7_moves_28
    · have h := if_no h c2
      refine Z_sub [] rfl ?_
      exact w_X7_moves_10 hk hfl hnx hq F σ h
theorem c_X7_moves {l : Launch} {E : zE} (hL : eL E) (hJ : eJ E) (hfl : l.stackTraces = false) (F : Nat) (a0 : Nat) (a1 : Int32) (ha0 : atCanonCote E a0) (σ : zST) {r0 : zX Int32} {τ0 : zST} (h : m_X7_moves F a0 a1 σ = some (r0, τ0)) : CtX l yX7_moves wsX7_moves r_X7_moves E [.ref (eA E a0), .int a1] σ (zrI r0) τ0 := by
  refine CtX_of (by decide) rfl hL hJ (Nat.le_of_ble_eq_true rfl) (fun K hE hl hk htb hq => ?_)
  subst hE
  subst hl
  exact w_X7_moves hk hfl htb hq F a0 a1 ha0 σ h
end

-- CanonCote.fixing (I)I
section
theorem dX7_fixing_0 : decode cX7_fixing 0 = .ok (.iload_n 1, 1) := by decide +kernel
theorem dX7_fixing_1 : decode cX7_fixing 1 = .ok (.ifCond .lt 10, 3) := by decide +kernel
theorem dX7_fixing_4 : decode cX7_fixing 4 = .ok (.iload_n 1, 1) := by decide +kernel
theorem dX7_fixing_5 : decode cX7_fixing 5 = .ok (.sipush 255, 3) := by decide +kernel
theorem dX7_fixing_8 : decode cX7_fixing 8 = .ok (.if_icmp .le 13, 3) := by decide +kernel
theorem dX7_fixing_11 : decode cX7_fixing 11 = .ok (.new 52, 3) := by decide +kernel
theorem dX7_fixing_14 : decode cX7_fixing 14 = .ok (.dup, 1) := by decide +kernel
theorem dX7_fixing_15 : decode cX7_fixing 15 = .ok (.ldc 190, 2) := by decide +kernel
theorem dX7_fixing_17 : decode cX7_fixing 17 = .ok (.invokespecial 56, 3) := by decide +kernel
theorem dX7_fixing_20 : decode cX7_fixing 20 = .ok (.athrow, 1) := by decide +kernel
theorem dX7_fixing_21 : decode cX7_fixing 21 = .ok (.aload_n 0, 1) := by decide +kernel
theorem dX7_fixing_22 : decode cX7_fixing 22 = .ok (.getfield 44, 3) := by decide +kernel
theorem dX7_fixing_25 : decode cX7_fixing 25 = .ok (.iload_n 1, 1) := by decide +kernel
theorem dX7_fixing_26 : decode cX7_fixing 26 = .ok (.invokevirtual 192, 3) := by decide +kernel
theorem dX7_fixing_29 : decode cX7_fixing 29 = .ok (.ireturn, 1) := by decide +kernel
set_option maxRecDepth 20000 in
theorem ggX7_fixing_X3_countFixing : GoodIn wsX7_fixing wsX3_countFixing := goodIn_r _ [7, 8, 9, 10, 11, 12, 13, 14, 15, 16, 17, 18, 19, 20, 21, 22, 23, 24, 25, 26, 27, 28, 29, 30, 31, 32, 33, 34, 35, 36, 37, 38, 39, 40, 41, 42, 43, 44, 45, 46, 47, 48, 49, 50, 51, 52, 53, 54, 55, 56, 57, 58, 59, 60, 61, 62, 63, 64, 65, 66, 67, 74, 75, 76, 77, 78, 79, 80, 81, 82, 83] (by decide +kernel) (by decide +kernel)
set_option maxRecDepth 20000 in
theorem gX7_fixing_X3_countFixing_n192 : GoodIn wsX7_fixing (wsX3_countFixing) := ggX7_fixing_X3_countFixing
theorem in_X7_fixing_CanonCote : ∀ w ∈ u_ws RX7 TX7 6, w ∈ wsX7_fixing := by decide +kernel
theorem wd_X7_fixing_1 : Cond.fieldLink RX7 44 (TX7 5).1 (TX7 5).2.1 (TX7 5).2.2.1 ∈ wsX7_fixing := by decide +kernel
theorem wd_X7_fixing_2 : Cond.initialized yX3_countFixing.cls ∈ wsX7_fixing := by decide +kernel
theorem wd_X7_fixing_3 : Cond.instanceMethod yX3_countFixing ∈ wsX7_fixing := by decide +kernel
theorem wd_X7_fixing_4 : Cond.selects RX3 yX3_countFixing yX3_countFixing ∈ wsX7_fixing := by decide +kernel
theorem wd_X7_fixing_5 : Cond.classLink RX7 52 "java/lang/IllegalArgumentException" ∈ wsX7_fixing := by decide +kernel
theorem wd_X7_fixing_6 : Cond.initialized "java/lang/IllegalArgumentException" ∈ wsX7_fixing := by decide +kernel
theorem at_X7_fixing_56 : ∀ w ∈ (vx_atS RX7 56 "java/lang/IllegalArgumentException" ["java/lang/RuntimeException", "java/lang/Exception"]).filter goodWord, w ∈ wsX7_fixing := by decide +kernel
def r_X7_fixing : Room := { frames := 7, cells := 1, slots := 6, locals := 161 }
set_option maxRecDepth 100000 in
set_option maxHeartbeats 4000000 in
theorem w_X7_fixing_11 {K : zK} (hk : zIs K RX7 cX7_fixing 2 wsX7_fixing (some .int) r_X7_fixing) (hfl : (kL K).stackTraces = false) (hnx : zNX K) {r0 : zX Int32} {τ0 : zST} (hq : zQX K (zrI r0) τ0) (F : Nat)  (σ : zST) (h : m_X7_fixing_11 F σ = some (r0, τ0)) : Z K 0 0 11 [] [] σ := by
  unfold m_X7_fixing_11 at h
  cases h
  exact ZX_throw hk hnx hfl (text := "points is out of range") hq (by decide +kernel) ⟨wd_X7_fixing_5, wd_X7_fixing_6⟩ gw_14 at_X7_fixing_56 gw_4 gw_5 dX7_fixing_11 dX7_fixing_14 dX7_fixing_15 dX7_fixing_17 dX7_fixing_20 ⟨Nat.le_of_ble_eq_true rfl, Nat.le_of_ble_eq_true rfl⟩ (Nat.le_of_ble_eq_true rfl) ⟨Nat.le_of_ble_eq_true rfl, Nat.le_of_ble_eq_true rfl⟩
set_option maxRecDepth 100000 in
set_option maxHeartbeats 4000000 in
theorem w_X7_fixing {K : zK} (hk : zIs K RX7 cX7_fixing 2 wsX7_fixing (some .int) r_X7_fixing) (hfl : (kL K).stackTraces = false) (hnx : zNX K) {r0 : zX Int32} {τ0 : zST} (hq : zQX K (zrI r0) τ0) (F : Nat) (a0 : Nat) (a1 : Int32) (ha0 : atCanonCote (kZ K) a0) (σ : zST) (h : m_X7_fixing F a0 a1 σ = some (r0, τ0)) : Z K 0 0 0 [(0, .ref (eA (kZ K) a0)), (1, .int a1)] [] σ := by
  unfold m_X7_fixing at h
  refine Z_iload_n hk 1 dX7_fixing_0 rfl rfl ?_
  refine Z_if_lt hk (tgt := 11) dX7_fixing_1 (by decide) (fun c1 => ?_) (fun c1 => ?_)
  · have h := if_yes h c1
    refine Z_sub [] rfl ?_
    exact w_X7_fixing_11 hk hfl hnx hq F σ h
  · have h := if_no h c1
    refine Z_iload_n hk 1 dX7_fixing_4 rfl rfl ?_
    refine Z_sipush hk dX7_fixing_5 zc_sipush_255 ?_
    refine Z_icmp_le hk (tgt := 21) dX7_fixing_8 (by decide) (fun c2 => ?_) (fun c2 => ?_)
    · have h := if_yes h c2
      refine Z_aload_n hk 0 dX7_fixing_21 rfl rfl ?_
      refine Z_get hk in_X7_fixing_CanonCote rfl ha0.cell.1 (ha0.cell.2 _) 5 (by decide) wd_X7_fixing_1 rfl dX7_fixing_22 ?_
      refine Z_iload_n hk 1 dX7_fixing_25 rfl rfl ?_
      obtain ⟨x3, s4, h5, h⟩ := bd_ok h
      refine Z_callVN 1 hk (C := RX3) [.int a1] (c_X3_countFixing hk.loc hk.inj F (a0 + 36) a1 (ha0.group) σ h5) gX7_fixing_X3_countFixing_n192 nw_56 rfl ⟨rfl, rfl⟩ ⟨wd_X7_fixing_2, wd_X7_fixing_3, wd_X7_fixing_4⟩ (by decide +kernel) ⟨Nat.le_of_ble_eq_true rfl, Nat.le_of_ble_eq_true rfl⟩ (ha0.group).cell.1 ((ha0.group).cell.2 _) rfl rfl rfl (Nat.le_of_ble_eq_true rfl) ⟨Nat.zero_le _, Nat.zero_le _⟩ dX7_fixing_26 ?_
      show Z K 0 0 29 [(0, .ref (eA (kZ K) a0)), (1, .int a1)] [.int x3] s4
      cases h
      exact ZX_iret hk hq ⟨Nat.le_of_ble_eq_true rfl, Nat.le_of_ble_eq_true rfl⟩ dX7_fixing_29
    · have h := if_no h c2
      refine Z_sub [] rfl ?_
      exact w_X7_fixing_11 hk hfl hnx hq F σ h
theorem c_X7_fixing {l : Launch} {E : zE} (hL : eL E) (hJ : eJ E) (hfl : l.stackTraces = false) (F : Nat) (a0 : Nat) (a1 : Int32) (ha0 : atCanonCote E a0) (σ : zST) {r0 : zX Int32} {τ0 : zST} (h : m_X7_fixing F a0 a1 σ = some (r0, τ0)) : CtX l yX7_fixing wsX7_fixing r_X7_fixing E [.ref (eA E a0), .int a1] σ (zrI r0) τ0 := by
  refine CtX_of (by decide) rfl hL hJ (Nat.le_of_ble_eq_true rfl) (fun K hE hl hk htb hq => ?_)
  subst hE
  subst hl
  exact w_X7_fixing hk hfl htb hq F a0 a1 ha0 σ h
end
