-- CanonCoteLaw.begin (LCanonCote;II[J)I
section
theorem dL_begin_0 : decode cL_begin 0 = .ok (.aload_n 3, 1) := by decide +kernel
theorem dL_begin_1 : decode cL_begin 1 = .ok (.iconst 0, 1) := by decide +kernel
theorem dL_begin_2 : decode cL_begin 2 = .ok (.aload_n 0, 1) := by decide +kernel
theorem dL_begin_3 : decode cL_begin 3 = .ok (.iload_n 1, 1) := by decide +kernel
theorem dL_begin_4 : decode cL_begin 4 = .ok (.iload_n 2, 1) := by decide +kernel
theorem dL_begin_5 : decode cL_begin 5 = .ok (.invokevirtual 7, 3) := by decide +kernel
theorem dL_begin_8 : decode cL_begin 8 = .ok (.i2l, 1) := by decide +kernel
theorem dL_begin_9 : decode cL_begin 9 = .ok (.lastore, 1) := by decide +kernel
theorem dL_begin_10 : decode cL_begin 10 = .ok (.goto 11, 3) := by decide +kernel
theorem dL_begin_13 : decode cL_begin 13 = .ok (.astore 4, 2) := by decide +kernel
theorem dL_begin_15 : decode cL_begin 15 = .ok (.iconst 1, 1) := by decide +kernel
theorem dL_begin_16 : decode cL_begin 16 = .ok (.ireturn, 1) := by decide +kernel
theorem dL_begin_17 : decode cL_begin 17 = .ok (.astore 4, 2) := by decide +kernel
theorem dL_begin_19 : decode cL_begin 19 = .ok (.iconst 2, 1) := by decide +kernel
theorem dL_begin_20 : decode cL_begin 20 = .ok (.ireturn, 1) := by decide +kernel
theorem dL_begin_21 : decode cL_begin 21 = .ok (.iconst 0, 1) := by decide +kernel
theorem dL_begin_22 : decode cL_begin 22 = .ok (.ireturn, 1) := by decide +kernel
set_option maxRecDepth 20000 in
theorem ggL_begin_X7_begin : GoodIn wsL_begin wsX7_begin := goodIn_ca (goodIn_ca (goodIn_r _ [7, 8, 9, 10, 11, 12, 6, 13, 14, 15, 16, 17, 18, 19, 20, 21, 22, 23, 24, 25, 26, 27, 28, 29, 30, 31, 32, 33, 34, 35, 36] (by decide +kernel) (by decide +kernel)) (goodIn_sub (fun _ h => List.mem_cons_of_mem _ (List.mem_append_left _ (List.mem_append_right _ h))) (by decide +kernel))) (goodIn_sub (fun _ h => List.mem_cons_of_mem _ (List.mem_append_right _ h)) (by decide +kernel))
set_option maxRecDepth 20000 in
theorem gL_begin_X7_begin : GoodIn wsL_begin (wsV RL 7 RX7 yX7_begin wsX7_begin) := goodIn_app (goodIn_of _ (by decide +kernel)) ggL_begin_X7_begin
theorem wd_L_begin_0 : Cond.classLink RL 13 "java/lang/IndexOutOfBoundsException" ∈ wsL_begin := by decide +kernel
theorem wd_L_begin_1 : Cond.classLink RL 15 "java/lang/IllegalArgumentException" ∈ wsL_begin := by decide +kernel
def r_L_begin : Room := { frames := 8, cells := 2, slots := 12, locals := 135 }
set_option maxRecDepth 100000 in
set_option maxHeartbeats 4000000 in
theorem w_L_begin {K : zK} (hk : zIs K RL cL_begin 5 wsL_begin (some .int) r_L_begin) (hfl : (kL K).stackTraces = false) (tb : (kC K).exceptionTable.toList = tableOf [(0, 10, 13, 13), (0, 10, 17, 15)]) {r0 : Int32} {τ0 : zST} (hq : zQX K (.inr (some (.int r0))) τ0) (F : Nat) (ln : Nat) (a0 : Nat) (a1 : Int32) (a2 : Int32) (a3 : Nat) (ha0 : atCanonCote (kZ K) a0) (ha3 : aJ (kZ K) a3 ln) (σ : zST) (h : m_L_begin F ln a0 a1 a2 a3 σ = some (r0, τ0)) : Z K 0 0 0 [(0, .ref (eA (kZ K) a0)), (1, .int a1), (2, .int a2), (3, .ref (eA (kZ K) a3))] [] σ := by
  unfold m_L_begin at h
  refine Z_aload_n hk 3 dL_begin_0 rfl rfl ?_
  refine Z_iconst hk dL_begin_1 zc_iconst_0 ?_
  refine Z_aload_n hk 0 dL_begin_2 rfl rfl ?_
  refine Z_iload_n hk 1 dL_begin_3 rfl rfl ?_
  refine Z_iload_n hk 2 dL_begin_4 rfl rfl ?_
  rcases bc_ok h with ⟨e4, s2, h3, h⟩ | ⟨x1, s2, h3, h⟩
  · skip
    by_cases c9 : e4 = "java/lang/IndexOutOfBoundsException"
    · have h := if_yes h c9
      subst c9
      refine ZX_callV 2 hk [.int a1, .int a2] (c_X7_begin hk.loc hk.inj hfl F a0 a1 a2 ha0 σ h3) gL_begin_X7_begin rfl ⟨rfl, by decide +kernel, by decide +kernel, by decide +kernel⟩ ⟨Nat.le_of_ble_eq_true rfl, Nat.le_of_ble_eq_true rfl⟩ ha0.cell.1 (ha0.cell.2 _) rfl rfl rfl (Nat.le_of_ble_eq_true rfl) ⟨Nat.le_of_ble_eq_true rfl, Nat.le_of_ble_eq_true rfl⟩ dL_begin_5 (fun X hX => ?_) (fun v hv => by cases hv)
      cases hX
      refine Y_catch hk tb [] ⟨0, 10, 13, 13⟩ [⟨0, 10, 17, 15⟩] rfl (fun z hz => by cases hz) (by decide) (by decide) wd_L_begin_0 (hk.nest gw_15) rfl (fun q8 => ?_)
      refine Z_astore hk (lv' := [(4, .ref q8), (0, .ref (eA (kZ K) a0)), (1, .int a1), (2, .int a2), (3, .ref (eA (kZ K) a3))]) dL_begin_13 (by decide) rfl ?_
      refine Z_iconst hk dL_begin_15 zc_iconst_1 ?_
      cases h
      exact ZX_iret hk hq ⟨Nat.le_of_ble_eq_true rfl, Nat.le_of_ble_eq_true rfl⟩ dL_begin_16
    have h := if_no h c9
    by_cases c11 : e4 = "java/lang/IllegalArgumentException"
    · have h := if_yes h c11
      subst c11
      refine ZX_callV 2 hk [.int a1, .int a2] (c_X7_begin hk.loc hk.inj hfl F a0 a1 a2 ha0 σ h3) gL_begin_X7_begin rfl ⟨rfl, by decide +kernel, by decide +kernel, by decide +kernel⟩ ⟨Nat.le_of_ble_eq_true rfl, Nat.le_of_ble_eq_true rfl⟩ ha0.cell.1 (ha0.cell.2 _) rfl rfl rfl (Nat.le_of_ble_eq_true rfl) ⟨Nat.le_of_ble_eq_true rfl, Nat.le_of_ble_eq_true rfl⟩ dL_begin_5 (fun X hX => ?_) (fun v hv => by cases hv)
      cases hX
      refine Y_catch hk tb [⟨0, 10, 13, 13⟩] ⟨0, 10, 17, 15⟩ [] rfl (fun z hz => by cases List.mem_singleton.mp hz; exact Or.inr ⟨by decide, "java/lang/IndexOutOfBoundsException", wd_L_begin_0, hk.env.2.2.2.2.2 _ gw_16⟩) (by decide) (by decide) wd_L_begin_1 (hk.nest gw_17) rfl (fun q10 => ?_)
      refine Z_astore hk (lv' := [(4, .ref q10), (0, .ref (eA (kZ K) a0)), (1, .int a1), (2, .int a2), (3, .ref (eA (kZ K) a3))]) dL_begin_17 (by decide) rfl ?_
      refine Z_iconst hk dL_begin_19 zc_iconst_2 ?_
      cases h
      exact ZX_iret hk hq ⟨Nat.le_of_ble_eq_true rfl, Nat.le_of_ble_eq_true rfl⟩ dL_begin_20
    have h := if_no h c11
    cases h
  · refine ZX_callV 2 hk [.int a1, .int a2] (c_X7_begin hk.loc hk.inj hfl F a0 a1 a2 ha0 σ h3) gL_begin_X7_begin rfl ⟨rfl, by decide +kernel, by decide +kernel, by decide +kernel⟩ ⟨Nat.le_of_ble_eq_true rfl, Nat.le_of_ble_eq_true rfl⟩ ha0.cell.1 (ha0.cell.2 _) rfl rfl rfl (Nat.le_of_ble_eq_true rfl) ⟨Nat.le_of_ble_eq_true rfl, Nat.le_of_ble_eq_true rfl⟩ dL_begin_5 (fun X hX => by cases hX) (fun v hv => ?_)
    cases hv
    show Z K 2 12 8 [(0, .ref (eA (kZ K) a0)), (1, .int a1), (2, .int a2), (3, .ref (eA (kZ K) a3))] [.int x1, .int 0, .ref (eA (kZ K) a3)] s2
    refine Z_i2l hk dL_begin_8 ?_
    obtain ⟨i7, s5, e6, h⟩ := stL_get h
    refine Z_last hk ha3 i7 dL_begin_9 ?_
    refine Z_eqS e6 ?_
    refine Z_goto hk (tgt := 21) dL_begin_10 (by decide) ?_
    refine Z_iconst hk dL_begin_21 zc_iconst_0 ?_
    cases h
    exact ZX_iret hk hq ⟨Nat.le_of_ble_eq_true rfl, Nat.le_of_ble_eq_true rfl⟩ dL_begin_22
theorem c_L_begin {l : Launch} {E : zE} (hL : eL E) (hJ : eJ E) (hfl : l.stackTraces = false) (F : Nat) (ln : Nat) (a0 : Nat) (a1 : Int32) (a2 : Int32) (a3 : Nat) (ha0 : atCanonCote E a0) (ha3 : aJ E a3 ln) (σ : zST) {r0 : Int32} {τ0 : zST} (h : m_L_begin F ln a0 a1 a2 a3 σ = some (r0, τ0)) : CtX l yL_begin wsL_begin r_L_begin E [.ref (eA E a0), .int a1, .int a2, .ref (eA E a3)] σ (.inr (some (.int r0))) τ0 := by
  refine CtX_ofH (hh := [(0, 10, 13, 13), (0, 10, 17, 15)]) (by decide) rfl hL hJ (Nat.le_of_ble_eq_true rfl) (fun K hE hl hk htb hq => ?_)
  subst hE
  subst hl
  exact w_L_begin hk hfl htb hq F ln a0 a1 a2 a3 ha0 ha3 σ h
end

-- CanonCoteLaw.toggle (LCanonCote;III[J)I
section
theorem dL_toggle_0 : decode cL_toggle 0 = .ok (.aload 4, 2) := by decide +kernel
theorem dL_toggle_2 : decode cL_toggle 2 = .ok (.iconst 0, 1) := by decide +kernel
theorem dL_toggle_3 : decode cL_toggle 3 = .ok (.aload_n 0, 1) := by decide +kernel
theorem dL_toggle_4 : decode cL_toggle 4 = .ok (.iload_n 1, 1) := by decide +kernel
theorem dL_toggle_5 : decode cL_toggle 5 = .ok (.iload_n 2, 1) := by decide +kernel
theorem dL_toggle_6 : decode cL_toggle 6 = .ok (.iload_n 3, 1) := by decide +kernel
theorem dL_toggle_7 : decode cL_toggle 7 = .ok (.invokevirtual 17, 3) := by decide +kernel
theorem dL_toggle_10 : decode cL_toggle 10 = .ok (.ifCond .eq 7, 3) := by decide +kernel
theorem dL_toggle_13 : decode cL_toggle 13 = .ok (.lconst 1, 1) := by decide +kernel
theorem dL_toggle_14 : decode cL_toggle 14 = .ok (.goto 4, 3) := by decide +kernel
theorem dL_toggle_17 : decode cL_toggle 17 = .ok (.lconst 0, 1) := by decide +kernel
theorem dL_toggle_18 : decode cL_toggle 18 = .ok (.lastore, 1) := by decide +kernel
theorem dL_toggle_19 : decode cL_toggle 19 = .ok (.goto 11, 3) := by decide +kernel
theorem dL_toggle_22 : decode cL_toggle 22 = .ok (.astore 5, 2) := by decide +kernel
theorem dL_toggle_24 : decode cL_toggle 24 = .ok (.iconst 1, 1) := by decide +kernel
theorem dL_toggle_25 : decode cL_toggle 25 = .ok (.ireturn, 1) := by decide +kernel
theorem dL_toggle_26 : decode cL_toggle 26 = .ok (.astore 5, 2) := by decide +kernel
theorem dL_toggle_28 : decode cL_toggle 28 = .ok (.iconst 2, 1) := by decide +kernel
theorem dL_toggle_29 : decode cL_toggle 29 = .ok (.ireturn, 1) := by decide +kernel
theorem dL_toggle_30 : decode cL_toggle 30 = .ok (.iconst 0, 1) := by decide +kernel
theorem dL_toggle_31 : decode cL_toggle 31 = .ok (.ireturn, 1) := by decide +kernel
set_option maxRecDepth 20000 in
theorem ggL_toggle_X7_toggle : GoodIn wsL_toggle wsX7_toggle := goodIn_ca (goodIn_ca (goodIn_r _ [7, 8, 9, 10, 11, 12, 6, 13, 14, 15, 16, 17, 18, 19, 20, 21, 22, 23, 24, 25, 26, 27, 28, 29, 30, 31, 32, 33, 34, 35, 36, 37, 38] (by decide +kernel) (by decide +kernel)) (goodIn_sub (fun _ h => List.mem_cons_of_mem _ (List.mem_append_left _ (List.mem_append_right _ h))) (by decide +kernel))) (goodIn_sub (fun _ h => List.mem_cons_of_mem _ (List.mem_append_right _ h)) (by decide +kernel))
set_option maxRecDepth 20000 in
theorem gL_toggle_X7_toggle : GoodIn wsL_toggle (wsV RL 17 RX7 yX7_toggle wsX7_toggle) := goodIn_app (goodIn_of _ (by decide +kernel)) ggL_toggle_X7_toggle
theorem wd_L_toggle_0 : Cond.classLink RL 13 "java/lang/IndexOutOfBoundsException" ∈ wsL_toggle := by decide +kernel
theorem wd_L_toggle_1 : Cond.classLink RL 15 "java/lang/IllegalArgumentException" ∈ wsL_toggle := by decide +kernel
def r_L_toggle : Room := { frames := 8, cells := 4, slots := 24, locals := 135 }
set_option maxRecDepth 100000 in
set_option maxHeartbeats 4000000 in
theorem w_L_toggle_18 {K : zK} (hk : zIs K RL cL_toggle 6 wsL_toggle (some .int) r_L_toggle) (hfl : (kL K).stackTraces = false) (tb : (kC K).exceptionTable.toList = tableOf [(0, 19, 22, 13), (0, 19, 26, 15)]) {r0 : Int32} {τ0 : zST} (hq : zQX K (.inr (some (.int r0))) τ0) (F : Nat) (ln : Nat) (t0 : Int64) (t1 : Int32) (t2 : Nat) (ht2 : aJ (kZ K) t2 ln) (σ : zST) (h : m_L_toggle_18 F ln t0 t1 t2 σ = some (r0, τ0)) : Z K 4 24 18 [] [.long t0, .int t1, .ref (eA (kZ K) t2)] σ := by
  unfold m_L_toggle_18 at h
  obtain ⟨i12, s10, e11, h⟩ := stL_get h
  refine Z_last hk ht2 i12 dL_toggle_18 ?_
  refine Z_eqS e11 ?_
  refine Z_goto hk (tgt := 30) dL_toggle_19 (by decide) ?_
  refine Z_iconst hk dL_toggle_30 zc_iconst_0 ?_
  cases h
  exact ZX_iret hk hq ⟨Nat.le_of_ble_eq_true rfl, Nat.le_of_ble_eq_true rfl⟩ dL_toggle_31
set_option maxRecDepth 100000 in
set_option maxHeartbeats 4000000 in
theorem w_L_toggle {K : zK} (hk : zIs K RL cL_toggle 6 wsL_toggle (some .int) r_L_toggle) (hfl : (kL K).stackTraces = false) (tb : (kC K).exceptionTable.toList = tableOf [(0, 19, 22, 13), (0, 19, 26, 15)]) {r0 : Int32} {τ0 : zST} (hq : zQX K (.inr (some (.int r0))) τ0) (F : Nat) (ln : Nat) (a0 : Nat) (a1 : Int32) (a2 : Int32) (a3 : Int32) (a4 : Nat) (ha0 : atCanonCote (kZ K) a0) (ha4 : aJ (kZ K) a4 ln) (σ : zST) (h : m_L_toggle F ln a0 a1 a2 a3 a4 σ = some (r0, τ0)) : Z K 0 0 0 [(0, .ref (eA (kZ K) a0)), (1, .int a1), (2, .int a2), (3, .int a3), (4, .ref (eA (kZ K) a4))] [] σ := by
  unfold m_L_toggle at h
  refine Z_aload hk 4 dL_toggle_0 rfl ?_
  refine Z_iconst hk dL_toggle_2 zc_iconst_0 ?_
  refine Z_aload_n hk 0 dL_toggle_3 rfl rfl ?_
  refine Z_iload_n hk 1 dL_toggle_4 rfl rfl ?_
  refine Z_iload_n hk 2 dL_toggle_5 rfl rfl ?_
  refine Z_iload_n hk 3 dL_toggle_6 rfl rfl ?_
  rcases bc_ok h with ⟨e4, s2, h3, h⟩ | ⟨x1, s2, h3, h⟩
  · skip
    by_cases c7 : e4 = "java/lang/IndexOutOfBoundsException"
    · have h := if_yes h c7
      subst c7
      refine ZX_callV 3 hk [.int a1, .int a2, .int a3] (c_X7_toggle hk.loc hk.inj hfl F a0 a1 a2 a3 ha0 σ h3) gL_toggle_X7_toggle rfl ⟨rfl, by decide +kernel, by decide +kernel, by decide +kernel⟩ ⟨Nat.le_of_ble_eq_true rfl, Nat.le_of_ble_eq_true rfl⟩ ha0.cell.1 (ha0.cell.2 _) rfl rfl rfl (Nat.le_of_ble_eq_true rfl) ⟨Nat.le_of_ble_eq_true rfl, Nat.le_of_ble_eq_true rfl⟩ dL_toggle_7 (fun X hX => ?_) (fun v hv => by cases hv)
      cases hX
      refine Y_catch hk tb [] ⟨0, 19, 22, 13⟩ [⟨0, 19, 26, 15⟩] rfl (fun z hz => by cases hz) (by decide) (by decide) wd_L_toggle_0 (hk.nest gw_15) rfl (fun q6 => ?_)
      refine Z_astore hk (lv' := [(5, .ref q6), (0, .ref (eA (kZ K) a0)), (1, .int a1), (2, .int a2), (3, .int a3), (4, .ref (eA (kZ K) a4))]) dL_toggle_22 (by decide) rfl ?_
      refine Z_iconst hk dL_toggle_24 zc_iconst_1 ?_
      cases h
      exact ZX_iret hk hq ⟨Nat.le_of_ble_eq_true rfl, Nat.le_of_ble_eq_true rfl⟩ dL_toggle_25
    have h := if_no h c7
    by_cases c9 : e4 = "java/lang/IllegalArgumentException"
    · have h := if_yes h c9
      subst c9
      refine ZX_callV 3 hk [.int a1, .int a2, .int a3] (c_X7_toggle hk.loc hk.inj hfl F a0 a1 a2 a3 ha0 σ h3) gL_toggle_X7_toggle rfl ⟨rfl, by decide +kernel, by decide +kernel, by decide +kernel⟩ ⟨Nat.le_of_ble_eq_true rfl, Nat.le_of_ble_eq_true rfl⟩ ha0.cell.1 (ha0.cell.2 _) rfl rfl rfl (Nat.le_of_ble_eq_true rfl) ⟨Nat.le_of_ble_eq_true rfl, Nat.le_of_ble_eq_true rfl⟩ dL_toggle_7 (fun X hX => ?_) (fun v hv => by cases hv)
      cases hX
      refine Y_catch hk tb [⟨0, 19, 22, 13⟩] ⟨0, 19, 26, 15⟩ [] rfl (fun z hz => by cases List.mem_singleton.mp hz; exact Or.inr ⟨by decide, "java/lang/IndexOutOfBoundsException", wd_L_toggle_0, hk.env.2.2.2.2.2 _ gw_16⟩) (by decide) (by decide) wd_L_toggle_1 (hk.nest gw_17) rfl (fun q8 => ?_)
      refine Z_astore hk (lv' := [(5, .ref q8), (0, .ref (eA (kZ K) a0)), (1, .int a1), (2, .int a2), (3, .int a3), (4, .ref (eA (kZ K) a4))]) dL_toggle_26 (by decide) rfl ?_
      refine Z_iconst hk dL_toggle_28 zc_iconst_2 ?_
      cases h
      exact ZX_iret hk hq ⟨Nat.le_of_ble_eq_true rfl, Nat.le_of_ble_eq_true rfl⟩ dL_toggle_29
    have h := if_no h c9
    cases h
  · refine ZX_callV 3 hk [.int a1, .int a2, .int a3] (c_X7_toggle hk.loc hk.inj hfl F a0 a1 a2 a3 ha0 σ h3) gL_toggle_X7_toggle rfl ⟨rfl, by decide +kernel, by decide +kernel, by decide +kernel⟩ ⟨Nat.le_of_ble_eq_true rfl, Nat.le_of_ble_eq_true rfl⟩ ha0.cell.1 (ha0.cell.2 _) rfl rfl rfl (Nat.le_of_ble_eq_true rfl) ⟨Nat.le_of_ble_eq_true rfl, Nat.le_of_ble_eq_true rfl⟩ dL_toggle_7 (fun X hX => by cases hX) (fun v hv => ?_)
    cases hv
    show Z K 4 24 10 [(0, .ref (eA (kZ K) a0)), (1, .int a1), (2, .int a2), (3, .int a3), (4, .ref (eA (kZ K) a4))] [.int x1, .int 0, .ref (eA (kZ K) a4)] s2
    refine Z_if_eq hk (tgt := 17) dL_toggle_10 (by decide) (fun c5 => ?_) (fun c5 => ?_)
    · have h := if_yes h c5
      refine Z_lconst hk dL_toggle_17 (v := 0) rfl ?_
      refine Z_sub [] rfl ?_
      exact w_L_toggle_18 hk hfl tb hq F ln 0 0 a4 ha4 s2 h
    · have h := if_no h c5
      refine Z_lconst hk dL_toggle_13 (v := 1) rfl ?_
      refine Z_goto hk (tgt := 18) dL_toggle_14 (by decide) ?_
      refine Z_sub [] rfl ?_
      exact w_L_toggle_18 hk hfl tb hq F ln 1 0 a4 ha4 s2 h
theorem c_L_toggle {l : Launch} {E : zE} (hL : eL E) (hJ : eJ E) (hfl : l.stackTraces = false) (F : Nat) (ln : Nat) (a0 : Nat) (a1 : Int32) (a2 : Int32) (a3 : Int32) (a4 : Nat) (ha0 : atCanonCote E a0) (ha4 : aJ E a4 ln) (σ : zST) {r0 : Int32} {τ0 : zST} (h : m_L_toggle F ln a0 a1 a2 a3 a4 σ = some (r0, τ0)) : CtX l yL_toggle wsL_toggle r_L_toggle E [.ref (eA E a0), .int a1, .int a2, .int a3, .ref (eA E a4)] σ (.inr (some (.int r0))) τ0 := by
  refine CtX_ofH (hh := [(0, 19, 22, 13), (0, 19, 26, 15)]) (by decide) rfl hL hJ (Nat.le_of_ble_eq_true rfl) (fun K hE hl hk htb hq => ?_)
  subst hE
  subst hl
  exact w_L_toggle hk hfl htb hq F ln a0 a1 a2 a3 a4 ha0 ha4 σ h
end

-- CanonCoteLaw.setColour (LCanonCote;III[J)I
section
theorem dL_setColour_0 : decode cL_setColour 0 = .ok (.aload 4, 2) := by decide +kernel
theorem dL_setColour_2 : decode cL_setColour 2 = .ok (.iconst 0, 1) := by decide +kernel
theorem dL_setColour_3 : decode cL_setColour 3 = .ok (.aload_n 0, 1) := by decide +kernel
theorem dL_setColour_4 : decode cL_setColour 4 = .ok (.iload_n 1, 1) := by decide +kernel
theorem dL_setColour_5 : decode cL_setColour 5 = .ok (.iload_n 2, 1) := by decide +kernel
theorem dL_setColour_6 : decode cL_setColour 6 = .ok (.iload_n 3, 1) := by decide +kernel
theorem dL_setColour_7 : decode cL_setColour 7 = .ok (.invokevirtual 21, 3) := by decide +kernel
theorem dL_setColour_10 : decode cL_setColour 10 = .ok (.i2l, 1) := by decide +kernel
theorem dL_setColour_11 : decode cL_setColour 11 = .ok (.lastore, 1) := by decide +kernel
theorem dL_setColour_12 : decode cL_setColour 12 = .ok (.goto 11, 3) := by decide +kernel
theorem dL_setColour_15 : decode cL_setColour 15 = .ok (.astore 5, 2) := by decide +kernel
theorem dL_setColour_17 : decode cL_setColour 17 = .ok (.iconst 1, 1) := by decide +kernel
theorem dL_setColour_18 : decode cL_setColour 18 = .ok (.ireturn, 1) := by decide +kernel
theorem dL_setColour_19 : decode cL_setColour 19 = .ok (.astore 5, 2) := by decide +kernel
theorem dL_setColour_21 : decode cL_setColour 21 = .ok (.iconst 2, 1) := by decide +kernel
theorem dL_setColour_22 : decode cL_setColour 22 = .ok (.ireturn, 1) := by decide +kernel
theorem dL_setColour_23 : decode cL_setColour 23 = .ok (.iconst 0, 1) := by decide +kernel
theorem dL_setColour_24 : decode cL_setColour 24 = .ok (.ireturn, 1) := by decide +kernel
set_option maxRecDepth 20000 in
theorem ggL_setColour_X7_setColour : GoodIn wsL_setColour wsX7_setColour := goodIn_ca (goodIn_ca (goodIn_r _ [7, 8, 9, 10, 11, 12, 6, 13, 14, 15, 16, 17, 18, 19, 20, 21, 22, 23, 24, 25, 26, 27, 28] (by decide +kernel) (by decide +kernel)) (goodIn_sub (fun _ h => List.mem_cons_of_mem _ (List.mem_append_left _ (List.mem_append_right _ h))) (by decide +kernel))) (goodIn_sub (fun _ h => List.mem_cons_of_mem _ (List.mem_append_right _ h)) (by decide +kernel))
set_option maxRecDepth 20000 in
theorem gL_setColour_X7_setColour : GoodIn wsL_setColour (wsV RL 21 RX7 yX7_setColour wsX7_setColour) := goodIn_app (goodIn_of _ (by decide +kernel)) ggL_setColour_X7_setColour
theorem wd_L_setColour_0 : Cond.classLink RL 13 "java/lang/IndexOutOfBoundsException" ∈ wsL_setColour := by decide +kernel
theorem wd_L_setColour_1 : Cond.classLink RL 15 "java/lang/IllegalArgumentException" ∈ wsL_setColour := by decide +kernel
def r_L_setColour : Room := { frames := 8, cells := 3, slots := 18, locals := 136 }
set_option maxRecDepth 100000 in
set_option maxHeartbeats 4000000 in
theorem w_L_setColour {K : zK} (hk : zIs K RL cL_setColour 6 wsL_setColour (some .int) r_L_setColour) (hfl : (kL K).stackTraces = false) (tb : (kC K).exceptionTable.toList = tableOf [(0, 12, 15, 13), (0, 12, 19, 15)]) {r0 : Int32} {τ0 : zST} (hq : zQX K (.inr (some (.int r0))) τ0) (F : Nat) (ln : Nat) (a0 : Nat) (a1 : Int32) (a2 : Int32) (a3 : Int32) (a4 : Nat) (ha0 : atCanonCote (kZ K) a0) (ha4 : aJ (kZ K) a4 ln) (σ : zST) (h : m_L_setColour F ln a0 a1 a2 a3 a4 σ = some (r0, τ0)) : Z K 0 0 0 [(0, .ref (eA (kZ K) a0)), (1, .int a1), (2, .int a2), (3, .int a3), (4, .ref (eA (kZ K) a4))] [] σ := by
  unfold m_L_setColour at h
  refine Z_aload hk 4 dL_setColour_0 rfl ?_
  refine Z_iconst hk dL_setColour_2 zc_iconst_0 ?_
  refine Z_aload_n hk 0 dL_setColour_3 rfl rfl ?_
  refine Z_iload_n hk 1 dL_setColour_4 rfl rfl ?_
  refine Z_iload_n hk 2 dL_setColour_5 rfl rfl ?_
  refine Z_iload_n hk 3 dL_setColour_6 rfl rfl ?_
  rcases bc_ok h with ⟨e4, s2, h3, h⟩ | ⟨x1, s2, h3, h⟩
  · skip
    by_cases c9 : e4 = "java/lang/IndexOutOfBoundsException"
    · have h := if_yes h c9
      subst c9
      refine ZX_callV 3 hk [.int a1, .int a2, .int a3] (c_X7_setColour hk.loc hk.inj hfl F a0 a1 a2 a3 ha0 σ h3) gL_setColour_X7_setColour rfl ⟨rfl, by decide +kernel, by decide +kernel, by decide +kernel⟩ ⟨Nat.le_of_ble_eq_true rfl, Nat.le_of_ble_eq_true rfl⟩ ha0.cell.1 (ha0.cell.2 _) rfl rfl rfl (Nat.le_of_ble_eq_true rfl) ⟨Nat.le_of_ble_eq_true rfl, Nat.le_of_ble_eq_true rfl⟩ dL_setColour_7 (fun X hX => ?_) (fun v hv => by cases hv)
      cases hX
      refine Y_catch hk tb [] ⟨0, 12, 15, 13⟩ [⟨0, 12, 19, 15⟩] rfl (fun z hz => by cases hz) (by decide) (by decide) wd_L_setColour_0 (hk.nest gw_15) rfl (fun q8 => ?_)
      refine Z_astore hk (lv' := [(5, .ref q8), (0, .ref (eA (kZ K) a0)), (1, .int a1), (2, .int a2), (3, .int a3), (4, .ref (eA (kZ K) a4))]) dL_setColour_15 (by decide) rfl ?_
      refine Z_iconst hk dL_setColour_17 zc_iconst_1 ?_
      cases h
      exact ZX_iret hk hq ⟨Nat.le_of_ble_eq_true rfl, Nat.le_of_ble_eq_true rfl⟩ dL_setColour_18
    have h := if_no h c9
    by_cases c11 : e4 = "java/lang/IllegalArgumentException"
    · have h := if_yes h c11
      subst c11
      refine ZX_callV 3 hk [.int a1, .int a2, .int a3] (c_X7_setColour hk.loc hk.inj hfl F a0 a1 a2 a3 ha0 σ h3) gL_setColour_X7_setColour rfl ⟨rfl, by decide +kernel, by decide +kernel, by decide +kernel⟩ ⟨Nat.le_of_ble_eq_true rfl, Nat.le_of_ble_eq_true rfl⟩ ha0.cell.1 (ha0.cell.2 _) rfl rfl rfl (Nat.le_of_ble_eq_true rfl) ⟨Nat.le_of_ble_eq_true rfl, Nat.le_of_ble_eq_true rfl⟩ dL_setColour_7 (fun X hX => ?_) (fun v hv => by cases hv)
      cases hX
      refine Y_catch hk tb [⟨0, 12, 15, 13⟩] ⟨0, 12, 19, 15⟩ [] rfl (fun z hz => by cases List.mem_singleton.mp hz; exact Or.inr ⟨by decide, "java/lang/IndexOutOfBoundsException", wd_L_setColour_0, hk.env.2.2.2.2.2 _ gw_16⟩) (by decide) (by decide) wd_L_setColour_1 (hk.nest gw_17) rfl (fun q10 => ?_)
      refine Z_astore hk (lv' := [(5, .ref q10), (0, .ref (eA (kZ K) a0)), (1, .int a1), (2, .int a2), (3, .int a3), (4, .ref (eA (kZ K) a4))]) dL_setColour_19 (by decide) rfl ?_
      refine Z_iconst hk dL_setColour_21 zc_iconst_2 ?_
      cases h
      exact ZX_iret hk hq ⟨Nat.le_of_ble_eq_true rfl, Nat.le_of_ble_eq_true rfl⟩ dL_setColour_22
    have h := if_no h c11
    cases h
  · refine ZX_callV 3 hk [.int a1, .int a2, .int a3] (c_X7_setColour hk.loc hk.inj hfl F a0 a1 a2 a3 ha0 σ h3) gL_setColour_X7_setColour rfl ⟨rfl, by decide +kernel, by decide +kernel, by decide +kernel⟩ ⟨Nat.le_of_ble_eq_true rfl, Nat.le_of_ble_eq_true rfl⟩ ha0.cell.1 (ha0.cell.2 _) rfl rfl rfl (Nat.le_of_ble_eq_true rfl) ⟨Nat.le_of_ble_eq_true rfl, Nat.le_of_ble_eq_true rfl⟩ dL_setColour_7 (fun X hX => by cases hX) (fun v hv => ?_)
    cases hv
    show Z K 3 18 10 [(0, .ref (eA (kZ K) a0)), (1, .int a1), (2, .int a2), (3, .int a3), (4, .ref (eA (kZ K) a4))] [.int x1, .int 0, .ref (eA (kZ K) a4)] s2
    refine Z_i2l hk dL_setColour_10 ?_
    obtain ⟨i7, s5, e6, h⟩ := stL_get h
    refine Z_last hk ha4 i7 dL_setColour_11 ?_
    refine Z_eqS e6 ?_
    refine Z_goto hk (tgt := 23) dL_setColour_12 (by decide) ?_
    refine Z_iconst hk dL_setColour_23 zc_iconst_0 ?_
    cases h
    exact ZX_iret hk hq ⟨Nat.le_of_ble_eq_true rfl, Nat.le_of_ble_eq_true rfl⟩ dL_setColour_24
theorem c_L_setColour {l : Launch} {E : zE} (hL : eL E) (hJ : eJ E) (hfl : l.stackTraces = false) (F : Nat) (ln : Nat) (a0 : Nat) (a1 : Int32) (a2 : Int32) (a3 : Int32) (a4 : Nat) (ha0 : atCanonCote E a0) (ha4 : aJ E a4 ln) (σ : zST) {r0 : Int32} {τ0 : zST} (h : m_L_setColour F ln a0 a1 a2 a3 a4 σ = some (r0, τ0)) : CtX l yL_setColour wsL_setColour r_L_setColour E [.ref (eA E a0), .int a1, .int a2, .int a3, .ref (eA E a4)] σ (.inr (some (.int r0))) τ0 := by
  refine CtX_ofH (hh := [(0, 12, 15, 13), (0, 12, 19, 15)]) (by decide) rfl hL hJ (Nat.le_of_ble_eq_true rfl) (fun K hE hl hk htb hq => ?_)
  subst hE
  subst hl
  exact w_L_setColour hk hfl htb hq F ln a0 a1 a2 a3 a4 ha0 ha4 σ h
end

-- CanonCoteLaw.swap (LCanonCote;III)I
section
theorem dL_swap_0 : decode cL_swap 0 = .ok (.aload_n 0, 1) := by decide +kernel
theorem dL_swap_1 : decode cL_swap 1 = .ok (.iload_n 1, 1) := by decide +kernel
theorem dL_swap_2 : decode cL_swap 2 = .ok (.iload_n 2, 1) := by decide +kernel
theorem dL_swap_3 : decode cL_swap 3 = .ok (.iload_n 3, 1) := by decide +kernel
theorem dL_swap_4 : decode cL_swap 4 = .ok (.invokevirtual 25, 3) := by decide +kernel
theorem dL_swap_7 : decode cL_swap 7 = .ok (.goto 7, 3) := by decide +kernel
theorem dL_swap_10 : decode cL_swap 10 = .ok (.astore 4, 2) := by decide +kernel
theorem dL_swap_12 : decode cL_swap 12 = .ok (.iconst 1, 1) := by decide +kernel
theorem dL_swap_13 : decode cL_swap 13 = .ok (.ireturn, 1) := by decide +kernel
theorem dL_swap_14 : decode cL_swap 14 = .ok (.iconst 0, 1) := by decide +kernel
theorem dL_swap_15 : decode cL_swap 15 = .ok (.ireturn, 1) := by decide +kernel
set_option maxRecDepth 20000 in
theorem ggL_swap_X7_swap : GoodIn wsL_swap wsX7_swap := goodIn_ca (goodIn_r _ [6, 7, 8, 9, 5, 10, 11, 12, 13, 14, 15, 16, 17, 18, 19, 20, 21, 22, 23, 24, 25, 26, 27, 28, 29, 30, 31, 32, 33, 34] (by decide +kernel) (by decide +kernel)) (goodIn_sub (fun _ h => List.mem_cons_of_mem _ (List.mem_append_right _ h)) (by decide +kernel))
set_option maxRecDepth 20000 in
theorem gL_swap_X7_swap : GoodIn wsL_swap (wsV RL 25 RX7 yX7_swap wsX7_swap) := goodIn_app (goodIn_of _ (by decide +kernel)) ggL_swap_X7_swap
theorem wd_L_swap_0 : Cond.classLink RL 13 "java/lang/IndexOutOfBoundsException" ∈ wsL_swap := by decide +kernel
def r_L_swap : Room := { frames := 8, cells := 3, slots := 18, locals := 135 }
set_option maxRecDepth 100000 in
set_option maxHeartbeats 4000000 in
theorem w_L_swap {K : zK} (hk : zIs K RL cL_swap 5 wsL_swap (some .int) r_L_swap) (hfl : (kL K).stackTraces = false) (tb : (kC K).exceptionTable.toList = tableOf [(0, 7, 10, 13)]) {r0 : Int32} {τ0 : zST} (hq : zQX K (.inr (some (.int r0))) τ0) (F : Nat) (a0 : Nat) (a1 : Int32) (a2 : Int32) (a3 : Int32) (ha0 : atCanonCote (kZ K) a0) (σ : zST) (h : m_L_swap F a0 a1 a2 a3 σ = some (r0, τ0)) : Z K 0 0 0 [(0, .ref (eA (kZ K) a0)), (1, .int a1), (2, .int a2), (3, .int a3)] [] σ := by
  unfold m_L_swap at h
  refine Z_aload_n hk 0 dL_swap_0 rfl rfl ?_
  refine Z_iload_n hk 1 dL_swap_1 rfl rfl ?_
  refine Z_iload_n hk 2 dL_swap_2 rfl rfl ?_
  refine Z_iload_n hk 3 dL_swap_3 rfl rfl ?_
  rcases bc_ok h with ⟨e4, s2, h3, h⟩ | ⟨x1, s2, h3, h⟩
  · skip
    by_cases c6 : e4 = "java/lang/IndexOutOfBoundsException"
    · have h := if_yes h c6
      subst c6
      refine ZX_callV 3 hk [.int a1, .int a2, .int a3] (c_X7_swap hk.loc hk.inj hfl F a0 a1 a2 a3 ha0 σ h3) gL_swap_X7_swap rfl ⟨rfl, by decide +kernel, by decide +kernel, by decide +kernel⟩ ⟨Nat.le_of_ble_eq_true rfl, Nat.le_of_ble_eq_true rfl⟩ ha0.cell.1 (ha0.cell.2 _) rfl rfl rfl (Nat.le_of_ble_eq_true rfl) ⟨Nat.le_of_ble_eq_true rfl, Nat.le_of_ble_eq_true rfl⟩ dL_swap_4 (fun X hX => ?_) (fun v hv => by cases hv)
      cases hX
      refine Y_catch hk tb [] ⟨0, 7, 10, 13⟩ [] rfl (fun z hz => by cases hz) (by decide) (by decide) wd_L_swap_0 (hk.nest gw_15) rfl (fun q5 => ?_)
      refine Z_astore hk (lv' := [(4, .ref q5), (0, .ref (eA (kZ K) a0)), (1, .int a1), (2, .int a2), (3, .int a3)]) dL_swap_10 (by decide) rfl ?_
      refine Z_iconst hk dL_swap_12 zc_iconst_1 ?_
      cases h
      exact ZX_iret hk hq ⟨Nat.le_of_ble_eq_true rfl, Nat.le_of_ble_eq_true rfl⟩ dL_swap_13
    have h := if_no h c6
    cases h
  · refine ZX_callV 3 hk [.int a1, .int a2, .int a3] (c_X7_swap hk.loc hk.inj hfl F a0 a1 a2 a3 ha0 σ h3) gL_swap_X7_swap rfl ⟨rfl, by decide +kernel, by decide +kernel, by decide +kernel⟩ ⟨Nat.le_of_ble_eq_true rfl, Nat.le_of_ble_eq_true rfl⟩ ha0.cell.1 (ha0.cell.2 _) rfl rfl rfl (Nat.le_of_ble_eq_true rfl) ⟨Nat.le_of_ble_eq_true rfl, Nat.le_of_ble_eq_true rfl⟩ dL_swap_4 (fun X hX => by cases hX) (fun v hv => ?_)
    cases hv
    show Z K 3 18 7 [(0, .ref (eA (kZ K) a0)), (1, .int a1), (2, .int a2), (3, .int a3)] [] s2
    refine Z_goto hk (tgt := 14) dL_swap_7 (by decide) ?_
    refine Z_iconst hk dL_swap_14 zc_iconst_0 ?_
    cases h
    exact ZX_iret hk hq ⟨Nat.le_of_ble_eq_true rfl, Nat.le_of_ble_eq_true rfl⟩ dL_swap_15
theorem c_L_swap {l : Launch} {E : zE} (hL : eL E) (hJ : eJ E) (hfl : l.stackTraces = false) (F : Nat) (a0 : Nat) (a1 : Int32) (a2 : Int32) (a3 : Int32) (ha0 : atCanonCote E a0) (σ : zST) {r0 : Int32} {τ0 : zST} (h : m_L_swap F a0 a1 a2 a3 σ = some (r0, τ0)) : CtX l yL_swap wsL_swap r_L_swap E [.ref (eA E a0), .int a1, .int a2, .int a3] σ (.inr (some (.int r0))) τ0 := by
  refine CtX_ofH (hh := [(0, 7, 10, 13)]) (by decide) rfl hL hJ (Nat.le_of_ble_eq_true rfl) (fun K hE hl hk htb hq => ?_)
  subst hE
  subst hl
  exact w_L_swap hk hfl htb hq F a0 a1 a2 a3 ha0 σ h
end

-- CanonCoteLaw.copy (LCanonCote;II)I
section
theorem dL_copy_0 : decode cL_copy 0 = .ok (.aload_n 0, 1) := by decide +kernel
theorem dL_copy_1 : decode cL_copy 1 = .ok (.iload_n 1, 1) := by decide +kernel
theorem dL_copy_2 : decode cL_copy 2 = .ok (.iload_n 2, 1) := by decide +kernel
theorem dL_copy_3 : decode cL_copy 3 = .ok (.invokevirtual 29, 3) := by decide +kernel
theorem dL_copy_6 : decode cL_copy 6 = .ok (.goto 6, 3) := by decide +kernel
theorem dL_copy_9 : decode cL_copy 9 = .ok (.astore_n 3, 1) := by decide +kernel
theorem dL_copy_10 : decode cL_copy 10 = .ok (.iconst 1, 1) := by decide +kernel
theorem dL_copy_11 : decode cL_copy 11 = .ok (.ireturn, 1) := by decide +kernel
theorem dL_copy_12 : decode cL_copy 12 = .ok (.iconst 0, 1) := by decide +kernel
theorem dL_copy_13 : decode cL_copy 13 = .ok (.ireturn, 1) := by decide +kernel
set_option maxRecDepth 20000 in
theorem ggL_copy_X7_copy : GoodIn wsL_copy wsX7_copy := goodIn_ca (goodIn_r _ [6, 7, 8, 9, 5, 10, 11, 12, 13, 14, 15, 16, 17, 18, 19, 20, 21, 22, 23, 24, 25, 26, 27, 28, 29] (by decide +kernel) (by decide +kernel)) (goodIn_sub (fun _ h => List.mem_cons_of_mem _ (List.mem_append_right _ h)) (by decide +kernel))
set_option maxRecDepth 20000 in
theorem gL_copy_X7_copy : GoodIn wsL_copy (wsV RL 29 RX7 yX7_copy wsX7_copy) := goodIn_app (goodIn_of _ (by decide +kernel)) ggL_copy_X7_copy
theorem wd_L_copy_0 : Cond.classLink RL 13 "java/lang/IndexOutOfBoundsException" ∈ wsL_copy := by decide +kernel
def r_L_copy : Room := { frames := 8, cells := 2, slots := 12, locals := 134 }
set_option maxRecDepth 100000 in
set_option maxHeartbeats 4000000 in
theorem w_L_copy {K : zK} (hk : zIs K RL cL_copy 4 wsL_copy (some .int) r_L_copy) (hfl : (kL K).stackTraces = false) (tb : (kC K).exceptionTable.toList = tableOf [(0, 6, 9, 13)]) {r0 : Int32} {τ0 : zST} (hq : zQX K (.inr (some (.int r0))) τ0) (F : Nat) (a0 : Nat) (a1 : Int32) (a2 : Int32) (ha0 : atCanonCote (kZ K) a0) (σ : zST) (h : m_L_copy F a0 a1 a2 σ = some (r0, τ0)) : Z K 0 0 0 [(0, .ref (eA (kZ K) a0)), (1, .int a1), (2, .int a2)] [] σ := by
  unfold m_L_copy at h
  refine Z_aload_n hk 0 dL_copy_0 rfl rfl ?_
  refine Z_iload_n hk 1 dL_copy_1 rfl rfl ?_
  refine Z_iload_n hk 2 dL_copy_2 rfl rfl ?_
  rcases bc_ok h with ⟨e4, s2, h3, h⟩ | ⟨x1, s2, h3, h⟩
  · skip
    by_cases c6 : e4 = "java/lang/IndexOutOfBoundsException"
    · have h := if_yes h c6
      subst c6
      refine ZX_callV 2 hk [.int a1, .int a2] (c_X7_copy hk.loc hk.inj hfl F a0 a1 a2 ha0 σ h3) gL_copy_X7_copy rfl ⟨rfl, by decide +kernel, by decide +kernel, by decide +kernel⟩ ⟨Nat.le_of_ble_eq_true rfl, Nat.le_of_ble_eq_true rfl⟩ ha0.cell.1 (ha0.cell.2 _) rfl rfl rfl (Nat.le_of_ble_eq_true rfl) ⟨Nat.le_of_ble_eq_true rfl, Nat.le_of_ble_eq_true rfl⟩ dL_copy_3 (fun X hX => ?_) (fun v hv => by cases hv)
      cases hX
      refine Y_catch hk tb [] ⟨0, 6, 9, 13⟩ [] rfl (fun z hz => by cases hz) (by decide) (by decide) wd_L_copy_0 (hk.nest gw_15) rfl (fun q5 => ?_)
      refine Z_astore_n hk (lv' := [(3, .ref q5), (0, .ref (eA (kZ K) a0)), (1, .int a1), (2, .int a2)]) dL_copy_9 rfl (by decide) rfl ?_
      refine Z_iconst hk dL_copy_10 zc_iconst_1 ?_
      cases h
      exact ZX_iret hk hq ⟨Nat.le_of_ble_eq_true rfl, Nat.le_of_ble_eq_true rfl⟩ dL_copy_11
    have h := if_no h c6
    cases h
  · refine ZX_callV 2 hk [.int a1, .int a2] (c_X7_copy hk.loc hk.inj hfl F a0 a1 a2 ha0 σ h3) gL_copy_X7_copy rfl ⟨rfl, by decide +kernel, by decide +kernel, by decide +kernel⟩ ⟨Nat.le_of_ble_eq_true rfl, Nat.le_of_ble_eq_true rfl⟩ ha0.cell.1 (ha0.cell.2 _) rfl rfl rfl (Nat.le_of_ble_eq_true rfl) ⟨Nat.le_of_ble_eq_true rfl, Nat.le_of_ble_eq_true rfl⟩ dL_copy_3 (fun X hX => by cases hX) (fun v hv => ?_)
    cases hv
    show Z K 2 12 6 [(0, .ref (eA (kZ K) a0)), (1, .int a1), (2, .int a2)] [] s2
    refine Z_goto hk (tgt := 12) dL_copy_6 (by decide) ?_
    refine Z_iconst hk dL_copy_12 zc_iconst_0 ?_
    cases h
    exact ZX_iret hk hq ⟨Nat.le_of_ble_eq_true rfl, Nat.le_of_ble_eq_true rfl⟩ dL_copy_13
theorem c_L_copy {l : Launch} {E : zE} (hL : eL E) (hJ : eJ E) (hfl : l.stackTraces = false) (F : Nat) (a0 : Nat) (a1 : Int32) (a2 : Int32) (ha0 : atCanonCote E a0) (σ : zST) {r0 : Int32} {τ0 : zST} (h : m_L_copy F a0 a1 a2 σ = some (r0, τ0)) : CtX l yL_copy wsL_copy r_L_copy E [.ref (eA E a0), .int a1, .int a2] σ (.inr (some (.int r0))) τ0 := by
  refine CtX_ofH (hh := [(0, 6, 9, 13)]) (by decide) rfl hL hJ (Nat.le_of_ble_eq_true rfl) (fun K hE hl hk htb hq => ?_)
  subst hE
  subst hl
  exact w_L_copy hk hfl htb hq F a0 a1 a2 ha0 σ h
end

-- CanonCoteLaw.complement (LCanonCote;I[J)I
section
theorem dL_complement_0 : decode cL_complement 0 = .ok (.aload_n 2, 1) := by decide +kernel
theorem dL_complement_1 : decode cL_complement 1 = .ok (.iconst 0, 1) := by decide +kernel
theorem dL_complement_2 : decode cL_complement 2 = .ok (.aload_n 0, 1) := by decide +kernel
theorem dL_complement_3 : decode cL_complement 3 = .ok (.iload_n 1, 1) := by decide +kernel
theorem dL_complement_4 : decode cL_complement 4 = .ok (.invokevirtual 33, 3) := by decide +kernel
theorem dL_complement_7 : decode cL_complement 7 = .ok (.i2l, 1) := by decide +kernel
theorem dL_complement_8 : decode cL_complement 8 = .ok (.lastore, 1) := by decide +kernel
theorem dL_complement_9 : decode cL_complement 9 = .ok (.goto 6, 3) := by decide +kernel
theorem dL_complement_12 : decode cL_complement 12 = .ok (.astore_n 3, 1) := by decide +kernel
theorem dL_complement_13 : decode cL_complement 13 = .ok (.iconst 1, 1) := by decide +kernel
theorem dL_complement_14 : decode cL_complement 14 = .ok (.ireturn, 1) := by decide +kernel
theorem dL_complement_15 : decode cL_complement 15 = .ok (.iconst 0, 1) := by decide +kernel
theorem dL_complement_16 : decode cL_complement 16 = .ok (.ireturn, 1) := by decide +kernel
set_option maxRecDepth 20000 in
theorem ggL_complement_X7_complement : GoodIn wsL_complement wsX7_complement := goodIn_ca (goodIn_r _ [6, 7, 8, 9, 5, 10, 11, 12, 13, 14, 15, 16, 17, 18, 19, 20, 21, 22, 23, 24, 25, 26, 27, 28, 29, 30, 31, 32, 33, 34, 35, 36, 37, 38, 39, 40] (by decide +kernel) (by decide +kernel)) (goodIn_sub (fun _ h => List.mem_cons_of_mem _ (List.mem_append_right _ h)) (by decide +kernel))
set_option maxRecDepth 20000 in
theorem gL_complement_X7_complement : GoodIn wsL_complement (wsV RL 33 RX7 yX7_complement wsX7_complement) := goodIn_app (goodIn_of _ (by decide +kernel)) ggL_complement_X7_complement
theorem wd_L_complement_0 : Cond.classLink RL 13 "java/lang/IndexOutOfBoundsException" ∈ wsL_complement := by decide +kernel
def r_L_complement : Room := { frames := 8, cells := 1, slots := 6, locals := 133 }
set_option maxRecDepth 100000 in
set_option maxHeartbeats 4000000 in
theorem w_L_complement {K : zK} (hk : zIs K RL cL_complement 4 wsL_complement (some .int) r_L_complement) (hfl : (kL K).stackTraces = false) (tb : (kC K).exceptionTable.toList = tableOf [(0, 9, 12, 13)]) {r0 : Int32} {τ0 : zST} (hq : zQX K (.inr (some (.int r0))) τ0) (F : Nat) (ln : Nat) (a0 : Nat) (a1 : Int32) (a2 : Nat) (ha0 : atCanonCote (kZ K) a0) (ha2 : aJ (kZ K) a2 ln) (σ : zST) (h : m_L_complement F ln a0 a1 a2 σ = some (r0, τ0)) : Z K 0 0 0 [(0, .ref (eA (kZ K) a0)), (1, .int a1), (2, .ref (eA (kZ K) a2))] [] σ := by
  unfold m_L_complement at h
  refine Z_aload_n hk 2 dL_complement_0 rfl rfl ?_
  refine Z_iconst hk dL_complement_1 zc_iconst_0 ?_
  refine Z_aload_n hk 0 dL_complement_2 rfl rfl ?_
  refine Z_iload_n hk 1 dL_complement_3 rfl rfl ?_
  rcases bc_ok h with ⟨e4, s2, h3, h⟩ | ⟨x1, s2, h3, h⟩
  · skip
    by_cases c9 : e4 = "java/lang/IndexOutOfBoundsException"
    · have h := if_yes h c9
      subst c9
      refine ZX_callV 1 hk [.int a1] (c_X7_complement hk.loc hk.inj hfl F a0 a1 ha0 σ h3) gL_complement_X7_complement rfl ⟨rfl, by decide +kernel, by decide +kernel, by decide +kernel⟩ ⟨Nat.le_of_ble_eq_true rfl, Nat.le_of_ble_eq_true rfl⟩ ha0.cell.1 (ha0.cell.2 _) rfl rfl rfl (Nat.le_of_ble_eq_true rfl) ⟨Nat.le_of_ble_eq_true rfl, Nat.le_of_ble_eq_true rfl⟩ dL_complement_4 (fun X hX => ?_) (fun v hv => by cases hv)
      cases hX
      refine Y_catch hk tb [] ⟨0, 9, 12, 13⟩ [] rfl (fun z hz => by cases hz) (by decide) (by decide) wd_L_complement_0 (hk.nest gw_15) rfl (fun q8 => ?_)
      refine Z_astore_n hk (lv' := [(3, .ref q8), (0, .ref (eA (kZ K) a0)), (1, .int a1), (2, .ref (eA (kZ K) a2))]) dL_complement_12 rfl (by decide) rfl ?_
      refine Z_iconst hk dL_complement_13 zc_iconst_1 ?_
      cases h
      exact ZX_iret hk hq ⟨Nat.le_of_ble_eq_true rfl, Nat.le_of_ble_eq_true rfl⟩ dL_complement_14
    have h := if_no h c9
    cases h
  · refine ZX_callV 1 hk [.int a1] (c_X7_complement hk.loc hk.inj hfl F a0 a1 ha0 σ h3) gL_complement_X7_complement rfl ⟨rfl, by decide +kernel, by decide +kernel, by decide +kernel⟩ ⟨Nat.le_of_ble_eq_true rfl, Nat.le_of_ble_eq_true rfl⟩ ha0.cell.1 (ha0.cell.2 _) rfl rfl rfl (Nat.le_of_ble_eq_true rfl) ⟨Nat.le_of_ble_eq_true rfl, Nat.le_of_ble_eq_true rfl⟩ dL_complement_4 (fun X hX => by cases hX) (fun v hv => ?_)
    cases hv
    show Z K 1 6 7 [(0, .ref (eA (kZ K) a0)), (1, .int a1), (2, .ref (eA (kZ K) a2))] [.int x1, .int 0, .ref (eA (kZ K) a2)] s2
    refine Z_i2l hk dL_complement_7 ?_
    obtain ⟨i7, s5, e6, h⟩ := stL_get h
    refine Z_last hk ha2 i7 dL_complement_8 ?_
    refine Z_eqS e6 ?_
    refine Z_goto hk (tgt := 15) dL_complement_9 (by decide) ?_
    refine Z_iconst hk dL_complement_15 zc_iconst_0 ?_
    cases h
    exact ZX_iret hk hq ⟨Nat.le_of_ble_eq_true rfl, Nat.le_of_ble_eq_true rfl⟩ dL_complement_16
theorem c_L_complement {l : Launch} {E : zE} (hL : eL E) (hJ : eJ E) (hfl : l.stackTraces = false) (F : Nat) (ln : Nat) (a0 : Nat) (a1 : Int32) (a2 : Nat) (ha0 : atCanonCote E a0) (ha2 : aJ E a2 ln) (σ : zST) {r0 : Int32} {τ0 : zST} (h : m_L_complement F ln a0 a1 a2 σ = some (r0, τ0)) : CtX l yL_complement wsL_complement r_L_complement E [.ref (eA E a0), .int a1, .ref (eA E a2)] σ (.inr (some (.int r0))) τ0 := by
  refine CtX_ofH (hh := [(0, 9, 12, 13)]) (by decide) rfl hL hJ (Nat.le_of_ble_eq_true rfl) (fun K hE hl hk htb hq => ?_)
  subst hE
  subst hl
  exact w_L_complement hk hfl htb hq F ln a0 a1 a2 ha0 ha2 σ h
end

-- CanonCoteLaw.size (LCanonCote;I[J)I
section
theorem dL_size_0 : decode cL_size 0 = .ok (.aload_n 2, 1) := by decide +kernel
theorem dL_size_1 : decode cL_size 1 = .ok (.iconst 0, 1) := by decide +kernel
theorem dL_size_2 : decode cL_size 2 = .ok (.aload_n 0, 1) := by decide +kernel
theorem dL_size_3 : decode cL_size 3 = .ok (.iload_n 1, 1) := by decide +kernel
theorem dL_size_4 : decode cL_size 4 = .ok (.invokevirtual 37, 3) := by decide +kernel
theorem dL_size_7 : decode cL_size 7 = .ok (.i2l, 1) := by decide +kernel
theorem dL_size_8 : decode cL_size 8 = .ok (.lastore, 1) := by decide +kernel
theorem dL_size_9 : decode cL_size 9 = .ok (.goto 6, 3) := by decide +kernel
theorem dL_size_12 : decode cL_size 12 = .ok (.astore_n 3, 1) := by decide +kernel
theorem dL_size_13 : decode cL_size 13 = .ok (.iconst 1, 1) := by decide +kernel
theorem dL_size_14 : decode cL_size 14 = .ok (.ireturn, 1) := by decide +kernel
theorem dL_size_15 : decode cL_size 15 = .ok (.iconst 0, 1) := by decide +kernel
theorem dL_size_16 : decode cL_size 16 = .ok (.ireturn, 1) := by decide +kernel
set_option maxRecDepth 20000 in
theorem ggL_size_X7_size : GoodIn wsL_size wsX7_size := goodIn_ca (goodIn_r _ [6, 7, 8, 9, 5, 10, 11, 12, 13, 14, 15, 16, 17, 18, 19, 20, 21, 22] (by decide +kernel) (by decide +kernel)) (goodIn_sub (fun _ h => List.mem_cons_of_mem _ (List.mem_append_right _ h)) (by decide +kernel))
set_option maxRecDepth 20000 in
theorem gL_size_X7_size : GoodIn wsL_size (wsV RL 37 RX7 yX7_size wsX7_size) := goodIn_app (goodIn_of _ (by decide +kernel)) ggL_size_X7_size
theorem wd_L_size_0 : Cond.classLink RL 13 "java/lang/IndexOutOfBoundsException" ∈ wsL_size := by decide +kernel
def r_L_size : Room := { frames := 8, cells := 1, slots := 6, locals := 132 }
set_option maxRecDepth 100000 in
set_option maxHeartbeats 4000000 in
theorem w_L_size {K : zK} (hk : zIs K RL cL_size 4 wsL_size (some .int) r_L_size) (hfl : (kL K).stackTraces = false) (tb : (kC K).exceptionTable.toList = tableOf [(0, 9, 12, 13)]) {r0 : Int32} {τ0 : zST} (hq : zQX K (.inr (some (.int r0))) τ0) (F : Nat) (ln : Nat) (a0 : Nat) (a1 : Int32) (a2 : Nat) (ha0 : atCanonCote (kZ K) a0) (ha2 : aJ (kZ K) a2 ln) (σ : zST) (h : m_L_size F ln a0 a1 a2 σ = some (r0, τ0)) : Z K 0 0 0 [(0, .ref (eA (kZ K) a0)), (1, .int a1), (2, .ref (eA (kZ K) a2))] [] σ := by
  unfold m_L_size at h
  refine Z_aload_n hk 2 dL_size_0 rfl rfl ?_
  refine Z_iconst hk dL_size_1 zc_iconst_0 ?_
  refine Z_aload_n hk 0 dL_size_2 rfl rfl ?_
  refine Z_iload_n hk 1 dL_size_3 rfl rfl ?_
  rcases bc_ok h with ⟨e4, s2, h3, h⟩ | ⟨x1, s2, h3, h⟩
  · skip
    by_cases c9 : e4 = "java/lang/IndexOutOfBoundsException"
    · have h := if_yes h c9
      subst c9
      refine ZX_callV 1 hk [.int a1] (c_X7_size hk.loc hk.inj hfl F a0 a1 ha0 σ h3) gL_size_X7_size rfl ⟨rfl, by decide +kernel, by decide +kernel, by decide +kernel⟩ ⟨Nat.le_of_ble_eq_true rfl, Nat.le_of_ble_eq_true rfl⟩ ha0.cell.1 (ha0.cell.2 _) rfl rfl rfl (Nat.le_of_ble_eq_true rfl) ⟨Nat.le_of_ble_eq_true rfl, Nat.le_of_ble_eq_true rfl⟩ dL_size_4 (fun X hX => ?_) (fun v hv => by cases hv)
      cases hX
      refine Y_catch hk tb [] ⟨0, 9, 12, 13⟩ [] rfl (fun z hz => by cases hz) (by decide) (by decide) wd_L_size_0 (hk.nest gw_15) rfl (fun q8 => ?_)
      refine Z_astore_n hk (lv' := [(3, .ref q8), (0, .ref (eA (kZ K) a0)), (1, .int a1), (2, .ref (eA (kZ K) a2))]) dL_size_12 rfl (by decide) rfl ?_
      refine Z_iconst hk dL_size_13 zc_iconst_1 ?_
      cases h
      exact ZX_iret hk hq ⟨Nat.le_of_ble_eq_true rfl, Nat.le_of_ble_eq_true rfl⟩ dL_size_14
    have h := if_no h c9
    cases h
  · refine ZX_callV 1 hk [.int a1] (c_X7_size hk.loc hk.inj hfl F a0 a1 ha0 σ h3) gL_size_X7_size rfl ⟨rfl, by decide +kernel, by decide +kernel, by decide +kernel⟩ ⟨Nat.le_of_ble_eq_true rfl, Nat.le_of_ble_eq_true rfl⟩ ha0.cell.1 (ha0.cell.2 _) rfl rfl rfl (Nat.le_of_ble_eq_true rfl) ⟨Nat.le_of_ble_eq_true rfl, Nat.le_of_ble_eq_true rfl⟩ dL_size_4 (fun X hX => by cases hX) (fun v hv => ?_)
    cases hv
    show Z K 1 6 7 [(0, .ref (eA (kZ K) a0)), (1, .int a1), (2, .ref (eA (kZ K) a2))] [.int x1, .int 0, .ref (eA (kZ K) a2)] s2
    refine Z_i2l hk dL_size_7 ?_
    obtain ⟨i7, s5, e6, h⟩ := stL_get h
    refine Z_last hk ha2 i7 dL_size_8 ?_
    refine Z_eqS e6 ?_
    refine Z_goto hk (tgt := 15) dL_size_9 (by decide) ?_
    refine Z_iconst hk dL_size_15 zc_iconst_0 ?_
    cases h
    exact ZX_iret hk hq ⟨Nat.le_of_ble_eq_true rfl, Nat.le_of_ble_eq_true rfl⟩ dL_size_16
theorem c_L_size {l : Launch} {E : zE} (hL : eL E) (hJ : eJ E) (hfl : l.stackTraces = false) (F : Nat) (ln : Nat) (a0 : Nat) (a1 : Int32) (a2 : Nat) (ha0 : atCanonCote E a0) (ha2 : aJ E a2 ln) (σ : zST) {r0 : Int32} {τ0 : zST} (h : m_L_size F ln a0 a1 a2 σ = some (r0, τ0)) : CtX l yL_size wsL_size r_L_size E [.ref (eA E a0), .int a1, .ref (eA E a2)] σ (.inr (some (.int r0))) τ0 := by
  refine CtX_ofH (hh := [(0, 9, 12, 13)]) (by decide) rfl hL hJ (Nat.le_of_ble_eq_true rfl) (fun K hE hl hk htb hq => ?_)
  subst hE
  subst hl
  exact w_L_size hk hfl htb hq F ln a0 a1 a2 ha0 ha2 σ h
end

-- CanonCoteLaw.edges (LCanonCote;I[J)I
section
theorem dL_edges_0 : decode cL_edges 0 = .ok (.aload_n 2, 1) := by decide +kernel
theorem dL_edges_1 : decode cL_edges 1 = .ok (.iconst 0, 1) := by decide +kernel
theorem dL_edges_2 : decode cL_edges 2 = .ok (.aload_n 0, 1) := by decide +kernel
theorem dL_edges_3 : decode cL_edges 3 = .ok (.iload_n 1, 1) := by decide +kernel
theorem dL_edges_4 : decode cL_edges 4 = .ok (.invokevirtual 40, 3) := by decide +kernel
theorem dL_edges_7 : decode cL_edges 7 = .ok (.i2l, 1) := by decide +kernel
theorem dL_edges_8 : decode cL_edges 8 = .ok (.lastore, 1) := by decide +kernel
theorem dL_edges_9 : decode cL_edges 9 = .ok (.goto 6, 3) := by decide +kernel
theorem dL_edges_12 : decode cL_edges 12 = .ok (.astore_n 3, 1) := by decide +kernel
theorem dL_edges_13 : decode cL_edges 13 = .ok (.iconst 1, 1) := by decide +kernel
theorem dL_edges_14 : decode cL_edges 14 = .ok (.ireturn, 1) := by decide +kernel
theorem dL_edges_15 : decode cL_edges 15 = .ok (.iconst 0, 1) := by decide +kernel
theorem dL_edges_16 : decode cL_edges 16 = .ok (.ireturn, 1) := by decide +kernel
set_option maxRecDepth 20000 in
theorem ggL_edges_X7_edges : GoodIn wsL_edges wsX7_edges := goodIn_ca (goodIn_r _ [6, 7, 8, 9, 5, 10, 11, 12, 13, 14, 15, 16, 17, 18, 19, 20, 21, 22, 23, 24, 25, 26, 27, 28, 29, 30, 31, 32, 33, 34, 35] (by decide +kernel) (by decide +kernel)) (goodIn_sub (fun _ h => List.mem_cons_of_mem _ (List.mem_append_right _ h)) (by decide +kernel))
set_option maxRecDepth 20000 in
theorem gL_edges_X7_edges : GoodIn wsL_edges (wsV RL 40 RX7 yX7_edges wsX7_edges) := goodIn_app (goodIn_of _ (by decide +kernel)) ggL_edges_X7_edges
theorem wd_L_edges_0 : Cond.classLink RL 13 "java/lang/IndexOutOfBoundsException" ∈ wsL_edges := by decide +kernel
def r_L_edges : Room := { frames := 8, cells := 1, slots := 6, locals := 132 }
set_option maxRecDepth 100000 in
set_option maxHeartbeats 4000000 in
theorem w_L_edges {K : zK} (hk : zIs K RL cL_edges 4 wsL_edges (some .int) r_L_edges) (hfl : (kL K).stackTraces = false) (tb : (kC K).exceptionTable.toList = tableOf [(0, 9, 12, 13)]) {r0 : Int32} {τ0 : zST} (hq : zQX K (.inr (some (.int r0))) τ0) (F : Nat) (ln : Nat) (a0 : Nat) (a1 : Int32) (a2 : Nat) (ha0 : atCanonCote (kZ K) a0) (ha2 : aJ (kZ K) a2 ln) (σ : zST) (h : m_L_edges F ln a0 a1 a2 σ = some (r0, τ0)) : Z K 0 0 0 [(0, .ref (eA (kZ K) a0)), (1, .int a1), (2, .ref (eA (kZ K) a2))] [] σ := by
  unfold m_L_edges at h
  refine Z_aload_n hk 2 dL_edges_0 rfl rfl ?_
  refine Z_iconst hk dL_edges_1 zc_iconst_0 ?_
  refine Z_aload_n hk 0 dL_edges_2 rfl rfl ?_
  refine Z_iload_n hk 1 dL_edges_3 rfl rfl ?_
  rcases bc_ok h with ⟨e4, s2, h3, h⟩ | ⟨x1, s2, h3, h⟩
  · skip
    by_cases c9 : e4 = "java/lang/IndexOutOfBoundsException"
    · have h := if_yes h c9
      subst c9
      refine ZX_callV 1 hk [.int a1] (c_X7_edges hk.loc hk.inj hfl F a0 a1 ha0 σ h3) gL_edges_X7_edges rfl ⟨rfl, by decide +kernel, by decide +kernel, by decide +kernel⟩ ⟨Nat.le_of_ble_eq_true rfl, Nat.le_of_ble_eq_true rfl⟩ ha0.cell.1 (ha0.cell.2 _) rfl rfl rfl (Nat.le_of_ble_eq_true rfl) ⟨Nat.le_of_ble_eq_true rfl, Nat.le_of_ble_eq_true rfl⟩ dL_edges_4 (fun X hX => ?_) (fun v hv => by cases hv)
      cases hX
      refine Y_catch hk tb [] ⟨0, 9, 12, 13⟩ [] rfl (fun z hz => by cases hz) (by decide) (by decide) wd_L_edges_0 (hk.nest gw_15) rfl (fun q8 => ?_)
      refine Z_astore_n hk (lv' := [(3, .ref q8), (0, .ref (eA (kZ K) a0)), (1, .int a1), (2, .ref (eA (kZ K) a2))]) dL_edges_12 rfl (by decide) rfl ?_
      refine Z_iconst hk dL_edges_13 zc_iconst_1 ?_
      cases h
      exact ZX_iret hk hq ⟨Nat.le_of_ble_eq_true rfl, Nat.le_of_ble_eq_true rfl⟩ dL_edges_14
    have h := if_no h c9
    cases h
  · refine ZX_callV 1 hk [.int a1] (c_X7_edges hk.loc hk.inj hfl F a0 a1 ha0 σ h3) gL_edges_X7_edges rfl ⟨rfl, by decide +kernel, by decide +kernel, by decide +kernel⟩ ⟨Nat.le_of_ble_eq_true rfl, Nat.le_of_ble_eq_true rfl⟩ ha0.cell.1 (ha0.cell.2 _) rfl rfl rfl (Nat.le_of_ble_eq_true rfl) ⟨Nat.le_of_ble_eq_true rfl, Nat.le_of_ble_eq_true rfl⟩ dL_edges_4 (fun X hX => by cases hX) (fun v hv => ?_)
    cases hv
    show Z K 1 6 7 [(0, .ref (eA (kZ K) a0)), (1, .int a1), (2, .ref (eA (kZ K) a2))] [.int x1, .int 0, .ref (eA (kZ K) a2)] s2
    refine Z_i2l hk dL_edges_7 ?_
    obtain ⟨i7, s5, e6, h⟩ := stL_get h
    refine Z_last hk ha2 i7 dL_edges_8 ?_
    refine Z_eqS e6 ?_
    refine Z_goto hk (tgt := 15) dL_edges_9 (by decide) ?_
    refine Z_iconst hk dL_edges_15 zc_iconst_0 ?_
    cases h
    exact ZX_iret hk hq ⟨Nat.le_of_ble_eq_true rfl, Nat.le_of_ble_eq_true rfl⟩ dL_edges_16
theorem c_L_edges {l : Launch} {E : zE} (hL : eL E) (hJ : eJ E) (hfl : l.stackTraces = false) (F : Nat) (ln : Nat) (a0 : Nat) (a1 : Int32) (a2 : Nat) (ha0 : atCanonCote E a0) (ha2 : aJ E a2 ln) (σ : zST) {r0 : Int32} {τ0 : zST} (h : m_L_edges F ln a0 a1 a2 σ = some (r0, τ0)) : CtX l yL_edges wsL_edges r_L_edges E [.ref (eA E a0), .int a1, .ref (eA E a2)] σ (.inr (some (.int r0))) τ0 := by
  refine CtX_ofH (hh := [(0, 9, 12, 13)]) (by decide) rfl hL hJ (Nat.le_of_ble_eq_true rfl) (fun K hE hl hk htb hq => ?_)
  subst hE
  subst hl
  exact w_L_edges hk hfl htb hq F ln a0 a1 a2 ha0 ha2 σ h
end

-- CanonCoteLaw.neighbours (LCanonCote;II[J)I
section
theorem dL_neighbours_0 : decode cL_neighbours 0 = .ok (.aload_n 3, 1) := by decide +kernel
theorem dL_neighbours_1 : decode cL_neighbours 1 = .ok (.iconst 0, 1) := by decide +kernel
theorem dL_neighbours_2 : decode cL_neighbours 2 = .ok (.aload_n 0, 1) := by decide +kernel
theorem dL_neighbours_3 : decode cL_neighbours 3 = .ok (.iload_n 1, 1) := by decide +kernel
theorem dL_neighbours_4 : decode cL_neighbours 4 = .ok (.iload_n 2, 1) := by decide +kernel
theorem dL_neighbours_5 : decode cL_neighbours 5 = .ok (.invokevirtual 43, 3) := by decide +kernel
theorem dL_neighbours_8 : decode cL_neighbours 8 = .ok (.i2l, 1) := by decide +kernel
theorem dL_neighbours_9 : decode cL_neighbours 9 = .ok (.lastore, 1) := by decide +kernel
theorem dL_neighbours_10 : decode cL_neighbours 10 = .ok (.goto 7, 3) := by decide +kernel
theorem dL_neighbours_13 : decode cL_neighbours 13 = .ok (.astore 4, 2) := by decide +kernel
theorem dL_neighbours_15 : decode cL_neighbours 15 = .ok (.iconst 1, 1) := by decide +kernel
theorem dL_neighbours_16 : decode cL_neighbours 16 = .ok (.ireturn, 1) := by decide +kernel
theorem dL_neighbours_17 : decode cL_neighbours 17 = .ok (.iconst 0, 1) := by decide +kernel
theorem dL_neighbours_18 : decode cL_neighbours 18 = .ok (.ireturn, 1) := by decide +kernel
set_option maxRecDepth 20000 in
theorem ggL_neighbours_X7_neighbours : GoodIn wsL_neighbours wsX7_neighbours := goodIn_ca (goodIn_r _ [6, 7, 8, 9, 5, 10, 11, 12, 13, 14, 15, 16, 17, 18, 19, 20, 21, 22, 23, 24, 25] (by decide +kernel) (by decide +kernel)) (goodIn_sub (fun _ h => List.mem_cons_of_mem _ (List.mem_append_right _ h)) (by decide +kernel))
set_option maxRecDepth 20000 in
theorem gL_neighbours_X7_neighbours : GoodIn wsL_neighbours (wsV RL 43 RX7 yX7_neighbours wsX7_neighbours) := goodIn_app (goodIn_of _ (by decide +kernel)) ggL_neighbours_X7_neighbours
theorem wd_L_neighbours_0 : Cond.classLink RL 13 "java/lang/IndexOutOfBoundsException" ∈ wsL_neighbours := by decide +kernel
def r_L_neighbours : Room := { frames := 8, cells := 2, slots := 12, locals := 134 }
set_option maxRecDepth 100000 in
set_option maxHeartbeats 4000000 in
theorem w_L_neighbours {K : zK} (hk : zIs K RL cL_neighbours 5 wsL_neighbours (some .int) r_L_neighbours) (hfl : (kL K).stackTraces = false) (tb : (kC K).exceptionTable.toList = tableOf [(0, 10, 13, 13)]) {r0 : Int32} {τ0 : zST} (hq : zQX K (.inr (some (.int r0))) τ0) (F : Nat) (ln : Nat) (a0 : Nat) (a1 : Int32) (a2 : Int32) (a3 : Nat) (ha0 : atCanonCote (kZ K) a0) (ha3 : aJ (kZ K) a3 ln) (σ : zST) (h : m_L_neighbours F ln a0 a1 a2 a3 σ = some (r0, τ0)) : Z K 0 0 0 [(0, .ref (eA (kZ K) a0)), (1, .int a1), (2, .int a2), (3, .ref (eA (kZ K) a3))] [] σ := by
  unfold m_L_neighbours at h
  refine Z_aload_n hk 3 dL_neighbours_0 rfl rfl ?_
  refine Z_iconst hk dL_neighbours_1 zc_iconst_0 ?_
  refine Z_aload_n hk 0 dL_neighbours_2 rfl rfl ?_
  refine Z_iload_n hk 1 dL_neighbours_3 rfl rfl ?_
  refine Z_iload_n hk 2 dL_neighbours_4 rfl rfl ?_
  rcases bc_ok h with ⟨e4, s2, h3, h⟩ | ⟨x1, s2, h3, h⟩
  · skip
    by_cases c9 : e4 = "java/lang/IndexOutOfBoundsException"
    · have h := if_yes h c9
      subst c9
      refine ZX_callV 2 hk [.int a1, .int a2] (c_X7_neighbours hk.loc hk.inj hfl F a0 a1 a2 ha0 σ h3) gL_neighbours_X7_neighbours rfl ⟨rfl, by decide +kernel, by decide +kernel, by decide +kernel⟩ ⟨Nat.le_of_ble_eq_true rfl, Nat.le_of_ble_eq_true rfl⟩ ha0.cell.1 (ha0.cell.2 _) rfl rfl rfl (Nat.le_of_ble_eq_true rfl) ⟨Nat.le_of_ble_eq_true rfl, Nat.le_of_ble_eq_true rfl⟩ dL_neighbours_5 (fun X hX => ?_) (fun v hv => by cases hv)
      cases hX
      refine Y_catch hk tb [] ⟨0, 10, 13, 13⟩ [] rfl (fun z hz => by cases hz) (by decide) (by decide) wd_L_neighbours_0 (hk.nest gw_15) rfl (fun q8 => ?_)
      refine Z_astore hk (lv' := [(4, .ref q8), (0, .ref (eA (kZ K) a0)), (1, .int a1), (2, .int a2), (3, .ref (eA (kZ K) a3))]) dL_neighbours_13 (by decide) rfl ?_
      refine Z_iconst hk dL_neighbours_15 zc_iconst_1 ?_
      cases h
      exact ZX_iret hk hq ⟨Nat.le_of_ble_eq_true rfl, Nat.le_of_ble_eq_true rfl⟩ dL_neighbours_16
    have h := if_no h c9
    cases h
  · refine ZX_callV 2 hk [.int a1, .int a2] (c_X7_neighbours hk.loc hk.inj hfl F a0 a1 a2 ha0 σ h3) gL_neighbours_X7_neighbours rfl ⟨rfl, by decide +kernel, by decide +kernel, by decide +kernel⟩ ⟨Nat.le_of_ble_eq_true rfl, Nat.le_of_ble_eq_true rfl⟩ ha0.cell.1 (ha0.cell.2 _) rfl rfl rfl (Nat.le_of_ble_eq_true rfl) ⟨Nat.le_of_ble_eq_true rfl, Nat.le_of_ble_eq_true rfl⟩ dL_neighbours_5 (fun X hX => by cases hX) (fun v hv => ?_)
    cases hv
    show Z K 2 12 8 [(0, .ref (eA (kZ K) a0)), (1, .int a1), (2, .int a2), (3, .ref (eA (kZ K) a3))] [.int x1, .int 0, .ref (eA (kZ K) a3)] s2
    refine Z_i2l hk dL_neighbours_8 ?_
    obtain ⟨i7, s5, e6, h⟩ := stL_get h
    refine Z_last hk ha3 i7 dL_neighbours_9 ?_
    refine Z_eqS e6 ?_
    refine Z_goto hk (tgt := 17) dL_neighbours_10 (by decide) ?_
    refine Z_iconst hk dL_neighbours_17 zc_iconst_0 ?_
    cases h
    exact ZX_iret hk hq ⟨Nat.le_of_ble_eq_true rfl, Nat.le_of_ble_eq_true rfl⟩ dL_neighbours_18
theorem c_L_neighbours {l : Launch} {E : zE} (hL : eL E) (hJ : eJ E) (hfl : l.stackTraces = false) (F : Nat) (ln : Nat) (a0 : Nat) (a1 : Int32) (a2 : Int32) (a3 : Nat) (ha0 : atCanonCote E a0) (ha3 : aJ E a3 ln) (σ : zST) {r0 : Int32} {τ0 : zST} (h : m_L_neighbours F ln a0 a1 a2 a3 σ = some (r0, τ0)) : CtX l yL_neighbours wsL_neighbours r_L_neighbours E [.ref (eA E a0), .int a1, .int a2, .ref (eA E a3)] σ (.inr (some (.int r0))) τ0 := by
  refine CtX_ofH (hh := [(0, 10, 13, 13)]) (by decide) rfl hL hJ (Nat.le_of_ble_eq_true rfl) (fun K hE hl hk htb hq => ?_)
  subst hE
  subst hl
  exact w_L_neighbours hk hfl htb hq F ln a0 a1 a2 a3 ha0 ha3 σ h
end

-- CanonCoteLaw.colour (LCanonCote;II[J)I
section
theorem dL_colour_0 : decode cL_colour 0 = .ok (.aload_n 3, 1) := by decide +kernel
theorem dL_colour_1 : decode cL_colour 1 = .ok (.iconst 0, 1) := by decide +kernel
theorem dL_colour_2 : decode cL_colour 2 = .ok (.aload_n 0, 1) := by decide +kernel
theorem dL_colour_3 : decode cL_colour 3 = .ok (.iload_n 1, 1) := by decide +kernel
theorem dL_colour_4 : decode cL_colour 4 = .ok (.iload_n 2, 1) := by decide +kernel
theorem dL_colour_5 : decode cL_colour 5 = .ok (.invokevirtual 46, 3) := by decide +kernel
theorem dL_colour_8 : decode cL_colour 8 = .ok (.i2l, 1) := by decide +kernel
theorem dL_colour_9 : decode cL_colour 9 = .ok (.lastore, 1) := by decide +kernel
theorem dL_colour_10 : decode cL_colour 10 = .ok (.goto 7, 3) := by decide +kernel
theorem dL_colour_13 : decode cL_colour 13 = .ok (.astore 4, 2) := by decide +kernel
theorem dL_colour_15 : decode cL_colour 15 = .ok (.iconst 1, 1) := by decide +kernel
theorem dL_colour_16 : decode cL_colour 16 = .ok (.ireturn, 1) := by decide +kernel
theorem dL_colour_17 : decode cL_colour 17 = .ok (.iconst 0, 1) := by decide +kernel
theorem dL_colour_18 : decode cL_colour 18 = .ok (.ireturn, 1) := by decide +kernel
set_option maxRecDepth 20000 in
theorem ggL_colour_X7_colour : GoodIn wsL_colour wsX7_colour := goodIn_ca (goodIn_r _ [6, 7, 8, 9, 5, 10, 11, 12, 13, 14, 15, 16, 17, 18, 19, 20, 21, 22, 23, 24, 25] (by decide +kernel) (by decide +kernel)) (goodIn_sub (fun _ h => List.mem_cons_of_mem _ (List.mem_append_right _ h)) (by decide +kernel))
set_option maxRecDepth 20000 in
theorem gL_colour_X7_colour : GoodIn wsL_colour (wsV RL 46 RX7 yX7_colour wsX7_colour) := goodIn_app (goodIn_of _ (by decide +kernel)) ggL_colour_X7_colour
theorem wd_L_colour_0 : Cond.classLink RL 13 "java/lang/IndexOutOfBoundsException" ∈ wsL_colour := by decide +kernel
def r_L_colour : Room := { frames := 8, cells := 2, slots := 12, locals := 134 }
set_option maxRecDepth 100000 in
set_option maxHeartbeats 4000000 in
theorem w_L_colour {K : zK} (hk : zIs K RL cL_colour 5 wsL_colour (some .int) r_L_colour) (hfl : (kL K).stackTraces = false) (tb : (kC K).exceptionTable.toList = tableOf [(0, 10, 13, 13)]) {r0 : Int32} {τ0 : zST} (hq : zQX K (.inr (some (.int r0))) τ0) (F : Nat) (ln : Nat) (a0 : Nat) (a1 : Int32) (a2 : Int32) (a3 : Nat) (ha0 : atCanonCote (kZ K) a0) (ha3 : aJ (kZ K) a3 ln) (σ : zST) (h : m_L_colour F ln a0 a1 a2 a3 σ = some (r0, τ0)) : Z K 0 0 0 [(0, .ref (eA (kZ K) a0)), (1, .int a1), (2, .int a2), (3, .ref (eA (kZ K) a3))] [] σ := by
  unfold m_L_colour at h
  refine Z_aload_n hk 3 dL_colour_0 rfl rfl ?_
  refine Z_iconst hk dL_colour_1 zc_iconst_0 ?_
  refine Z_aload_n hk 0 dL_colour_2 rfl rfl ?_
  refine Z_iload_n hk 1 dL_colour_3 rfl rfl ?_
  refine Z_iload_n hk 2 dL_colour_4 rfl rfl ?_
  rcases bc_ok h with ⟨e4, s2, h3, h⟩ | ⟨x1, s2, h3, h⟩
  · skip
    by_cases c9 : e4 = "java/lang/IndexOutOfBoundsException"
    · have h := if_yes h c9
      subst c9
      refine ZX_callV 2 hk [.int a1, .int a2] (c_X7_colour hk.loc hk.inj hfl F a0 a1 a2 ha0 σ h3) gL_colour_X7_colour rfl ⟨rfl, by decide +kernel, by decide +kernel, by decide +kernel⟩ ⟨Nat.le_of_ble_eq_true rfl, Nat.le_of_ble_eq_true rfl⟩ ha0.cell.1 (ha0.cell.2 _) rfl rfl rfl (Nat.le_of_ble_eq_true rfl) ⟨Nat.le_of_ble_eq_true rfl, Nat.le_of_ble_eq_true rfl⟩ dL_colour_5 (fun X hX => ?_) (fun v hv => by cases hv)
      cases hX
      refine Y_catch hk tb [] ⟨0, 10, 13, 13⟩ [] rfl (fun z hz => by cases hz) (by decide) (by decide) wd_L_colour_0 (hk.nest gw_15) rfl (fun q8 => ?_)
      refine Z_astore hk (lv' := [(4, .ref q8), (0, .ref (eA (kZ K) a0)), (1, .int a1), (2, .int a2), (3, .ref (eA (kZ K) a3))]) dL_colour_13 (by decide) rfl ?_
      refine Z_iconst hk dL_colour_15 zc_iconst_1 ?_
      cases h
      exact ZX_iret hk hq ⟨Nat.le_of_ble_eq_true rfl, Nat.le_of_ble_eq_true rfl⟩ dL_colour_16
    have h := if_no h c9
    cases h
  · refine ZX_callV 2 hk [.int a1, .int a2] (c_X7_colour hk.loc hk.inj hfl F a0 a1 a2 ha0 σ h3) gL_colour_X7_colour rfl ⟨rfl, by decide +kernel, by decide +kernel, by decide +kernel⟩ ⟨Nat.le_of_ble_eq_true rfl, Nat.le_of_ble_eq_true rfl⟩ ha0.cell.1 (ha0.cell.2 _) rfl rfl rfl (Nat.le_of_ble_eq_true rfl) ⟨Nat.le_of_ble_eq_true rfl, Nat.le_of_ble_eq_true rfl⟩ dL_colour_5 (fun X hX => by cases hX) (fun v hv => ?_)
    cases hv
    show Z K 2 12 8 [(0, .ref (eA (kZ K) a0)), (1, .int a1), (2, .int a2), (3, .ref (eA (kZ K) a3))] [.int x1, .int 0, .ref (eA (kZ K) a3)] s2
    refine Z_i2l hk dL_colour_8 ?_
    obtain ⟨i7, s5, e6, h⟩ := stL_get h
    refine Z_last hk ha3 i7 dL_colour_9 ?_
    refine Z_eqS e6 ?_
    refine Z_goto hk (tgt := 17) dL_colour_10 (by decide) ?_
    refine Z_iconst hk dL_colour_17 zc_iconst_0 ?_
    cases h
    exact ZX_iret hk hq ⟨Nat.le_of_ble_eq_true rfl, Nat.le_of_ble_eq_true rfl⟩ dL_colour_18
theorem c_L_colour {l : Launch} {E : zE} (hL : eL E) (hJ : eJ E) (hfl : l.stackTraces = false) (F : Nat) (ln : Nat) (a0 : Nat) (a1 : Int32) (a2 : Int32) (a3 : Nat) (ha0 : atCanonCote E a0) (ha3 : aJ E a3 ln) (σ : zST) {r0 : Int32} {τ0 : zST} (h : m_L_colour F ln a0 a1 a2 a3 σ = some (r0, τ0)) : CtX l yL_colour wsL_colour r_L_colour E [.ref (eA E a0), .int a1, .int a2, .ref (eA E a3)] σ (.inr (some (.int r0))) τ0 := by
  refine CtX_ofH (hh := [(0, 10, 13, 13)]) (by decide) rfl hL hJ (Nat.le_of_ble_eq_true rfl) (fun K hE hl hk htb hq => ?_)
  subst hE
  subst hl
  exact w_L_colour hk hfl htb hq F ln a0 a1 a2 a3 ha0 ha3 σ h
end

-- CanonCoteLaw.classes (LCanonCote;I[J)I
section
theorem dL_classes_0 : decode cL_classes 0 = .ok (.aload_n 2, 1) := by decide +kernel
theorem dL_classes_1 : decode cL_classes 1 = .ok (.iconst 0, 1) := by decide +kernel
theorem dL_classes_2 : decode cL_classes 2 = .ok (.aload_n 0, 1) := by decide +kernel
theorem dL_classes_3 : decode cL_classes 3 = .ok (.iload_n 1, 1) := by decide +kernel
theorem dL_classes_4 : decode cL_classes 4 = .ok (.invokevirtual 49, 3) := by decide +kernel
theorem dL_classes_7 : decode cL_classes 7 = .ok (.i2l, 1) := by decide +kernel
theorem dL_classes_8 : decode cL_classes 8 = .ok (.lastore, 1) := by decide +kernel
theorem dL_classes_9 : decode cL_classes 9 = .ok (.goto 6, 3) := by decide +kernel
theorem dL_classes_12 : decode cL_classes 12 = .ok (.astore_n 3, 1) := by decide +kernel
theorem dL_classes_13 : decode cL_classes 13 = .ok (.iconst 1, 1) := by decide +kernel
theorem dL_classes_14 : decode cL_classes 14 = .ok (.ireturn, 1) := by decide +kernel
theorem dL_classes_15 : decode cL_classes 15 = .ok (.iconst 0, 1) := by decide +kernel
theorem dL_classes_16 : decode cL_classes 16 = .ok (.ireturn, 1) := by decide +kernel
set_option maxRecDepth 20000 in
theorem ggL_classes_X7_classes : GoodIn wsL_classes wsX7_classes := goodIn_ca (goodIn_r _ [6, 7, 8, 9, 10, 5, 11, 12, 13, 14, 15, 16, 17, 18, 19, 20, 21, 22, 23, 24, 25, 26, 27, 28, 29, 30, 31, 32, 33, 34, 35, 36, 37, 38, 39, 40, 41, 42, 43, 44, 45, 46, 47, 48, 49, 50, 51, 52, 53, 54, 55, 56, 57, 58, 59, 60, 61, 62] (by decide +kernel) (by decide +kernel)) (goodIn_sub (fun _ h => List.mem_cons_of_mem _ (List.mem_append_right _ h)) (by decide +kernel))
set_option maxRecDepth 20000 in
theorem gL_classes_X7_classes : GoodIn wsL_classes (wsV RL 49 RX7 yX7_classes wsX7_classes) := goodIn_app (goodIn_of _ (by decide +kernel)) ggL_classes_X7_classes
theorem wd_L_classes_0 : Cond.classLink RL 13 "java/lang/IndexOutOfBoundsException" ∈ wsL_classes := by decide +kernel
def r_L_classes : Room := { frames := 8, cells := 1, slots := 6, locals := 132 }
set_option maxRecDepth 100000 in
set_option maxHeartbeats 4000000 in
theorem w_L_classes {K : zK} (hk : zIs K RL cL_classes 4 wsL_classes (some .int) r_L_classes) (hfl : (kL K).stackTraces = false) (tb : (kC K).exceptionTable.toList = tableOf [(0, 9, 12, 13)]) {r0 : Int32} {τ0 : zST} (hq : zQX K (.inr (some (.int r0))) τ0) (F : Nat) (ln : Nat) (a0 : Nat) (a1 : Int32) (a2 : Nat) (ha0 : atCanonCote (kZ K) a0) (ha2 : aJ (kZ K) a2 ln) (σ : zST) (h : m_L_classes F ln a0 a1 a2 σ = some (r0, τ0)) : Z K 0 0 0 [(0, .ref (eA (kZ K) a0)), (1, .int a1), (2, .ref (eA (kZ K) a2))] [] σ := by
  unfold m_L_classes at h
  refine Z_aload_n hk 2 dL_classes_0 rfl rfl ?_
  refine Z_iconst hk dL_classes_1 zc_iconst_0 ?_
  refine Z_aload_n hk 0 dL_classes_2 rfl rfl ?_
  refine Z_iload_n hk 1 dL_classes_3 rfl rfl ?_
  rcases bc_ok h with ⟨e4, s2, h3, h⟩ | ⟨x1, s2, h3, h⟩
  · skip
    by_cases c9 : e4 = "java/lang/IndexOutOfBoundsException"
    · have h := if_yes h c9
      subst c9
      refine ZX_callV 1 hk [.int a1] (c_X7_classes hk.loc hk.inj hfl F a0 a1 ha0 σ h3) gL_classes_X7_classes rfl ⟨rfl, by decide +kernel, by decide +kernel, by decide +kernel⟩ ⟨Nat.le_of_ble_eq_true rfl, Nat.le_of_ble_eq_true rfl⟩ ha0.cell.1 (ha0.cell.2 _) rfl rfl rfl (Nat.le_of_ble_eq_true rfl) ⟨Nat.le_of_ble_eq_true rfl, Nat.le_of_ble_eq_true rfl⟩ dL_classes_4 (fun X hX => ?_) (fun v hv => by cases hv)
      cases hX
      refine Y_catch hk tb [] ⟨0, 9, 12, 13⟩ [] rfl (fun z hz => by cases hz) (by decide) (by decide) wd_L_classes_0 (hk.nest gw_15) rfl (fun q8 => ?_)
      refine Z_astore_n hk (lv' := [(3, .ref q8), (0, .ref (eA (kZ K) a0)), (1, .int a1), (2, .ref (eA (kZ K) a2))]) dL_classes_12 rfl (by decide) rfl ?_
      refine Z_iconst hk dL_classes_13 zc_iconst_1 ?_
      cases h
      exact ZX_iret hk hq ⟨Nat.le_of_ble_eq_true rfl, Nat.le_of_ble_eq_true rfl⟩ dL_classes_14
    have h := if_no h c9
    cases h
  · refine ZX_callV 1 hk [.int a1] (c_X7_classes hk.loc hk.inj hfl F a0 a1 ha0 σ h3) gL_classes_X7_classes rfl ⟨rfl, by decide +kernel, by decide +kernel, by decide +kernel⟩ ⟨Nat.le_of_ble_eq_true rfl, Nat.le_of_ble_eq_true rfl⟩ ha0.cell.1 (ha0.cell.2 _) rfl rfl rfl (Nat.le_of_ble_eq_true rfl) ⟨Nat.le_of_ble_eq_true rfl, Nat.le_of_ble_eq_true rfl⟩ dL_classes_4 (fun X hX => by cases hX) (fun v hv => ?_)
    cases hv
    show Z K 1 6 7 [(0, .ref (eA (kZ K) a0)), (1, .int a1), (2, .ref (eA (kZ K) a2))] [.int x1, .int 0, .ref (eA (kZ K) a2)] s2
    refine Z_i2l hk dL_classes_7 ?_
    obtain ⟨i7, s5, e6, h⟩ := stL_get h
    refine Z_last hk ha2 i7 dL_classes_8 ?_
    refine Z_eqS e6 ?_
    refine Z_goto hk (tgt := 15) dL_classes_9 (by decide) ?_
    refine Z_iconst hk dL_classes_15 zc_iconst_0 ?_
    cases h
    exact ZX_iret hk hq ⟨Nat.le_of_ble_eq_true rfl, Nat.le_of_ble_eq_true rfl⟩ dL_classes_16
theorem c_L_classes {l : Launch} {E : zE} (hL : eL E) (hJ : eJ E) (hfl : l.stackTraces = false) (F : Nat) (ln : Nat) (a0 : Nat) (a1 : Int32) (a2 : Nat) (ha0 : atCanonCote E a0) (ha2 : aJ E a2 ln) (σ : zST) {r0 : Int32} {τ0 : zST} (h : m_L_classes F ln a0 a1 a2 σ = some (r0, τ0)) : CtX l yL_classes wsL_classes r_L_classes E [.ref (eA E a0), .int a1, .ref (eA E a2)] σ (.inr (some (.int r0))) τ0 := by
  refine CtX_ofH (hh := [(0, 9, 12, 13)]) (by decide) rfl hL hJ (Nat.le_of_ble_eq_true rfl) (fun K hE hl hk htb hq => ?_)
  subst hE
  subst hl
  exact w_L_classes hk hfl htb hq F ln a0 a1 a2 ha0 ha2 σ h
end

-- CanonCoteLaw.classOf (LCanonCote;II[J)I
section
theorem dL_classOf_0 : decode cL_classOf 0 = .ok (.aload_n 3, 1) := by decide +kernel
theorem dL_classOf_1 : decode cL_classOf 1 = .ok (.iconst 0, 1) := by decide +kernel
theorem dL_classOf_2 : decode cL_classOf 2 = .ok (.aload_n 0, 1) := by decide +kernel
theorem dL_classOf_3 : decode cL_classOf 3 = .ok (.iload_n 1, 1) := by decide +kernel
theorem dL_classOf_4 : decode cL_classOf 4 = .ok (.iload_n 2, 1) := by decide +kernel
theorem dL_classOf_5 : decode cL_classOf 5 = .ok (.invokevirtual 52, 3) := by decide +kernel
theorem dL_classOf_8 : decode cL_classOf 8 = .ok (.i2l, 1) := by decide +kernel
theorem dL_classOf_9 : decode cL_classOf 9 = .ok (.lastore, 1) := by decide +kernel
theorem dL_classOf_10 : decode cL_classOf 10 = .ok (.goto 7, 3) := by decide +kernel
theorem dL_classOf_13 : decode cL_classOf 13 = .ok (.astore 4, 2) := by decide +kernel
theorem dL_classOf_15 : decode cL_classOf 15 = .ok (.iconst 1, 1) := by decide +kernel
theorem dL_classOf_16 : decode cL_classOf 16 = .ok (.ireturn, 1) := by decide +kernel
theorem dL_classOf_17 : decode cL_classOf 17 = .ok (.iconst 0, 1) := by decide +kernel
theorem dL_classOf_18 : decode cL_classOf 18 = .ok (.ireturn, 1) := by decide +kernel
set_option maxRecDepth 20000 in
theorem ggL_classOf_X7_classOf : GoodIn wsL_classOf wsX7_classOf := goodIn_ca (goodIn_r _ [6, 7, 8, 9, 10, 5, 11, 12, 13, 14, 15, 16, 17, 18, 19, 20, 21, 22, 23, 24, 25, 26, 27, 28, 29, 30, 31, 32, 33, 34, 35, 36, 37, 38, 39, 40, 41, 42, 43, 44, 45, 46, 47, 48, 49, 50, 51, 52, 53, 54, 55, 56, 57, 58, 59, 60, 61, 62, 63, 64, 65] (by decide +kernel) (by decide +kernel)) (goodIn_sub (fun _ h => List.mem_cons_of_mem _ (List.mem_append_right _ h)) (by decide +kernel))
set_option maxRecDepth 20000 in
theorem gL_classOf_X7_classOf : GoodIn wsL_classOf (wsV RL 52 RX7 yX7_classOf wsX7_classOf) := goodIn_app (goodIn_of _ (by decide +kernel)) ggL_classOf_X7_classOf
theorem wd_L_classOf_0 : Cond.classLink RL 13 "java/lang/IndexOutOfBoundsException" ∈ wsL_classOf := by decide +kernel
def r_L_classOf : Room := { frames := 8, cells := 2, slots := 12, locals := 134 }
set_option maxRecDepth 100000 in
set_option maxHeartbeats 4000000 in
theorem w_L_classOf {K : zK} (hk : zIs K RL cL_classOf 5 wsL_classOf (some .int) r_L_classOf) (hfl : (kL K).stackTraces = false) (tb : (kC K).exceptionTable.toList = tableOf [(0, 10, 13, 13)]) {r0 : Int32} {τ0 : zST} (hq : zQX K (.inr (some (.int r0))) τ0) (F : Nat) (ln : Nat) (a0 : Nat) (a1 : Int32) (a2 : Int32) (a3 : Nat) (ha0 : atCanonCote (kZ K) a0) (ha3 : aJ (kZ K) a3 ln) (σ : zST) (h : m_L_classOf F ln a0 a1 a2 a3 σ = some (r0, τ0)) : Z K 0 0 0 [(0, .ref (eA (kZ K) a0)), (1, .int a1), (2, .int a2), (3, .ref (eA (kZ K) a3))] [] σ := by
  unfold m_L_classOf at h
  refine Z_aload_n hk 3 dL_classOf_0 rfl rfl ?_
  refine Z_iconst hk dL_classOf_1 zc_iconst_0 ?_
  refine Z_aload_n hk 0 dL_classOf_2 rfl rfl ?_
  refine Z_iload_n hk 1 dL_classOf_3 rfl rfl ?_
  refine Z_iload_n hk 2 dL_classOf_4 rfl rfl ?_
  rcases bc_ok h with ⟨e4, s2, h3, h⟩ | ⟨x1, s2, h3, h⟩
  · skip
    by_cases c9 : e4 = "java/lang/IndexOutOfBoundsException"
    · have h := if_yes h c9
      subst c9
      refine ZX_callV 2 hk [.int a1, .int a2] (c_X7_classOf hk.loc hk.inj hfl F a0 a1 a2 ha0 σ h3) gL_classOf_X7_classOf rfl ⟨rfl, by decide +kernel, by decide +kernel, by decide +kernel⟩ ⟨Nat.le_of_ble_eq_true rfl, Nat.le_of_ble_eq_true rfl⟩ ha0.cell.1 (ha0.cell.2 _) rfl rfl rfl (Nat.le_of_ble_eq_true rfl) ⟨Nat.le_of_ble_eq_true rfl, Nat.le_of_ble_eq_true rfl⟩ dL_classOf_5 (fun X hX => ?_) (fun v hv => by cases hv)
      cases hX
      refine Y_catch hk tb [] ⟨0, 10, 13, 13⟩ [] rfl (fun z hz => by cases hz) (by decide) (by decide) wd_L_classOf_0 (hk.nest gw_15) rfl (fun q8 => ?_)
      refine Z_astore hk (lv' := [(4, .ref q8), (0, .ref (eA (kZ K) a0)), (1, .int a1), (2, .int a2), (3, .ref (eA (kZ K) a3))]) dL_classOf_13 (by decide) rfl ?_
      refine Z_iconst hk dL_classOf_15 zc_iconst_1 ?_
      cases h
      exact ZX_iret hk hq ⟨Nat.le_of_ble_eq_true rfl, Nat.le_of_ble_eq_true rfl⟩ dL_classOf_16
    have h := if_no h c9
    cases h
  · refine ZX_callV 2 hk [.int a1, .int a2] (c_X7_classOf hk.loc hk.inj hfl F a0 a1 a2 ha0 σ h3) gL_classOf_X7_classOf rfl ⟨rfl, by decide +kernel, by decide +kernel, by decide +kernel⟩ ⟨Nat.le_of_ble_eq_true rfl, Nat.le_of_ble_eq_true rfl⟩ ha0.cell.1 (ha0.cell.2 _) rfl rfl rfl (Nat.le_of_ble_eq_true rfl) ⟨Nat.le_of_ble_eq_true rfl, Nat.le_of_ble_eq_true rfl⟩ dL_classOf_5 (fun X hX => by cases hX) (fun v hv => ?_)
    cases hv
    show Z K 2 12 8 [(0, .ref (eA (kZ K) a0)), (1, .int a1), (2, .int a2), (3, .ref (eA (kZ K) a3))] [.int x1, .int 0, .ref (eA (kZ K) a3)] s2
    refine Z_i2l hk dL_classOf_8 ?_
    obtain ⟨i7, s5, e6, h⟩ := stL_get h
    refine Z_last hk ha3 i7 dL_classOf_9 ?_
    refine Z_eqS e6 ?_
    refine Z_goto hk (tgt := 17) dL_classOf_10 (by decide) ?_
    refine Z_iconst hk dL_classOf_17 zc_iconst_0 ?_
    cases h
    exact ZX_iret hk hq ⟨Nat.le_of_ble_eq_true rfl, Nat.le_of_ble_eq_true rfl⟩ dL_classOf_18
theorem c_L_classOf {l : Launch} {E : zE} (hL : eL E) (hJ : eJ E) (hfl : l.stackTraces = false) (F : Nat) (ln : Nat) (a0 : Nat) (a1 : Int32) (a2 : Int32) (a3 : Nat) (ha0 : atCanonCote E a0) (ha3 : aJ E a3 ln) (σ : zST) {r0 : Int32} {τ0 : zST} (h : m_L_classOf F ln a0 a1 a2 a3 σ = some (r0, τ0)) : CtX l yL_classOf wsL_classOf r_L_classOf E [.ref (eA E a0), .int a1, .int a2, .ref (eA E a3)] σ (.inr (some (.int r0))) τ0 := by
  refine CtX_ofH (hh := [(0, 10, 13, 13)]) (by decide) rfl hL hJ (Nat.le_of_ble_eq_true rfl) (fun K hE hl hk htb hq => ?_)
  subst hE
  subst hl
  exact w_L_classOf hk hfl htb hq F ln a0 a1 a2 a3 ha0 ha3 σ h
end

-- CanonCoteLaw.rounds (LCanonCote;I[J)I
section
theorem dL_rounds_0 : decode cL_rounds 0 = .ok (.aload_n 2, 1) := by decide +kernel
theorem dL_rounds_1 : decode cL_rounds 1 = .ok (.iconst 0, 1) := by decide +kernel
theorem dL_rounds_2 : decode cL_rounds 2 = .ok (.aload_n 0, 1) := by decide +kernel
theorem dL_rounds_3 : decode cL_rounds 3 = .ok (.iload_n 1, 1) := by decide +kernel
theorem dL_rounds_4 : decode cL_rounds 4 = .ok (.invokevirtual 55, 3) := by decide +kernel
theorem dL_rounds_7 : decode cL_rounds 7 = .ok (.i2l, 1) := by decide +kernel
theorem dL_rounds_8 : decode cL_rounds 8 = .ok (.lastore, 1) := by decide +kernel
theorem dL_rounds_9 : decode cL_rounds 9 = .ok (.goto 6, 3) := by decide +kernel
theorem dL_rounds_12 : decode cL_rounds 12 = .ok (.astore_n 3, 1) := by decide +kernel
theorem dL_rounds_13 : decode cL_rounds 13 = .ok (.iconst 1, 1) := by decide +kernel
theorem dL_rounds_14 : decode cL_rounds 14 = .ok (.ireturn, 1) := by decide +kernel
theorem dL_rounds_15 : decode cL_rounds 15 = .ok (.iconst 0, 1) := by decide +kernel
theorem dL_rounds_16 : decode cL_rounds 16 = .ok (.ireturn, 1) := by decide +kernel
set_option maxRecDepth 20000 in
theorem ggL_rounds_X7_rounds : GoodIn wsL_rounds wsX7_rounds := goodIn_ca (goodIn_r _ [6, 7, 8, 9, 10, 5, 11, 12, 13, 14, 15, 16, 17, 18, 19, 20, 21, 22, 23, 24, 25, 26, 27, 28, 29, 30, 31, 32, 33, 34, 35, 36, 37, 38, 39, 40, 41, 42, 43, 44, 45, 46, 47, 48, 49, 50, 51, 52, 53, 54, 55, 56, 57, 58, 59, 60, 61, 62] (by decide +kernel) (by decide +kernel)) (goodIn_sub (fun _ h => List.mem_cons_of_mem _ (List.mem_append_right _ h)) (by decide +kernel))
set_option maxRecDepth 20000 in
theorem gL_rounds_X7_rounds : GoodIn wsL_rounds (wsV RL 55 RX7 yX7_rounds wsX7_rounds) := goodIn_app (goodIn_of _ (by decide +kernel)) ggL_rounds_X7_rounds
theorem wd_L_rounds_0 : Cond.classLink RL 13 "java/lang/IndexOutOfBoundsException" ∈ wsL_rounds := by decide +kernel
def r_L_rounds : Room := { frames := 8, cells := 1, slots := 6, locals := 132 }
set_option maxRecDepth 100000 in
set_option maxHeartbeats 4000000 in
theorem w_L_rounds {K : zK} (hk : zIs K RL cL_rounds 4 wsL_rounds (some .int) r_L_rounds) (hfl : (kL K).stackTraces = false) (tb : (kC K).exceptionTable.toList = tableOf [(0, 9, 12, 13)]) {r0 : Int32} {τ0 : zST} (hq : zQX K (.inr (some (.int r0))) τ0) (F : Nat) (ln : Nat) (a0 : Nat) (a1 : Int32) (a2 : Nat) (ha0 : atCanonCote (kZ K) a0) (ha2 : aJ (kZ K) a2 ln) (σ : zST) (h : m_L_rounds F ln a0 a1 a2 σ = some (r0, τ0)) : Z K 0 0 0 [(0, .ref (eA (kZ K) a0)), (1, .int a1), (2, .ref (eA (kZ K) a2))] [] σ := by
  unfold m_L_rounds at h
  refine Z_aload_n hk 2 dL_rounds_0 rfl rfl ?_
  refine Z_iconst hk dL_rounds_1 zc_iconst_0 ?_
  refine Z_aload_n hk 0 dL_rounds_2 rfl rfl ?_
  refine Z_iload_n hk 1 dL_rounds_3 rfl rfl ?_
  rcases bc_ok h with ⟨e4, s2, h3, h⟩ | ⟨x1, s2, h3, h⟩
  · skip
    by_cases c9 : e4 = "java/lang/IndexOutOfBoundsException"
    · have h := if_yes h c9
      subst c9
      refine ZX_callV 1 hk [.int a1] (c_X7_rounds hk.loc hk.inj hfl F a0 a1 ha0 σ h3) gL_rounds_X7_rounds rfl ⟨rfl, by decide +kernel, by decide +kernel, by decide +kernel⟩ ⟨Nat.le_of_ble_eq_true rfl, Nat.le_of_ble_eq_true rfl⟩ ha0.cell.1 (ha0.cell.2 _) rfl rfl rfl (Nat.le_of_ble_eq_true rfl) ⟨Nat.le_of_ble_eq_true rfl, Nat.le_of_ble_eq_true rfl⟩ dL_rounds_4 (fun X hX => ?_) (fun v hv => by cases hv)
      cases hX
      refine Y_catch hk tb [] ⟨0, 9, 12, 13⟩ [] rfl (fun z hz => by cases hz) (by decide) (by decide) wd_L_rounds_0 (hk.nest gw_15) rfl (fun q8 => ?_)
      refine Z_astore_n hk (lv' := [(3, .ref q8), (0, .ref (eA (kZ K) a0)), (1, .int a1), (2, .ref (eA (kZ K) a2))]) dL_rounds_12 rfl (by decide) rfl ?_
      refine Z_iconst hk dL_rounds_13 zc_iconst_1 ?_
      cases h
      exact ZX_iret hk hq ⟨Nat.le_of_ble_eq_true rfl, Nat.le_of_ble_eq_true rfl⟩ dL_rounds_14
    have h := if_no h c9
    cases h
  · refine ZX_callV 1 hk [.int a1] (c_X7_rounds hk.loc hk.inj hfl F a0 a1 ha0 σ h3) gL_rounds_X7_rounds rfl ⟨rfl, by decide +kernel, by decide +kernel, by decide +kernel⟩ ⟨Nat.le_of_ble_eq_true rfl, Nat.le_of_ble_eq_true rfl⟩ ha0.cell.1 (ha0.cell.2 _) rfl rfl rfl (Nat.le_of_ble_eq_true rfl) ⟨Nat.le_of_ble_eq_true rfl, Nat.le_of_ble_eq_true rfl⟩ dL_rounds_4 (fun X hX => by cases hX) (fun v hv => ?_)
    cases hv
    show Z K 1 6 7 [(0, .ref (eA (kZ K) a0)), (1, .int a1), (2, .ref (eA (kZ K) a2))] [.int x1, .int 0, .ref (eA (kZ K) a2)] s2
    refine Z_i2l hk dL_rounds_7 ?_
    obtain ⟨i7, s5, e6, h⟩ := stL_get h
    refine Z_last hk ha2 i7 dL_rounds_8 ?_
    refine Z_eqS e6 ?_
    refine Z_goto hk (tgt := 15) dL_rounds_9 (by decide) ?_
    refine Z_iconst hk dL_rounds_15 zc_iconst_0 ?_
    cases h
    exact ZX_iret hk hq ⟨Nat.le_of_ble_eq_true rfl, Nat.le_of_ble_eq_true rfl⟩ dL_rounds_16
theorem c_L_rounds {l : Launch} {E : zE} (hL : eL E) (hJ : eJ E) (hfl : l.stackTraces = false) (F : Nat) (ln : Nat) (a0 : Nat) (a1 : Int32) (a2 : Nat) (ha0 : atCanonCote E a0) (ha2 : aJ E a2 ln) (σ : zST) {r0 : Int32} {τ0 : zST} (h : m_L_rounds F ln a0 a1 a2 σ = some (r0, τ0)) : CtX l yL_rounds wsL_rounds r_L_rounds E [.ref (eA E a0), .int a1, .ref (eA E a2)] σ (.inr (some (.int r0))) τ0 := by
  refine CtX_ofH (hh := [(0, 9, 12, 13)]) (by decide) rfl hL hJ (Nat.le_of_ble_eq_true rfl) (fun K hE hl hk htb hq => ?_)
  subst hE
  subst hl
  exact w_L_rounds hk hfl htb hq F ln a0 a1 a2 ha0 ha2 σ h
end

-- CanonCoteLaw.form (LCanonCote;I[J)I
section
theorem dL_form_0 : decode cL_form 0 = .ok (.aload_n 2, 1) := by decide +kernel
theorem dL_form_1 : decode cL_form 1 = .ok (.iconst 0, 1) := by decide +kernel
theorem dL_form_2 : decode cL_form 2 = .ok (.aload_n 0, 1) := by decide +kernel
theorem dL_form_3 : decode cL_form 3 = .ok (.iload_n 1, 1) := by decide +kernel
theorem dL_form_4 : decode cL_form 4 = .ok (.invokevirtual 58, 3) := by decide +kernel
theorem dL_form_7 : decode cL_form 7 = .ok (.lastore, 1) := by decide +kernel
theorem dL_form_8 : decode cL_form 8 = .ok (.goto 6, 3) := by decide +kernel
theorem dL_form_11 : decode cL_form 11 = .ok (.astore_n 3, 1) := by decide +kernel
theorem dL_form_12 : decode cL_form 12 = .ok (.iconst 1, 1) := by decide +kernel
theorem dL_form_13 : decode cL_form 13 = .ok (.ireturn, 1) := by decide +kernel
theorem dL_form_14 : decode cL_form 14 = .ok (.iconst 0, 1) := by decide +kernel
theorem dL_form_15 : decode cL_form 15 = .ok (.ireturn, 1) := by decide +kernel
set_option maxRecDepth 20000 in
theorem ggL_form_X7_form : GoodIn wsL_form wsX7_form := goodIn_ca (goodIn_r _ [6, 7, 8, 9, 5, 10, 11, 12, 13, 14, 15, 16, 17, 18, 19, 20, 21, 22, 23, 24, 25, 26, 27, 28, 29, 30, 31, 32, 33, 34, 35, 36, 37, 38, 39, 40, 41, 42, 43, 44, 45, 46, 47, 48, 49, 50, 51, 52, 53, 54, 55, 56, 57, 58, 59, 60, 61, 62, 63, 64, 65, 66, 67, 68, 69, 70, 71, 72, 73, 74, 75, 76, 77, 78, 79, 80, 81, 82, 83, 84, 85, 86, 87, 88, 89, 90, 91, 92, 93, 94, 95, 96, 97, 98, 99, 100] (by decide +kernel) (by decide +kernel)) (goodIn_sub (fun _ h => List.mem_cons_of_mem _ (List.mem_append_right _ h)) (by decide +kernel))
set_option maxRecDepth 20000 in
theorem gL_form_X7_form : GoodIn wsL_form (wsV RL 58 RX7 yX7_form wsX7_form) := goodIn_app (goodIn_of _ (by decide +kernel)) ggL_form_X7_form
theorem wd_L_form_0 : Cond.classLink RL 13 "java/lang/IndexOutOfBoundsException" ∈ wsL_form := by decide +kernel
def r_L_form : Room := { frames := 16, cells := 1, slots := 6, locals := 395 }
set_option maxRecDepth 100000 in
set_option maxHeartbeats 4000000 in
theorem w_L_form {K : zK} (hk : zIs K RL cL_form 4 wsL_form (some .int) r_L_form) (hfl : (kL K).stackTraces = false) (tb : (kC K).exceptionTable.toList = tableOf [(0, 8, 11, 13)]) {r0 : Int32} {τ0 : zST} (hq : zQX K (.inr (some (.int r0))) τ0) (F : Nat) (ln : Nat) (a0 : Nat) (a1 : Int32) (a2 : Nat) (ha0 : atCanonCote (kZ K) a0) (ha2 : aJ (kZ K) a2 ln) (σ : zST) (h : m_L_form F ln a0 a1 a2 σ = some (r0, τ0)) : Z K 0 0 0 [(0, .ref (eA (kZ K) a0)), (1, .int a1), (2, .ref (eA (kZ K) a2))] [] σ := by
  unfold m_L_form at h
  refine Z_aload_n hk 2 dL_form_0 rfl rfl ?_
  refine Z_iconst hk dL_form_1 zc_iconst_0 ?_
  refine Z_aload_n hk 0 dL_form_2 rfl rfl ?_
  refine Z_iload_n hk 1 dL_form_3 rfl rfl ?_
  rcases bc_ok h with ⟨e4, s2, h3, h⟩ | ⟨x1, s2, h3, h⟩
  · skip
    by_cases c9 : e4 = "java/lang/IndexOutOfBoundsException"
    · have h := if_yes h c9
      subst c9
      refine ZX_callV 1 hk [.int a1] (c_X7_form hk.loc hk.inj hfl F a0 a1 ha0 σ h3) gL_form_X7_form rfl ⟨rfl, by decide +kernel, by decide +kernel, by decide +kernel⟩ ⟨Nat.le_of_ble_eq_true rfl, Nat.le_of_ble_eq_true rfl⟩ ha0.cell.1 (ha0.cell.2 _) rfl rfl rfl (Nat.le_of_ble_eq_true rfl) ⟨Nat.le_of_ble_eq_true rfl, Nat.le_of_ble_eq_true rfl⟩ dL_form_4 (fun X hX => ?_) (fun v hv => by cases hv)
      cases hX
      refine Y_catch hk tb [] ⟨0, 8, 11, 13⟩ [] rfl (fun z hz => by cases hz) (by decide) (by decide) wd_L_form_0 (hk.nest gw_15) rfl (fun q8 => ?_)
      refine Z_astore_n hk (lv' := [(3, .ref q8), (0, .ref (eA (kZ K) a0)), (1, .int a1), (2, .ref (eA (kZ K) a2))]) dL_form_11 rfl (by decide) rfl ?_
      refine Z_iconst hk dL_form_12 zc_iconst_1 ?_
      cases h
      exact ZX_iret hk hq ⟨Nat.le_of_ble_eq_true rfl, Nat.le_of_ble_eq_true rfl⟩ dL_form_13
    have h := if_no h c9
    cases h
  · refine ZX_callV 1 hk [.int a1] (c_X7_form hk.loc hk.inj hfl F a0 a1 ha0 σ h3) gL_form_X7_form rfl ⟨rfl, by decide +kernel, by decide +kernel, by decide +kernel⟩ ⟨Nat.le_of_ble_eq_true rfl, Nat.le_of_ble_eq_true rfl⟩ ha0.cell.1 (ha0.cell.2 _) rfl rfl rfl (Nat.le_of_ble_eq_true rfl) ⟨Nat.le_of_ble_eq_true rfl, Nat.le_of_ble_eq_true rfl⟩ dL_form_4 (fun X hX => by cases hX) (fun v hv => ?_)
    cases hv
    show Z K 1 6 7 [(0, .ref (eA (kZ K) a0)), (1, .int a1), (2, .ref (eA (kZ K) a2))] [.long x1, .int 0, .ref (eA (kZ K) a2)] s2
    obtain ⟨i7, s5, e6, h⟩ := stL_get h
    refine Z_last hk ha2 i7 dL_form_7 ?_
    refine Z_eqS e6 ?_
    refine Z_goto hk (tgt := 14) dL_form_8 (by decide) ?_
    refine Z_iconst hk dL_form_14 zc_iconst_0 ?_
    cases h
    exact ZX_iret hk hq ⟨Nat.le_of_ble_eq_true rfl, Nat.le_of_ble_eq_true rfl⟩ dL_form_15
theorem c_L_form {l : Launch} {E : zE} (hL : eL E) (hJ : eJ E) (hfl : l.stackTraces = false) (F : Nat) (ln : Nat) (a0 : Nat) (a1 : Int32) (a2 : Nat) (ha0 : atCanonCote E a0) (ha2 : aJ E a2 ln) (σ : zST) {r0 : Int32} {τ0 : zST} (h : m_L_form F ln a0 a1 a2 σ = some (r0, τ0)) : CtX l yL_form wsL_form r_L_form E [.ref (eA E a0), .int a1, .ref (eA E a2)] σ (.inr (some (.int r0))) τ0 := by
  refine CtX_ofH (hh := [(0, 8, 11, 13)]) (by decide) rfl hL hJ (Nat.le_of_ble_eq_true rfl) (fun K hE hl hk htb hq => ?_)
  subst hE
  subst hl
  exact w_L_form hk hfl htb hq F ln a0 a1 a2 ha0 ha2 σ h
end

-- CanonCoteLaw.placeOf (LCanonCote;II[J)I
section
theorem dL_placeOf_0 : decode cL_placeOf 0 = .ok (.aload_n 3, 1) := by decide +kernel
theorem dL_placeOf_1 : decode cL_placeOf 1 = .ok (.iconst 0, 1) := by decide +kernel
theorem dL_placeOf_2 : decode cL_placeOf 2 = .ok (.aload_n 0, 1) := by decide +kernel
theorem dL_placeOf_3 : decode cL_placeOf 3 = .ok (.iload_n 1, 1) := by decide +kernel
theorem dL_placeOf_4 : decode cL_placeOf 4 = .ok (.iload_n 2, 1) := by decide +kernel
theorem dL_placeOf_5 : decode cL_placeOf 5 = .ok (.invokevirtual 62, 3) := by decide +kernel
theorem dL_placeOf_8 : decode cL_placeOf 8 = .ok (.i2l, 1) := by decide +kernel
theorem dL_placeOf_9 : decode cL_placeOf 9 = .ok (.lastore, 1) := by decide +kernel
theorem dL_placeOf_10 : decode cL_placeOf 10 = .ok (.goto 7, 3) := by decide +kernel
theorem dL_placeOf_13 : decode cL_placeOf 13 = .ok (.astore 4, 2) := by decide +kernel
theorem dL_placeOf_15 : decode cL_placeOf 15 = .ok (.iconst 1, 1) := by decide +kernel
theorem dL_placeOf_16 : decode cL_placeOf 16 = .ok (.ireturn, 1) := by decide +kernel
theorem dL_placeOf_17 : decode cL_placeOf 17 = .ok (.iconst 0, 1) := by decide +kernel
theorem dL_placeOf_18 : decode cL_placeOf 18 = .ok (.ireturn, 1) := by decide +kernel
set_option maxRecDepth 20000 in
theorem ggL_placeOf_X7_placeOf : GoodIn wsL_placeOf wsX7_placeOf := goodIn_ca (goodIn_r _ [6, 7, 8, 9, 10, 5, 11, 12, 13, 14, 15, 16, 17, 18, 19, 20, 21, 22, 23, 24, 25, 26, 27, 28, 29, 30, 31, 32, 33, 34, 35, 36, 37, 38, 39, 40, 41, 42, 43, 44, 45, 46, 47, 48, 49, 50, 51, 52, 53, 54, 55, 56, 57, 58, 59, 60, 61, 62, 63, 64, 65, 66, 67, 68, 69, 70, 71, 72, 73, 74, 75, 76, 77, 78, 79, 80, 81, 82, 83, 84, 85, 86, 87, 88, 89, 90, 91, 92, 93, 94, 95] (by decide +kernel) (by decide +kernel)) (goodIn_sub (fun _ h => List.mem_cons_of_mem _ (List.mem_append_right _ h)) (by decide +kernel))
set_option maxRecDepth 20000 in
theorem gL_placeOf_X7_placeOf : GoodIn wsL_placeOf (wsV RL 62 RX7 yX7_placeOf wsX7_placeOf) := goodIn_app (goodIn_of _ (by decide +kernel)) ggL_placeOf_X7_placeOf
theorem wd_L_placeOf_0 : Cond.classLink RL 13 "java/lang/IndexOutOfBoundsException" ∈ wsL_placeOf := by decide +kernel
def r_L_placeOf : Room := { frames := 15, cells := 2, slots := 12, locals := 376 }
set_option maxRecDepth 100000 in
set_option maxHeartbeats 4000000 in
theorem w_L_placeOf {K : zK} (hk : zIs K RL cL_placeOf 5 wsL_placeOf (some .int) r_L_placeOf) (hfl : (kL K).stackTraces = false) (tb : (kC K).exceptionTable.toList = tableOf [(0, 10, 13, 13)]) {r0 : Int32} {τ0 : zST} (hq : zQX K (.inr (some (.int r0))) τ0) (F : Nat) (ln : Nat) (a0 : Nat) (a1 : Int32) (a2 : Int32) (a3 : Nat) (ha0 : atCanonCote (kZ K) a0) (ha3 : aJ (kZ K) a3 ln) (σ : zST) (h : m_L_placeOf F ln a0 a1 a2 a3 σ = some (r0, τ0)) : Z K 0 0 0 [(0, .ref (eA (kZ K) a0)), (1, .int a1), (2, .int a2), (3, .ref (eA (kZ K) a3))] [] σ := by
  unfold m_L_placeOf at h
  refine Z_aload_n hk 3 dL_placeOf_0 rfl rfl ?_
  refine Z_iconst hk dL_placeOf_1 zc_iconst_0 ?_
  refine Z_aload_n hk 0 dL_placeOf_2 rfl rfl ?_
  refine Z_iload_n hk 1 dL_placeOf_3 rfl rfl ?_
  refine Z_iload_n hk 2 dL_placeOf_4 rfl rfl ?_
  rcases bc_ok h with ⟨e4, s2, h3, h⟩ | ⟨x1, s2, h3, h⟩
  · skip
    by_cases c9 : e4 = "java/lang/IndexOutOfBoundsException"
    · have h := if_yes h c9
      subst c9
      refine ZX_callV 2 hk [.int a1, .int a2] (c_X7_placeOf hk.loc hk.inj hfl F a0 a1 a2 ha0 σ h3) gL_placeOf_X7_placeOf rfl ⟨rfl, by decide +kernel, by decide +kernel, by decide +kernel⟩ ⟨Nat.le_of_ble_eq_true rfl, Nat.le_of_ble_eq_true rfl⟩ ha0.cell.1 (ha0.cell.2 _) rfl rfl rfl (Nat.le_of_ble_eq_true rfl) ⟨Nat.le_of_ble_eq_true rfl, Nat.le_of_ble_eq_true rfl⟩ dL_placeOf_5 (fun X hX => ?_) (fun v hv => by cases hv)
      cases hX
      refine Y_catch hk tb [] ⟨0, 10, 13, 13⟩ [] rfl (fun z hz => by cases hz) (by decide) (by decide) wd_L_placeOf_0 (hk.nest gw_15) rfl (fun q8 => ?_)
      refine Z_astore hk (lv' := [(4, .ref q8), (0, .ref (eA (kZ K) a0)), (1, .int a1), (2, .int a2), (3, .ref (eA (kZ K) a3))]) dL_placeOf_13 (by decide) rfl ?_
      refine Z_iconst hk dL_placeOf_15 zc_iconst_1 ?_
      cases h
      exact ZX_iret hk hq ⟨Nat.le_of_ble_eq_true rfl, Nat.le_of_ble_eq_true rfl⟩ dL_placeOf_16
    have h := if_no h c9
    cases h
  · refine ZX_callV 2 hk [.int a1, .int a2] (c_X7_placeOf hk.loc hk.inj hfl F a0 a1 a2 ha0 σ h3) gL_placeOf_X7_placeOf rfl ⟨rfl, by decide +kernel, by decide +kernel, by decide +kernel⟩ ⟨Nat.le_of_ble_eq_true rfl, Nat.le_of_ble_eq_true rfl⟩ ha0.cell.1 (ha0.cell.2 _) rfl rfl rfl (Nat.le_of_ble_eq_true rfl) ⟨Nat.le_of_ble_eq_true rfl, Nat.le_of_ble_eq_true rfl⟩ dL_placeOf_5 (fun X hX => by cases hX) (fun v hv => ?_)
    cases hv
    show Z K 2 12 8 [(0, .ref (eA (kZ K) a0)), (1, .int a1), (2, .int a2), (3, .ref (eA (kZ K) a3))] [.int x1, .int 0, .ref (eA (kZ K) a3)] s2
    refine Z_i2l hk dL_placeOf_8 ?_
    obtain ⟨i7, s5, e6, h⟩ := stL_get h
    refine Z_last hk ha3 i7 dL_placeOf_9 ?_
    refine Z_eqS e6 ?_
    refine Z_goto hk (tgt := 17) dL_placeOf_10 (by decide) ?_
    refine Z_iconst hk dL_placeOf_17 zc_iconst_0 ?_
    cases h
    exact ZX_iret hk hq ⟨Nat.le_of_ble_eq_true rfl, Nat.le_of_ble_eq_true rfl⟩ dL_placeOf_18
theorem c_L_placeOf {l : Launch} {E : zE} (hL : eL E) (hJ : eJ E) (hfl : l.stackTraces = false) (F : Nat) (ln : Nat) (a0 : Nat) (a1 : Int32) (a2 : Int32) (a3 : Nat) (ha0 : atCanonCote E a0) (ha3 : aJ E a3 ln) (σ : zST) {r0 : Int32} {τ0 : zST} (h : m_L_placeOf F ln a0 a1 a2 a3 σ = some (r0, τ0)) : CtX l yL_placeOf wsL_placeOf r_L_placeOf E [.ref (eA E a0), .int a1, .int a2, .ref (eA E a3)] σ (.inr (some (.int r0))) τ0 := by
  refine CtX_ofH (hh := [(0, 10, 13, 13)]) (by decide) rfl hL hJ (Nat.le_of_ble_eq_true rfl) (fun K hE hl hk htb hq => ?_)
  subst hE
  subst hl
  exact w_L_placeOf hk hfl htb hq F ln a0 a1 a2 a3 ha0 ha3 σ h
end

-- CanonCoteLaw.areAlike (LCanonCote;II[J)I
section
theorem dL_areAlike_0 : decode cL_areAlike 0 = .ok (.aload_n 3, 1) := by decide +kernel
theorem dL_areAlike_1 : decode cL_areAlike 1 = .ok (.iconst 0, 1) := by decide +kernel
theorem dL_areAlike_2 : decode cL_areAlike 2 = .ok (.aload_n 0, 1) := by decide +kernel
theorem dL_areAlike_3 : decode cL_areAlike 3 = .ok (.iload_n 1, 1) := by decide +kernel
theorem dL_areAlike_4 : decode cL_areAlike 4 = .ok (.iload_n 2, 1) := by decide +kernel
theorem dL_areAlike_5 : decode cL_areAlike 5 = .ok (.invokevirtual 65, 3) := by decide +kernel
theorem dL_areAlike_8 : decode cL_areAlike 8 = .ok (.ifCond .eq 7, 3) := by decide +kernel
theorem dL_areAlike_11 : decode cL_areAlike 11 = .ok (.lconst 1, 1) := by decide +kernel
theorem dL_areAlike_12 : decode cL_areAlike 12 = .ok (.goto 4, 3) := by decide +kernel
theorem dL_areAlike_15 : decode cL_areAlike 15 = .ok (.lconst 0, 1) := by decide +kernel
theorem dL_areAlike_16 : decode cL_areAlike 16 = .ok (.lastore, 1) := by decide +kernel
theorem dL_areAlike_17 : decode cL_areAlike 17 = .ok (.goto 7, 3) := by decide +kernel
theorem dL_areAlike_20 : decode cL_areAlike 20 = .ok (.astore 4, 2) := by decide +kernel
theorem dL_areAlike_22 : decode cL_areAlike 22 = .ok (.iconst 1, 1) := by decide +kernel
theorem dL_areAlike_23 : decode cL_areAlike 23 = .ok (.ireturn, 1) := by decide +kernel
theorem dL_areAlike_24 : decode cL_areAlike 24 = .ok (.iconst 0, 1) := by decide +kernel
theorem dL_areAlike_25 : decode cL_areAlike 25 = .ok (.ireturn, 1) := by decide +kernel
set_option maxRecDepth 20000 in
theorem ggL_areAlike_X7_areAlike : GoodIn wsL_areAlike wsX7_areAlike := goodIn_ca (goodIn_r _ [6, 7, 8, 9, 5, 10, 11, 12, 13, 14, 15, 16, 17, 18, 19, 20, 21, 22, 23, 24, 25, 26, 27, 28, 29, 30, 31, 32, 33, 34, 35, 36, 37, 38, 39, 40, 41, 42, 43, 44, 45, 46, 47, 48, 49, 50, 51, 52, 53, 54, 55, 56, 57, 58, 59, 60, 61, 62, 63, 64, 65, 66, 67, 68, 69, 70, 71, 72, 73, 74, 75, 76, 77, 78, 79, 80, 81, 82, 83, 84, 85, 86, 87, 88, 89, 90, 91, 92, 93, 94, 95, 96, 97, 98, 99, 100, 101, 102, 103, 104] (by decide +kernel) (by decide +kernel)) (goodIn_sub (fun _ h => List.mem_cons_of_mem _ (List.mem_append_right _ h)) (by decide +kernel))
set_option maxRecDepth 20000 in
theorem gL_areAlike_X7_areAlike : GoodIn wsL_areAlike (wsV RL 65 RX7 yX7_areAlike wsX7_areAlike) := goodIn_app (goodIn_of _ (by decide +kernel)) ggL_areAlike_X7_areAlike
theorem wd_L_areAlike_0 : Cond.classLink RL 13 "java/lang/IndexOutOfBoundsException" ∈ wsL_areAlike := by decide +kernel
def r_L_areAlike : Room := { frames := 17, cells := 2, slots := 12, locals := 419 }
set_option maxRecDepth 100000 in
set_option maxHeartbeats 4000000 in
theorem w_L_areAlike_16 {K : zK} (hk : zIs K RL cL_areAlike 5 wsL_areAlike (some .int) r_L_areAlike) (hfl : (kL K).stackTraces = false) (tb : (kC K).exceptionTable.toList = tableOf [(0, 17, 20, 13)]) {r0 : Int32} {τ0 : zST} (hq : zQX K (.inr (some (.int r0))) τ0) (F : Nat) (ln : Nat) (t0 : Int64) (t1 : Int32) (t2 : Nat) (ht2 : aJ (kZ K) t2 ln) (σ : zST) (h : m_L_areAlike_16 F ln t0 t1 t2 σ = some (r0, τ0)) : Z K 2 12 16 [] [.long t0, .int t1, .ref (eA (kZ K) t2)] σ := by
  unfold m_L_areAlike_16 at h
  obtain ⟨i10, s8, e9, h⟩ := stL_get h
  refine Z_last hk ht2 i10 dL_areAlike_16 ?_
  refine Z_eqS e9 ?_
  refine Z_goto hk (tgt := 24) dL_areAlike_17 (by decide) ?_
  refine Z_iconst hk dL_areAlike_24 zc_iconst_0 ?_
  cases h
  exact ZX_iret hk hq ⟨Nat.le_of_ble_eq_true rfl, Nat.le_of_ble_eq_true rfl⟩ dL_areAlike_25
set_option maxRecDepth 100000 in
set_option maxHeartbeats 4000000 in
theorem w_L_areAlike {K : zK} (hk : zIs K RL cL_areAlike 5 wsL_areAlike (some .int) r_L_areAlike) (hfl : (kL K).stackTraces = false) (tb : (kC K).exceptionTable.toList = tableOf [(0, 17, 20, 13)]) {r0 : Int32} {τ0 : zST} (hq : zQX K (.inr (some (.int r0))) τ0) (F : Nat) (ln : Nat) (a0 : Nat) (a1 : Int32) (a2 : Int32) (a3 : Nat) (ha0 : atCanonCote (kZ K) a0) (ha3 : aJ (kZ K) a3 ln) (σ : zST) (h : m_L_areAlike F ln a0 a1 a2 a3 σ = some (r0, τ0)) : Z K 0 0 0 [(0, .ref (eA (kZ K) a0)), (1, .int a1), (2, .int a2), (3, .ref (eA (kZ K) a3))] [] σ := by
  unfold m_L_areAlike at h
  refine Z_aload_n hk 3 dL_areAlike_0 rfl rfl ?_
  refine Z_iconst hk dL_areAlike_1 zc_iconst_0 ?_
  refine Z_aload_n hk 0 dL_areAlike_2 rfl rfl ?_
  refine Z_iload_n hk 1 dL_areAlike_3 rfl rfl ?_
  refine Z_iload_n hk 2 dL_areAlike_4 rfl rfl ?_
  rcases bc_ok h with ⟨e4, s2, h3, h⟩ | ⟨x1, s2, h3, h⟩
  · skip
    by_cases c7 : e4 = "java/lang/IndexOutOfBoundsException"
    · have h := if_yes h c7
      subst c7
      refine ZX_callV 2 hk [.int a1, .int a2] (c_X7_areAlike hk.loc hk.inj hfl F a0 a1 a2 ha0 σ h3) gL_areAlike_X7_areAlike rfl ⟨rfl, by decide +kernel, by decide +kernel, by decide +kernel⟩ ⟨Nat.le_of_ble_eq_true rfl, Nat.le_of_ble_eq_true rfl⟩ ha0.cell.1 (ha0.cell.2 _) rfl rfl rfl (Nat.le_of_ble_eq_true rfl) ⟨Nat.le_of_ble_eq_true rfl, Nat.le_of_ble_eq_true rfl⟩ dL_areAlike_5 (fun X hX => ?_) (fun v hv => by cases hv)
      cases hX
      refine Y_catch hk tb [] ⟨0, 17, 20, 13⟩ [] rfl (fun z hz => by cases hz) (by decide) (by decide) wd_L_areAlike_0 (hk.nest gw_15) rfl (fun q6 => ?_)
      refine Z_astore hk (lv' := [(4, .ref q6), (0, .ref (eA (kZ K) a0)), (1, .int a1), (2, .int a2), (3, .ref (eA (kZ K) a3))]) dL_areAlike_20 (by decide) rfl ?_
      refine Z_iconst hk dL_areAlike_22 zc_iconst_1 ?_
      cases h
      exact ZX_iret hk hq ⟨Nat.le_of_ble_eq_true rfl, Nat.le_of_ble_eq_true rfl⟩ dL_areAlike_23
    have h := if_no h c7
    cases h
  · refine ZX_callV 2 hk [.int a1, .int a2] (c_X7_areAlike hk.loc hk.inj hfl F a0 a1 a2 ha0 σ h3) gL_areAlike_X7_areAlike rfl ⟨rfl, by decide +kernel, by decide +kernel, by decide +kernel⟩ ⟨Nat.le_of_ble_eq_true rfl, Nat.le_of_ble_eq_true rfl⟩ ha0.cell.1 (ha0.cell.2 _) rfl rfl rfl (Nat.le_of_ble_eq_true rfl) ⟨Nat.le_of_ble_eq_true rfl, Nat.le_of_ble_eq_true rfl⟩ dL_areAlike_5 (fun X hX => by cases hX) (fun v hv => ?_)
    cases hv
    show Z K 2 12 8 [(0, .ref (eA (kZ K) a0)), (1, .int a1), (2, .int a2), (3, .ref (eA (kZ K) a3))] [.int x1, .int 0, .ref (eA (kZ K) a3)] s2
    refine Z_if_eq hk (tgt := 15) dL_areAlike_8 (by decide) (fun c5 => ?_) (fun c5 => ?_)
    · have h := if_yes h c5
      refine Z_lconst hk dL_areAlike_15 (v := 0) rfl ?_
      refine Z_sub [] rfl ?_
      exact w_L_areAlike_16 hk hfl tb hq F ln 0 0 a3 ha3 s2 h
    · have h := if_no h c5
      refine Z_lconst hk dL_areAlike_11 (v := 1) rfl ?_
      refine Z_goto hk (tgt := 16) dL_areAlike_12 (by decide) ?_
      refine Z_sub [] rfl ?_
      exact w_L_areAlike_16 hk hfl tb hq F ln 1 0 a3 ha3 s2 h
theorem c_L_areAlike {l : Launch} {E : zE} (hL : eL E) (hJ : eJ E) (hfl : l.stackTraces = false) (F : Nat) (ln : Nat) (a0 : Nat) (a1 : Int32) (a2 : Int32) (a3 : Nat) (ha0 : atCanonCote E a0) (ha3 : aJ E a3 ln) (σ : zST) {r0 : Int32} {τ0 : zST} (h : m_L_areAlike F ln a0 a1 a2 a3 σ = some (r0, τ0)) : CtX l yL_areAlike wsL_areAlike r_L_areAlike E [.ref (eA E a0), .int a1, .int a2, .ref (eA E a3)] σ (.inr (some (.int r0))) τ0 := by
  refine CtX_ofH (hh := [(0, 17, 20, 13)]) (by decide) rfl hL hJ (Nat.le_of_ble_eq_true rfl) (fun K hE hl hk htb hq => ?_)
  subst hE
  subst hl
  exact w_L_areAlike hk hfl htb hq F ln a0 a1 a2 a3 ha0 ha3 σ h
end

-- CanonCoteLaw.image (LCanonCote;III[J)I
section
theorem dL_image_0 : decode cL_image 0 = .ok (.aload 4, 2) := by decide +kernel
theorem dL_image_2 : decode cL_image 2 = .ok (.iconst 0, 1) := by decide +kernel
theorem dL_image_3 : decode cL_image 3 = .ok (.aload_n 0, 1) := by decide +kernel
theorem dL_image_4 : decode cL_image 4 = .ok (.iload_n 1, 1) := by decide +kernel
theorem dL_image_5 : decode cL_image 5 = .ok (.iload_n 2, 1) := by decide +kernel
theorem dL_image_6 : decode cL_image 6 = .ok (.iload_n 3, 1) := by decide +kernel
theorem dL_image_7 : decode cL_image 7 = .ok (.invokevirtual 69, 3) := by decide +kernel
theorem dL_image_10 : decode cL_image 10 = .ok (.i2l, 1) := by decide +kernel
theorem dL_image_11 : decode cL_image 11 = .ok (.lastore, 1) := by decide +kernel
theorem dL_image_12 : decode cL_image 12 = .ok (.goto 7, 3) := by decide +kernel
theorem dL_image_15 : decode cL_image 15 = .ok (.astore 5, 2) := by decide +kernel
theorem dL_image_17 : decode cL_image 17 = .ok (.iconst 1, 1) := by decide +kernel
theorem dL_image_18 : decode cL_image 18 = .ok (.ireturn, 1) := by decide +kernel
theorem dL_image_19 : decode cL_image 19 = .ok (.iconst 0, 1) := by decide +kernel
theorem dL_image_20 : decode cL_image 20 = .ok (.ireturn, 1) := by decide +kernel
set_option maxRecDepth 20000 in
theorem ggL_image_X7_image : GoodIn wsL_image wsX7_image := goodIn_ca (goodIn_r _ [6, 7, 8, 9, 10, 5, 11, 12, 13, 14, 15, 16, 17, 18, 19, 20, 21, 22, 23, 24, 25, 26, 27, 28, 29, 30, 31, 32, 33, 34, 35, 36, 37, 38, 39, 40, 41, 42, 43, 44, 45, 46, 47, 48, 49, 50, 51, 52, 53, 54, 55, 56, 57, 58, 59, 60, 61, 62, 63, 64, 65, 66, 67, 68, 69, 70, 71, 72, 73, 74, 75, 76, 77, 78, 79, 80, 81, 82, 83, 84, 85, 86, 87, 88, 89, 90, 91, 92, 93, 94, 95, 96, 97, 98, 99, 100, 101, 102, 103, 104, 105, 106, 107, 108, 109, 110, 111, 112, 113, 114, 115, 116, 117, 118, 119, 120, 121, 122, 123, 124, 125, 126, 127, 128, 129, 130, 131, 132, 133, 134, 135, 136, 137, 138, 139, 140, 141, 142, 143, 144, 145, 146, 147, 148, 149, 150, 151, 152, 153, 154, 155, 156, 157, 158] (by decide +kernel) (by decide +kernel)) (goodIn_sub (fun _ h => List.mem_cons_of_mem _ (List.mem_append_right _ h)) (by decide +kernel))
set_option maxRecDepth 20000 in
theorem gL_image_X7_image : GoodIn wsL_image (wsV RL 69 RX7 yX7_image wsX7_image) := goodIn_app (goodIn_of _ (by decide +kernel)) ggL_image_X7_image
theorem wd_L_image_0 : Cond.classLink RL 13 "java/lang/IndexOutOfBoundsException" ∈ wsL_image := by decide +kernel
def r_L_image : Room := { frames := 17, cells := 3, slots := 18, locals := 421 }
set_option maxRecDepth 100000 in
set_option maxHeartbeats 4000000 in
theorem w_L_image {K : zK} (hk : zIs K RL cL_image 6 wsL_image (some .int) r_L_image) (hfl : (kL K).stackTraces = false) (tb : (kC K).exceptionTable.toList = tableOf [(0, 12, 15, 13)]) {r0 : Int32} {τ0 : zST} (hq : zQX K (.inr (some (.int r0))) τ0) (F : Nat) (ln : Nat) (a0 : Nat) (a1 : Int32) (a2 : Int32) (a3 : Int32) (a4 : Nat) (ha0 : atCanonCote (kZ K) a0) (ha4 : aJ (kZ K) a4 ln) (σ : zST) (h : m_L_image F ln a0 a1 a2 a3 a4 σ = some (r0, τ0)) : Z K 0 0 0 [(0, .ref (eA (kZ K) a0)), (1, .int a1), (2, .int a2), (3, .int a3), (4, .ref (eA (kZ K) a4))] [] σ := by
  unfold m_L_image at h
  refine Z_aload hk 4 dL_image_0 rfl ?_
  refine Z_iconst hk dL_image_2 zc_iconst_0 ?_
  refine Z_aload_n hk 0 dL_image_3 rfl rfl ?_
  refine Z_iload_n hk 1 dL_image_4 rfl rfl ?_
  refine Z_iload_n hk 2 dL_image_5 rfl rfl ?_
  refine Z_iload_n hk 3 dL_image_6 rfl rfl ?_
  rcases bc_ok h with ⟨e4, s2, h3, h⟩ | ⟨x1, s2, h3, h⟩
  · skip
    by_cases c9 : e4 = "java/lang/IndexOutOfBoundsException"
    · have h := if_yes h c9
      subst c9
      refine ZX_callV 3 hk [.int a1, .int a2, .int a3] (c_X7_image hk.loc hk.inj hfl F a0 a1 a2 a3 ha0 σ h3) gL_image_X7_image rfl ⟨rfl, by decide +kernel, by decide +kernel, by decide +kernel⟩ ⟨Nat.le_of_ble_eq_true rfl, Nat.le_of_ble_eq_true rfl⟩ ha0.cell.1 (ha0.cell.2 _) rfl rfl rfl (Nat.le_of_ble_eq_true rfl) ⟨Nat.le_of_ble_eq_true rfl, Nat.le_of_ble_eq_true rfl⟩ dL_image_7 (fun X hX => ?_) (fun v hv => by cases hv)
      cases hX
      refine Y_catch hk tb [] ⟨0, 12, 15, 13⟩ [] rfl (fun z hz => by cases hz) (by decide) (by decide) wd_L_image_0 (hk.nest gw_15) rfl (fun q8 => ?_)
      refine Z_astore hk (lv' := [(5, .ref q8), (0, .ref (eA (kZ K) a0)), (1, .int a1), (2, .int a2), (3, .int a3), (4, .ref (eA (kZ K) a4))]) dL_image_15 (by decide) rfl ?_
      refine Z_iconst hk dL_image_17 zc_iconst_1 ?_
      cases h
      exact ZX_iret hk hq ⟨Nat.le_of_ble_eq_true rfl, Nat.le_of_ble_eq_true rfl⟩ dL_image_18
    have h := if_no h c9
    cases h
  · refine ZX_callV 3 hk [.int a1, .int a2, .int a3] (c_X7_image hk.loc hk.inj hfl F a0 a1 a2 a3 ha0 σ h3) gL_image_X7_image rfl ⟨rfl, by decide +kernel, by decide +kernel, by decide +kernel⟩ ⟨Nat.le_of_ble_eq_true rfl, Nat.le_of_ble_eq_true rfl⟩ ha0.cell.1 (ha0.cell.2 _) rfl rfl rfl (Nat.le_of_ble_eq_true rfl) ⟨Nat.le_of_ble_eq_true rfl, Nat.le_of_ble_eq_true rfl⟩ dL_image_7 (fun X hX => by cases hX) (fun v hv => ?_)
    cases hv
    show Z K 3 18 10 [(0, .ref (eA (kZ K) a0)), (1, .int a1), (2, .int a2), (3, .int a3), (4, .ref (eA (kZ K) a4))] [.int x1, .int 0, .ref (eA (kZ K) a4)] s2
    refine Z_i2l hk dL_image_10 ?_
    obtain ⟨i7, s5, e6, h⟩ := stL_get h
    refine Z_last hk ha4 i7 dL_image_11 ?_
    refine Z_eqS e6 ?_
    refine Z_goto hk (tgt := 19) dL_image_12 (by decide) ?_
    refine Z_iconst hk dL_image_19 zc_iconst_0 ?_
    cases h
    exact ZX_iret hk hq ⟨Nat.le_of_ble_eq_true rfl, Nat.le_of_ble_eq_true rfl⟩ dL_image_20
theorem c_L_image {l : Launch} {E : zE} (hL : eL E) (hJ : eJ E) (hfl : l.stackTraces = false) (F : Nat) (ln : Nat) (a0 : Nat) (a1 : Int32) (a2 : Int32) (a3 : Int32) (a4 : Nat) (ha0 : atCanonCote E a0) (ha4 : aJ E a4 ln) (σ : zST) {r0 : Int32} {τ0 : zST} (h : m_L_image F ln a0 a1 a2 a3 a4 σ = some (r0, τ0)) : CtX l yL_image wsL_image r_L_image E [.ref (eA E a0), .int a1, .int a2, .int a3, .ref (eA E a4)] σ (.inr (some (.int r0))) τ0 := by
  refine CtX_ofH (hh := [(0, 12, 15, 13)]) (by decide) rfl hL hJ (Nat.le_of_ble_eq_true rfl) (fun K hE hl hk htb hq => ?_)
  subst hE
  subst hl
  exact w_L_image hk hfl htb hq F ln a0 a1 a2 a3 a4 ha0 ha4 σ h
end

-- CanonCoteLaw.copies (LCanonCote;II[J)I
section
theorem dL_copies_0 : decode cL_copies 0 = .ok (.aload_n 3, 1) := by decide +kernel
theorem dL_copies_1 : decode cL_copies 1 = .ok (.iconst 0, 1) := by decide +kernel
theorem dL_copies_2 : decode cL_copies 2 = .ok (.aload_n 0, 1) := by decide +kernel
theorem dL_copies_3 : decode cL_copies 3 = .ok (.iload_n 1, 1) := by decide +kernel
theorem dL_copies_4 : decode cL_copies 4 = .ok (.iload_n 2, 1) := by decide +kernel
theorem dL_copies_5 : decode cL_copies 5 = .ok (.invokevirtual 72, 3) := by decide +kernel
theorem dL_copies_8 : decode cL_copies 8 = .ok (.i2l, 1) := by decide +kernel
theorem dL_copies_9 : decode cL_copies 9 = .ok (.lastore, 1) := by decide +kernel
theorem dL_copies_10 : decode cL_copies 10 = .ok (.goto 7, 3) := by decide +kernel
theorem dL_copies_13 : decode cL_copies 13 = .ok (.astore 4, 2) := by decide +kernel
theorem dL_copies_15 : decode cL_copies 15 = .ok (.iconst 1, 1) := by decide +kernel
theorem dL_copies_16 : decode cL_copies 16 = .ok (.ireturn, 1) := by decide +kernel
theorem dL_copies_17 : decode cL_copies 17 = .ok (.iconst 0, 1) := by decide +kernel
theorem dL_copies_18 : decode cL_copies 18 = .ok (.ireturn, 1) := by decide +kernel
set_option maxRecDepth 20000 in
theorem ggL_copies_X7_copies : GoodIn wsL_copies wsX7_copies := goodIn_ca (goodIn_r _ [6, 7, 8, 9, 10, 5, 11, 12, 13, 14, 15, 16, 17, 18, 19, 20, 21, 22, 23, 24, 25, 26, 27, 28, 29, 30, 31, 32, 33, 34, 35, 36, 37, 38, 39, 40, 41, 42, 43, 44, 45, 46, 47, 48, 49, 50, 51, 52, 53, 54, 55, 56, 57, 58, 59, 60, 61, 62, 63, 64, 65, 66, 67, 68, 69, 70, 71, 72, 73, 74, 75, 76, 77, 78, 79, 80, 81, 82, 83, 84, 85, 86, 87, 88, 89, 90, 91, 92, 93, 94, 95, 96, 97, 98, 99, 100, 101, 102, 103, 104, 105, 106, 107, 108, 109, 110, 111, 112, 113, 114, 115] (by decide +kernel) (by decide +kernel)) (goodIn_sub (fun _ h => List.mem_cons_of_mem _ (List.mem_append_right _ h)) (by decide +kernel))
set_option maxRecDepth 20000 in
theorem gL_copies_X7_copies : GoodIn wsL_copies (wsV RL 72 RX7 yX7_copies wsX7_copies) := goodIn_app (goodIn_of _ (by decide +kernel)) ggL_copies_X7_copies
theorem wd_L_copies_0 : Cond.classLink RL 13 "java/lang/IndexOutOfBoundsException" ∈ wsL_copies := by decide +kernel
def r_L_copies : Room := { frames := 16, cells := 2, slots := 12, locals := 402 }
set_option maxRecDepth 100000 in
set_option maxHeartbeats 4000000 in
theorem w_L_copies {K : zK} (hk : zIs K RL cL_copies 5 wsL_copies (some .int) r_L_copies) (hfl : (kL K).stackTraces = false) (tb : (kC K).exceptionTable.toList = tableOf [(0, 10, 13, 13)]) {r0 : Int32} {τ0 : zST} (hq : zQX K (.inr (some (.int r0))) τ0) (F : Nat) (ln : Nat) (a0 : Nat) (a1 : Int32) (a2 : Int32) (a3 : Nat) (ha0 : atCanonCote (kZ K) a0) (ha3 : aJ (kZ K) a3 ln) (σ : zST) (h : m_L_copies F ln a0 a1 a2 a3 σ = some (r0, τ0)) : Z K 0 0 0 [(0, .ref (eA (kZ K) a0)), (1, .int a1), (2, .int a2), (3, .ref (eA (kZ K) a3))] [] σ := by
  unfold m_L_copies at h
  refine Z_aload_n hk 3 dL_copies_0 rfl rfl ?_
  refine Z_iconst hk dL_copies_1 zc_iconst_0 ?_
  refine Z_aload_n hk 0 dL_copies_2 rfl rfl ?_
  refine Z_iload_n hk 1 dL_copies_3 rfl rfl ?_
  refine Z_iload_n hk 2 dL_copies_4 rfl rfl ?_
  rcases bc_ok h with ⟨e4, s2, h3, h⟩ | ⟨x1, s2, h3, h⟩
  · skip
    by_cases c9 : e4 = "java/lang/IndexOutOfBoundsException"
    · have h := if_yes h c9
      subst c9
      refine ZX_callV 2 hk [.int a1, .int a2] (c_X7_copies hk.loc hk.inj hfl F a0 a1 a2 ha0 σ h3) gL_copies_X7_copies rfl ⟨rfl, by decide +kernel, by decide +kernel, by decide +kernel⟩ ⟨Nat.le_of_ble_eq_true rfl, Nat.le_of_ble_eq_true rfl⟩ ha0.cell.1 (ha0.cell.2 _) rfl rfl rfl (Nat.le_of_ble_eq_true rfl) ⟨Nat.le_of_ble_eq_true rfl, Nat.le_of_ble_eq_true rfl⟩ dL_copies_5 (fun X hX => ?_) (fun v hv => by cases hv)
      cases hX
      refine Y_catch hk tb [] ⟨0, 10, 13, 13⟩ [] rfl (fun z hz => by cases hz) (by decide) (by decide) wd_L_copies_0 (hk.nest gw_15) rfl (fun q8 => ?_)
      refine Z_astore hk (lv' := [(4, .ref q8), (0, .ref (eA (kZ K) a0)), (1, .int a1), (2, .int a2), (3, .ref (eA (kZ K) a3))]) dL_copies_13 (by decide) rfl ?_
      refine Z_iconst hk dL_copies_15 zc_iconst_1 ?_
      cases h
      exact ZX_iret hk hq ⟨Nat.le_of_ble_eq_true rfl, Nat.le_of_ble_eq_true rfl⟩ dL_copies_16
    have h := if_no h c9
    cases h
  · refine ZX_callV 2 hk [.int a1, .int a2] (c_X7_copies hk.loc hk.inj hfl F a0 a1 a2 ha0 σ h3) gL_copies_X7_copies rfl ⟨rfl, by decide +kernel, by decide +kernel, by decide +kernel⟩ ⟨Nat.le_of_ble_eq_true rfl, Nat.le_of_ble_eq_true rfl⟩ ha0.cell.1 (ha0.cell.2 _) rfl rfl rfl (Nat.le_of_ble_eq_true rfl) ⟨Nat.le_of_ble_eq_true rfl, Nat.le_of_ble_eq_true rfl⟩ dL_copies_5 (fun X hX => by cases hX) (fun v hv => ?_)
    cases hv
    show Z K 2 12 8 [(0, .ref (eA (kZ K) a0)), (1, .int a1), (2, .int a2), (3, .ref (eA (kZ K) a3))] [.int x1, .int 0, .ref (eA (kZ K) a3)] s2
    refine Z_i2l hk dL_copies_8 ?_
    obtain ⟨i7, s5, e6, h⟩ := stL_get h
    refine Z_last hk ha3 i7 dL_copies_9 ?_
    refine Z_eqS e6 ?_
    refine Z_goto hk (tgt := 17) dL_copies_10 (by decide) ?_
    refine Z_iconst hk dL_copies_17 zc_iconst_0 ?_
    cases h
    exact ZX_iret hk hq ⟨Nat.le_of_ble_eq_true rfl, Nat.le_of_ble_eq_true rfl⟩ dL_copies_18
theorem c_L_copies {l : Launch} {E : zE} (hL : eL E) (hJ : eJ E) (hfl : l.stackTraces = false) (F : Nat) (ln : Nat) (a0 : Nat) (a1 : Int32) (a2 : Int32) (a3 : Nat) (ha0 : atCanonCote E a0) (ha3 : aJ E a3 ln) (σ : zST) {r0 : Int32} {τ0 : zST} (h : m_L_copies F ln a0 a1 a2 a3 σ = some (r0, τ0)) : CtX l yL_copies wsL_copies r_L_copies E [.ref (eA E a0), .int a1, .int a2, .ref (eA E a3)] σ (.inr (some (.int r0))) τ0 := by
  refine CtX_ofH (hh := [(0, 10, 13, 13)]) (by decide) rfl hL hJ (Nat.le_of_ble_eq_true rfl) (fun K hE hl hk htb hq => ?_)
  subst hE
  subst hl
  exact w_L_copies hk hfl htb hq F ln a0 a1 a2 a3 ha0 ha3 σ h
end

-- CanonCoteLaw.symmetries (LCanonCote;I[J)I
section
theorem dL_symmetries_0 : decode cL_symmetries 0 = .ok (.aload_n 2, 1) := by decide +kernel
theorem dL_symmetries_1 : decode cL_symmetries 1 = .ok (.iconst 0, 1) := by decide +kernel
theorem dL_symmetries_2 : decode cL_symmetries 2 = .ok (.aload_n 0, 1) := by decide +kernel
theorem dL_symmetries_3 : decode cL_symmetries 3 = .ok (.iload_n 1, 1) := by decide +kernel
theorem dL_symmetries_4 : decode cL_symmetries 4 = .ok (.invokevirtual 75, 3) := by decide +kernel
theorem dL_symmetries_7 : decode cL_symmetries 7 = .ok (.i2l, 1) := by decide +kernel
theorem dL_symmetries_8 : decode cL_symmetries 8 = .ok (.lastore, 1) := by decide +kernel
theorem dL_symmetries_9 : decode cL_symmetries 9 = .ok (.goto 6, 3) := by decide +kernel
theorem dL_symmetries_12 : decode cL_symmetries 12 = .ok (.astore_n 3, 1) := by decide +kernel
theorem dL_symmetries_13 : decode cL_symmetries 13 = .ok (.iconst 1, 1) := by decide +kernel
theorem dL_symmetries_14 : decode cL_symmetries 14 = .ok (.ireturn, 1) := by decide +kernel
theorem dL_symmetries_15 : decode cL_symmetries 15 = .ok (.iconst 0, 1) := by decide +kernel
theorem dL_symmetries_16 : decode cL_symmetries 16 = .ok (.ireturn, 1) := by decide +kernel
set_option maxRecDepth 20000 in
theorem ggL_symmetries_X7_symmetries : GoodIn wsL_symmetries wsX7_symmetries := goodIn_ca (goodIn_r _ [6, 7, 8, 9, 10, 5, 11, 12, 13, 14, 15, 16, 17, 18, 19, 20, 21, 22, 23, 24, 25, 26, 27, 28, 29, 30, 31, 32, 33, 34, 35, 36, 37, 38, 39, 40, 41, 42, 43, 44, 45, 46, 47, 48, 49, 50, 51, 52, 53, 54, 55, 56, 57, 58, 59, 60, 61, 62, 63, 64, 65, 66, 67, 68, 69, 70, 71, 72, 73, 74, 75, 76, 77, 78, 79, 80, 81, 82, 83, 84, 85, 86, 87, 88, 89, 90, 91, 92] (by decide +kernel) (by decide +kernel)) (goodIn_sub (fun _ h => List.mem_cons_of_mem _ (List.mem_append_right _ h)) (by decide +kernel))
set_option maxRecDepth 20000 in
theorem gL_symmetries_X7_symmetries : GoodIn wsL_symmetries (wsV RL 75 RX7 yX7_symmetries wsX7_symmetries) := goodIn_app (goodIn_of _ (by decide +kernel)) ggL_symmetries_X7_symmetries
theorem wd_L_symmetries_0 : Cond.classLink RL 13 "java/lang/IndexOutOfBoundsException" ∈ wsL_symmetries := by decide +kernel
def r_L_symmetries : Room := { frames := 15, cells := 1, slots := 6, locals := 375 }
set_option maxRecDepth 100000 in
set_option maxHeartbeats 4000000 in
theorem w_L_symmetries {K : zK} (hk : zIs K RL cL_symmetries 4 wsL_symmetries (some .int) r_L_symmetries) (hfl : (kL K).stackTraces = false) (tb : (kC K).exceptionTable.toList = tableOf [(0, 9, 12, 13)]) {r0 : Int32} {τ0 : zST} (hq : zQX K (.inr (some (.int r0))) τ0) (F : Nat) (ln : Nat) (a0 : Nat) (a1 : Int32) (a2 : Nat) (ha0 : atCanonCote (kZ K) a0) (ha2 : aJ (kZ K) a2 ln) (σ : zST) (h : m_L_symmetries F ln a0 a1 a2 σ = some (r0, τ0)) : Z K 0 0 0 [(0, .ref (eA (kZ K) a0)), (1, .int a1), (2, .ref (eA (kZ K) a2))] [] σ := by
  unfold m_L_symmetries at h
  refine Z_aload_n hk 2 dL_symmetries_0 rfl rfl ?_
  refine Z_iconst hk dL_symmetries_1 zc_iconst_0 ?_
  refine Z_aload_n hk 0 dL_symmetries_2 rfl rfl ?_
  refine Z_iload_n hk 1 dL_symmetries_3 rfl rfl ?_
  rcases bc_ok h with ⟨e4, s2, h3, h⟩ | ⟨x1, s2, h3, h⟩
  · skip
    by_cases c9 : e4 = "java/lang/IndexOutOfBoundsException"
    · have h := if_yes h c9
      subst c9
      refine ZX_callV 1 hk [.int a1] (c_X7_symmetries hk.loc hk.inj hfl F a0 a1 ha0 σ h3) gL_symmetries_X7_symmetries rfl ⟨rfl, by decide +kernel, by decide +kernel, by decide +kernel⟩ ⟨Nat.le_of_ble_eq_true rfl, Nat.le_of_ble_eq_true rfl⟩ ha0.cell.1 (ha0.cell.2 _) rfl rfl rfl (Nat.le_of_ble_eq_true rfl) ⟨Nat.le_of_ble_eq_true rfl, Nat.le_of_ble_eq_true rfl⟩ dL_symmetries_4 (fun X hX => ?_) (fun v hv => by cases hv)
      cases hX
      refine Y_catch hk tb [] ⟨0, 9, 12, 13⟩ [] rfl (fun z hz => by cases hz) (by decide) (by decide) wd_L_symmetries_0 (hk.nest gw_15) rfl (fun q8 => ?_)
      refine Z_astore_n hk (lv' := [(3, .ref q8), (0, .ref (eA (kZ K) a0)), (1, .int a1), (2, .ref (eA (kZ K) a2))]) dL_symmetries_12 rfl (by decide) rfl ?_
      refine Z_iconst hk dL_symmetries_13 zc_iconst_1 ?_
      cases h
      exact ZX_iret hk hq ⟨Nat.le_of_ble_eq_true rfl, Nat.le_of_ble_eq_true rfl⟩ dL_symmetries_14
    have h := if_no h c9
    cases h
  · refine ZX_callV 1 hk [.int a1] (c_X7_symmetries hk.loc hk.inj hfl F a0 a1 ha0 σ h3) gL_symmetries_X7_symmetries rfl ⟨rfl, by decide +kernel, by decide +kernel, by decide +kernel⟩ ⟨Nat.le_of_ble_eq_true rfl, Nat.le_of_ble_eq_true rfl⟩ ha0.cell.1 (ha0.cell.2 _) rfl rfl rfl (Nat.le_of_ble_eq_true rfl) ⟨Nat.le_of_ble_eq_true rfl, Nat.le_of_ble_eq_true rfl⟩ dL_symmetries_4 (fun X hX => by cases hX) (fun v hv => ?_)
    cases hv
    show Z K 1 6 7 [(0, .ref (eA (kZ K) a0)), (1, .int a1), (2, .ref (eA (kZ K) a2))] [.int x1, .int 0, .ref (eA (kZ K) a2)] s2
    refine Z_i2l hk dL_symmetries_7 ?_
    obtain ⟨i7, s5, e6, h⟩ := stL_get h
    refine Z_last hk ha2 i7 dL_symmetries_8 ?_
    refine Z_eqS e6 ?_
    refine Z_goto hk (tgt := 15) dL_symmetries_9 (by decide) ?_
    refine Z_iconst hk dL_symmetries_15 zc_iconst_0 ?_
    cases h
    exact ZX_iret hk hq ⟨Nat.le_of_ble_eq_true rfl, Nat.le_of_ble_eq_true rfl⟩ dL_symmetries_16
theorem c_L_symmetries {l : Launch} {E : zE} (hL : eL E) (hJ : eJ E) (hfl : l.stackTraces = false) (F : Nat) (ln : Nat) (a0 : Nat) (a1 : Int32) (a2 : Nat) (ha0 : atCanonCote E a0) (ha2 : aJ E a2 ln) (σ : zST) {r0 : Int32} {τ0 : zST} (h : m_L_symmetries F ln a0 a1 a2 σ = some (r0, τ0)) : CtX l yL_symmetries wsL_symmetries r_L_symmetries E [.ref (eA E a0), .int a1, .ref (eA E a2)] σ (.inr (some (.int r0))) τ0 := by
  refine CtX_ofH (hh := [(0, 9, 12, 13)]) (by decide) rfl hL hJ (Nat.le_of_ble_eq_true rfl) (fun K hE hl hk htb hq => ?_)
  subst hE
  subst hl
  exact w_L_symmetries hk hfl htb hq F ln a0 a1 a2 ha0 ha2 σ h
end

-- CanonCoteLaw.orbits (LCanonCote;I[J)I
section
theorem dL_orbits_0 : decode cL_orbits 0 = .ok (.aload_n 2, 1) := by decide +kernel
theorem dL_orbits_1 : decode cL_orbits 1 = .ok (.iconst 0, 1) := by decide +kernel
theorem dL_orbits_2 : decode cL_orbits 2 = .ok (.aload_n 0, 1) := by decide +kernel
theorem dL_orbits_3 : decode cL_orbits 3 = .ok (.iload_n 1, 1) := by decide +kernel
theorem dL_orbits_4 : decode cL_orbits 4 = .ok (.invokevirtual 78, 3) := by decide +kernel
theorem dL_orbits_7 : decode cL_orbits 7 = .ok (.i2l, 1) := by decide +kernel
theorem dL_orbits_8 : decode cL_orbits 8 = .ok (.lastore, 1) := by decide +kernel
theorem dL_orbits_9 : decode cL_orbits 9 = .ok (.goto 6, 3) := by decide +kernel
theorem dL_orbits_12 : decode cL_orbits 12 = .ok (.astore_n 3, 1) := by decide +kernel
theorem dL_orbits_13 : decode cL_orbits 13 = .ok (.iconst 1, 1) := by decide +kernel
theorem dL_orbits_14 : decode cL_orbits 14 = .ok (.ireturn, 1) := by decide +kernel
theorem dL_orbits_15 : decode cL_orbits 15 = .ok (.iconst 0, 1) := by decide +kernel
theorem dL_orbits_16 : decode cL_orbits 16 = .ok (.ireturn, 1) := by decide +kernel
set_option maxRecDepth 20000 in
theorem ggL_orbits_X7_orbits : GoodIn wsL_orbits wsX7_orbits := goodIn_ca (goodIn_r _ [6, 7, 8, 9, 10, 5, 11, 12, 13, 14, 15, 16, 17, 18, 19, 20, 21, 22, 23, 24, 25, 26, 27, 28, 29, 30, 31, 32, 33, 34, 35, 36, 37, 38, 39, 40, 41, 42, 43, 44, 45, 46, 47, 48, 49, 50, 51, 52, 53, 54, 55, 56, 57, 58, 59, 60, 61, 62, 63, 64, 65, 66, 67, 68, 69, 70, 71, 72, 73, 74, 75, 76, 77, 78, 79, 80, 81, 82, 83, 84, 85, 86, 87, 88, 89, 90, 91, 92, 93, 94, 95, 96, 97] (by decide +kernel) (by decide +kernel)) (goodIn_sub (fun _ h => List.mem_cons_of_mem _ (List.mem_append_right _ h)) (by decide +kernel))
set_option maxRecDepth 20000 in
theorem gL_orbits_X7_orbits : GoodIn wsL_orbits (wsV RL 78 RX7 yX7_orbits wsX7_orbits) := goodIn_app (goodIn_of _ (by decide +kernel)) ggL_orbits_X7_orbits
theorem wd_L_orbits_0 : Cond.classLink RL 13 "java/lang/IndexOutOfBoundsException" ∈ wsL_orbits := by decide +kernel
def r_L_orbits : Room := { frames := 15, cells := 1, slots := 6, locals := 377 }
set_option maxRecDepth 100000 in
set_option maxHeartbeats 4000000 in
theorem w_L_orbits {K : zK} (hk : zIs K RL cL_orbits 4 wsL_orbits (some .int) r_L_orbits) (hfl : (kL K).stackTraces = false) (tb : (kC K).exceptionTable.toList = tableOf [(0, 9, 12, 13)]) {r0 : Int32} {τ0 : zST} (hq : zQX K (.inr (some (.int r0))) τ0) (F : Nat) (ln : Nat) (a0 : Nat) (a1 : Int32) (a2 : Nat) (ha0 : atCanonCote (kZ K) a0) (ha2 : aJ (kZ K) a2 ln) (σ : zST) (h : m_L_orbits F ln a0 a1 a2 σ = some (r0, τ0)) : Z K 0 0 0 [(0, .ref (eA (kZ K) a0)), (1, .int a1), (2, .ref (eA (kZ K) a2))] [] σ := by
  unfold m_L_orbits at h
  refine Z_aload_n hk 2 dL_orbits_0 rfl rfl ?_
  refine Z_iconst hk dL_orbits_1 zc_iconst_0 ?_
  refine Z_aload_n hk 0 dL_orbits_2 rfl rfl ?_
  refine Z_iload_n hk 1 dL_orbits_3 rfl rfl ?_
  rcases bc_ok h with ⟨e4, s2, h3, h⟩ | ⟨x1, s2, h3, h⟩
  · skip
    by_cases c9 : e4 = "java/lang/IndexOutOfBoundsException"
    · have h := if_yes h c9
      subst c9
      refine ZX_callV 1 hk [.int a1] (c_X7_orbits hk.loc hk.inj hfl F a0 a1 ha0 σ h3) gL_orbits_X7_orbits rfl ⟨rfl, by decide +kernel, by decide +kernel, by decide +kernel⟩ ⟨Nat.le_of_ble_eq_true rfl, Nat.le_of_ble_eq_true rfl⟩ ha0.cell.1 (ha0.cell.2 _) rfl rfl rfl (Nat.le_of_ble_eq_true rfl) ⟨Nat.le_of_ble_eq_true rfl, Nat.le_of_ble_eq_true rfl⟩ dL_orbits_4 (fun X hX => ?_) (fun v hv => by cases hv)
      cases hX
      refine Y_catch hk tb [] ⟨0, 9, 12, 13⟩ [] rfl (fun z hz => by cases hz) (by decide) (by decide) wd_L_orbits_0 (hk.nest gw_15) rfl (fun q8 => ?_)
      refine Z_astore_n hk (lv' := [(3, .ref q8), (0, .ref (eA (kZ K) a0)), (1, .int a1), (2, .ref (eA (kZ K) a2))]) dL_orbits_12 rfl (by decide) rfl ?_
      refine Z_iconst hk dL_orbits_13 zc_iconst_1 ?_
      cases h
      exact ZX_iret hk hq ⟨Nat.le_of_ble_eq_true rfl, Nat.le_of_ble_eq_true rfl⟩ dL_orbits_14
    have h := if_no h c9
    cases h
  · refine ZX_callV 1 hk [.int a1] (c_X7_orbits hk.loc hk.inj hfl F a0 a1 ha0 σ h3) gL_orbits_X7_orbits rfl ⟨rfl, by decide +kernel, by decide +kernel, by decide +kernel⟩ ⟨Nat.le_of_ble_eq_true rfl, Nat.le_of_ble_eq_true rfl⟩ ha0.cell.1 (ha0.cell.2 _) rfl rfl rfl (Nat.le_of_ble_eq_true rfl) ⟨Nat.le_of_ble_eq_true rfl, Nat.le_of_ble_eq_true rfl⟩ dL_orbits_4 (fun X hX => by cases hX) (fun v hv => ?_)
    cases hv
    show Z K 1 6 7 [(0, .ref (eA (kZ K) a0)), (1, .int a1), (2, .ref (eA (kZ K) a2))] [.int x1, .int 0, .ref (eA (kZ K) a2)] s2
    refine Z_i2l hk dL_orbits_7 ?_
    obtain ⟨i7, s5, e6, h⟩ := stL_get h
    refine Z_last hk ha2 i7 dL_orbits_8 ?_
    refine Z_eqS e6 ?_
    refine Z_goto hk (tgt := 15) dL_orbits_9 (by decide) ?_
    refine Z_iconst hk dL_orbits_15 zc_iconst_0 ?_
    cases h
    exact ZX_iret hk hq ⟨Nat.le_of_ble_eq_true rfl, Nat.le_of_ble_eq_true rfl⟩ dL_orbits_16
theorem c_L_orbits {l : Launch} {E : zE} (hL : eL E) (hJ : eJ E) (hfl : l.stackTraces = false) (F : Nat) (ln : Nat) (a0 : Nat) (a1 : Int32) (a2 : Nat) (ha0 : atCanonCote E a0) (ha2 : aJ E a2 ln) (σ : zST) {r0 : Int32} {τ0 : zST} (h : m_L_orbits F ln a0 a1 a2 σ = some (r0, τ0)) : CtX l yL_orbits wsL_orbits r_L_orbits E [.ref (eA E a0), .int a1, .ref (eA E a2)] σ (.inr (some (.int r0))) τ0 := by
  refine CtX_ofH (hh := [(0, 9, 12, 13)]) (by decide) rfl hL hJ (Nat.le_of_ble_eq_true rfl) (fun K hE hl hk htb hq => ?_)
  subst hE
  subst hl
  exact w_L_orbits hk hfl htb hq F ln a0 a1 a2 ha0 ha2 σ h
end

-- CanonCoteLaw.orbit (LCanonCote;II[J)I
section
theorem dL_orbit_0 : decode cL_orbit 0 = .ok (.aload_n 3, 1) := by decide +kernel
theorem dL_orbit_1 : decode cL_orbit 1 = .ok (.iconst 0, 1) := by decide +kernel
theorem dL_orbit_2 : decode cL_orbit 2 = .ok (.aload_n 0, 1) := by decide +kernel
theorem dL_orbit_3 : decode cL_orbit 3 = .ok (.iload_n 1, 1) := by decide +kernel
theorem dL_orbit_4 : decode cL_orbit 4 = .ok (.iload_n 2, 1) := by decide +kernel
theorem dL_orbit_5 : decode cL_orbit 5 = .ok (.invokevirtual 81, 3) := by decide +kernel
theorem dL_orbit_8 : decode cL_orbit 8 = .ok (.i2l, 1) := by decide +kernel
theorem dL_orbit_9 : decode cL_orbit 9 = .ok (.lastore, 1) := by decide +kernel
theorem dL_orbit_10 : decode cL_orbit 10 = .ok (.goto 7, 3) := by decide +kernel
theorem dL_orbit_13 : decode cL_orbit 13 = .ok (.astore 4, 2) := by decide +kernel
theorem dL_orbit_15 : decode cL_orbit 15 = .ok (.iconst 1, 1) := by decide +kernel
theorem dL_orbit_16 : decode cL_orbit 16 = .ok (.ireturn, 1) := by decide +kernel
theorem dL_orbit_17 : decode cL_orbit 17 = .ok (.iconst 0, 1) := by decide +kernel
theorem dL_orbit_18 : decode cL_orbit 18 = .ok (.ireturn, 1) := by decide +kernel
set_option maxRecDepth 20000 in
theorem ggL_orbit_X7_orbit : GoodIn wsL_orbit wsX7_orbit := goodIn_ca (goodIn_r _ [6, 7, 8, 9, 10, 5, 11, 12, 13, 14, 15, 16, 17, 18, 19, 20, 21, 22, 23, 24, 25, 26, 27, 28, 29, 30, 31, 32, 33, 34, 35, 36, 37, 38, 39, 40, 41, 42, 43, 44, 45, 46, 47, 48, 49, 50, 51, 52, 53, 54, 55, 56, 57, 58, 59, 60, 61, 62, 63, 64, 65, 66, 67, 68, 69, 70, 71, 72, 73, 74, 75, 76, 77, 78, 79, 80, 81, 82, 83, 84, 85, 86, 87, 88, 89, 90, 91, 92, 93, 94, 95, 96, 97, 98, 99] (by decide +kernel) (by decide +kernel)) (goodIn_sub (fun _ h => List.mem_cons_of_mem _ (List.mem_append_right _ h)) (by decide +kernel))
set_option maxRecDepth 20000 in
theorem gL_orbit_X7_orbit : GoodIn wsL_orbit (wsV RL 81 RX7 yX7_orbit wsX7_orbit) := goodIn_app (goodIn_of _ (by decide +kernel)) ggL_orbit_X7_orbit
theorem wd_L_orbit_0 : Cond.classLink RL 13 "java/lang/IndexOutOfBoundsException" ∈ wsL_orbit := by decide +kernel
def r_L_orbit : Room := { frames := 15, cells := 2, slots := 12, locals := 376 }
set_option maxRecDepth 100000 in
set_option maxHeartbeats 4000000 in
theorem w_L_orbit {K : zK} (hk : zIs K RL cL_orbit 5 wsL_orbit (some .int) r_L_orbit) (hfl : (kL K).stackTraces = false) (tb : (kC K).exceptionTable.toList = tableOf [(0, 10, 13, 13)]) {r0 : Int32} {τ0 : zST} (hq : zQX K (.inr (some (.int r0))) τ0) (F : Nat) (ln : Nat) (a0 : Nat) (a1 : Int32) (a2 : Int32) (a3 : Nat) (ha0 : atCanonCote (kZ K) a0) (ha3 : aJ (kZ K) a3 ln) (σ : zST) (h : m_L_orbit F ln a0 a1 a2 a3 σ = some (r0, τ0)) : Z K 0 0 0 [(0, .ref (eA (kZ K) a0)), (1, .int a1), (2, .int a2), (3, .ref (eA (kZ K) a3))] [] σ := by
  unfold m_L_orbit at h
  refine Z_aload_n hk 3 dL_orbit_0 rfl rfl ?_
  refine Z_iconst hk dL_orbit_1 zc_iconst_0 ?_
  refine Z_aload_n hk 0 dL_orbit_2 rfl rfl ?_
  refine Z_iload_n hk 1 dL_orbit_3 rfl rfl ?_
  refine Z_iload_n hk 2 dL_orbit_4 rfl rfl ?_
  rcases bc_ok h with ⟨e4, s2, h3, h⟩ | ⟨x1, s2, h3, h⟩
  · skip
    by_cases c9 : e4 = "java/lang/IndexOutOfBoundsException"
    · have h := if_yes h c9
      subst c9
      refine ZX_callV 2 hk [.int a1, .int a2] (c_X7_orbit hk.loc hk.inj hfl F a0 a1 a2 ha0 σ h3) gL_orbit_X7_orbit rfl ⟨rfl, by decide +kernel, by decide +kernel, by decide +kernel⟩ ⟨Nat.le_of_ble_eq_true rfl, Nat.le_of_ble_eq_true rfl⟩ ha0.cell.1 (ha0.cell.2 _) rfl rfl rfl (Nat.le_of_ble_eq_true rfl) ⟨Nat.le_of_ble_eq_true rfl, Nat.le_of_ble_eq_true rfl⟩ dL_orbit_5 (fun X hX => ?_) (fun v hv => by cases hv)
      cases hX
      refine Y_catch hk tb [] ⟨0, 10, 13, 13⟩ [] rfl (fun z hz => by cases hz) (by decide) (by decide) wd_L_orbit_0 (hk.nest gw_15) rfl (fun q8 => ?_)
      refine Z_astore hk (lv' := [(4, .ref q8), (0, .ref (eA (kZ K) a0)), (1, .int a1), (2, .int a2), (3, .ref (eA (kZ K) a3))]) dL_orbit_13 (by decide) rfl ?_
      refine Z_iconst hk dL_orbit_15 zc_iconst_1 ?_
      cases h
      exact ZX_iret hk hq ⟨Nat.le_of_ble_eq_true rfl, Nat.le_of_ble_eq_true rfl⟩ dL_orbit_16
    have h := if_no h c9
    cases h
  · refine ZX_callV 2 hk [.int a1, .int a2] (c_X7_orbit hk.loc hk.inj hfl F a0 a1 a2 ha0 σ h3) gL_orbit_X7_orbit rfl ⟨rfl, by decide +kernel, by decide +kernel, by decide +kernel⟩ ⟨Nat.le_of_ble_eq_true rfl, Nat.le_of_ble_eq_true rfl⟩ ha0.cell.1 (ha0.cell.2 _) rfl rfl rfl (Nat.le_of_ble_eq_true rfl) ⟨Nat.le_of_ble_eq_true rfl, Nat.le_of_ble_eq_true rfl⟩ dL_orbit_5 (fun X hX => by cases hX) (fun v hv => ?_)
    cases hv
    show Z K 2 12 8 [(0, .ref (eA (kZ K) a0)), (1, .int a1), (2, .int a2), (3, .ref (eA (kZ K) a3))] [.int x1, .int 0, .ref (eA (kZ K) a3)] s2
    refine Z_i2l hk dL_orbit_8 ?_
    obtain ⟨i7, s5, e6, h⟩ := stL_get h
    refine Z_last hk ha3 i7 dL_orbit_9 ?_
    refine Z_eqS e6 ?_
    refine Z_goto hk (tgt := 17) dL_orbit_10 (by decide) ?_
    refine Z_iconst hk dL_orbit_17 zc_iconst_0 ?_
    cases h
    exact ZX_iret hk hq ⟨Nat.le_of_ble_eq_true rfl, Nat.le_of_ble_eq_true rfl⟩ dL_orbit_18
theorem c_L_orbit {l : Launch} {E : zE} (hL : eL E) (hJ : eJ E) (hfl : l.stackTraces = false) (F : Nat) (ln : Nat) (a0 : Nat) (a1 : Int32) (a2 : Int32) (a3 : Nat) (ha0 : atCanonCote E a0) (ha3 : aJ E a3 ln) (σ : zST) {r0 : Int32} {τ0 : zST} (h : m_L_orbit F ln a0 a1 a2 a3 σ = some (r0, τ0)) : CtX l yL_orbit wsL_orbit r_L_orbit E [.ref (eA E a0), .int a1, .int a2, .ref (eA E a3)] σ (.inr (some (.int r0))) τ0 := by
  refine CtX_ofH (hh := [(0, 10, 13, 13)]) (by decide) rfl hL hJ (Nat.le_of_ble_eq_true rfl) (fun K hE hl hk htb hq => ?_)
  subst hE
  subst hl
  exact w_L_orbit hk hfl htb hq F ln a0 a1 a2 a3 ha0 ha3 σ h
end

-- CanonCoteLaw.addGenerator (LCanonCote;J[J)I
section
theorem dL_addGenerator_0 : decode cL_addGenerator 0 = .ok (.aload_n 3, 1) := by decide +kernel
theorem dL_addGenerator_1 : decode cL_addGenerator 1 = .ok (.iconst 0, 1) := by decide +kernel
theorem dL_addGenerator_2 : decode cL_addGenerator 2 = .ok (.aload_n 0, 1) := by decide +kernel
theorem dL_addGenerator_3 : decode cL_addGenerator 3 = .ok (.lload_n 1, 1) := by decide +kernel
theorem dL_addGenerator_4 : decode cL_addGenerator 4 = .ok (.invokevirtual 84, 3) := by decide +kernel
theorem dL_addGenerator_7 : decode cL_addGenerator 7 = .ok (.i2l, 1) := by decide +kernel
theorem dL_addGenerator_8 : decode cL_addGenerator 8 = .ok (.lastore, 1) := by decide +kernel
theorem dL_addGenerator_9 : decode cL_addGenerator 9 = .ok (.goto 11, 3) := by decide +kernel
theorem dL_addGenerator_12 : decode cL_addGenerator 12 = .ok (.astore 4, 2) := by decide +kernel
theorem dL_addGenerator_14 : decode cL_addGenerator 14 = .ok (.iconst 1, 1) := by decide +kernel
theorem dL_addGenerator_15 : decode cL_addGenerator 15 = .ok (.ireturn, 1) := by decide +kernel
theorem dL_addGenerator_16 : decode cL_addGenerator 16 = .ok (.astore 4, 2) := by decide +kernel
theorem dL_addGenerator_18 : decode cL_addGenerator 18 = .ok (.iconst 2, 1) := by decide +kernel
theorem dL_addGenerator_19 : decode cL_addGenerator 19 = .ok (.ireturn, 1) := by decide +kernel
theorem dL_addGenerator_20 : decode cL_addGenerator 20 = .ok (.iconst 0, 1) := by decide +kernel
theorem dL_addGenerator_21 : decode cL_addGenerator 21 = .ok (.ireturn, 1) := by decide +kernel
set_option maxRecDepth 20000 in
theorem ggL_addGenerator_X7_addGenerator : GoodIn wsL_addGenerator wsX7_addGenerator := goodIn_ca (goodIn_ca (goodIn_r _ [7, 8, 9, 10, 11, 12, 6, 13, 14, 15, 16, 17, 18, 19, 20, 21, 22, 23, 24, 25, 26, 27, 28, 29, 30, 31, 32, 33, 34, 35, 36, 37, 38, 39, 40, 41, 42, 43, 44, 45, 46, 47, 48, 49, 50, 51, 52, 53, 54, 55, 56, 57, 58, 59, 60, 61, 62, 63, 64, 65, 66, 67, 68, 69, 70, 71, 72, 73, 74, 75, 76, 77, 78, 79, 80] (by decide +kernel) (by decide +kernel)) (goodIn_sub (fun _ h => List.mem_cons_of_mem _ (List.mem_append_left _ (List.mem_append_right _ h))) (by decide +kernel))) (goodIn_sub (fun _ h => List.mem_cons_of_mem _ (List.mem_append_right _ h)) (by decide +kernel))
set_option maxRecDepth 20000 in
theorem gL_addGenerator_X7_addGenerator : GoodIn wsL_addGenerator (wsV RL 84 RX7 yX7_addGenerator wsX7_addGenerator) := goodIn_app (goodIn_of _ (by decide +kernel)) ggL_addGenerator_X7_addGenerator
theorem wd_L_addGenerator_0 : Cond.classLink RL 15 "java/lang/IllegalArgumentException" ∈ wsL_addGenerator := by decide +kernel
theorem wd_L_addGenerator_1 : Cond.classLink RL 88 "java/lang/IllegalStateException" ∈ wsL_addGenerator := by decide +kernel
def r_L_addGenerator : Room := { frames := 8, cells := 2, slots := 12, locals := 183 }
set_option maxRecDepth 100000 in
set_option maxHeartbeats 4000000 in
theorem w_L_addGenerator {K : zK} (hk : zIs K RL cL_addGenerator 5 wsL_addGenerator (some .int) r_L_addGenerator) (hfl : (kL K).stackTraces = false) (tb : (kC K).exceptionTable.toList = tableOf [(0, 9, 12, 15), (0, 9, 16, 88)]) {r0 : Int32} {τ0 : zST} (hq : zQX K (.inr (some (.int r0))) τ0) (F : Nat) (ln : Nat) (a0 : Nat) (a1 : Int64) (a3 : Nat) (ha0 : atCanonCote (kZ K) a0) (ha3 : aJ (kZ K) a3 ln) (σ : zST) (h : m_L_addGenerator F ln a0 a1 a3 σ = some (r0, τ0)) : Z K 0 0 0 [(0, .ref (eA (kZ K) a0)), (1, .long a1), (3, .ref (eA (kZ K) a3))] [] σ := by
  unfold m_L_addGenerator at h
  refine Z_aload_n hk 2 dL_addGenerator_0 rfl rfl ?_
  refine Z_iconst hk dL_addGenerator_1 zc_iconst_0 ?_
  refine Z_aload_n hk 0 dL_addGenerator_2 rfl rfl ?_
  refine Z_lload_n hk 1 dL_addGenerator_3 rfl rfl ?_
  rcases bc_ok h with ⟨e4, s2, h3, h⟩ | ⟨x1, s2, h3, h⟩
  · skip
    by_cases c9 : e4 = "java/lang/IllegalArgumentException"
    · have h := if_yes h c9
      subst c9
      refine ZX_callV 1 hk [.long a1] (c_X7_addGenerator hk.loc hk.inj hfl F a0 a1 ha0 σ h3) gL_addGenerator_X7_addGenerator rfl ⟨rfl, by decide +kernel, by decide +kernel, by decide +kernel⟩ ⟨Nat.le_of_ble_eq_true rfl, Nat.le_of_ble_eq_true rfl⟩ ha0.cell.1 (ha0.cell.2 _) rfl rfl rfl (Nat.le_of_ble_eq_true rfl) ⟨Nat.le_of_ble_eq_true rfl, Nat.le_of_ble_eq_true rfl⟩ dL_addGenerator_4 (fun X hX => ?_) (fun v hv => by cases hv)
      cases hX
      refine Y_catch hk tb [] ⟨0, 9, 12, 15⟩ [⟨0, 9, 16, 88⟩] rfl (fun z hz => by cases hz) (by decide) (by decide) wd_L_addGenerator_0 (hk.nest gw_17) rfl (fun q8 => ?_)
      refine Z_astore hk (lv' := [(4, .ref q8), (0, .ref (eA (kZ K) a0)), (1, .long a1), (3, .ref (eA (kZ K) a3))]) dL_addGenerator_12 (by decide) rfl ?_
      refine Z_iconst hk dL_addGenerator_14 zc_iconst_1 ?_
      cases h
      exact ZX_iret hk hq ⟨Nat.le_of_ble_eq_true rfl, Nat.le_of_ble_eq_true rfl⟩ dL_addGenerator_15
    have h := if_no h c9
    by_cases c11 : e4 = "java/lang/IllegalStateException"
    · have h := if_yes h c11
      subst c11
      refine ZX_callV 1 hk [.long a1] (c_X7_addGenerator hk.loc hk.inj hfl F a0 a1 ha0 σ h3) gL_addGenerator_X7_addGenerator rfl ⟨rfl, by decide +kernel, by decide +kernel, by decide +kernel⟩ ⟨Nat.le_of_ble_eq_true rfl, Nat.le_of_ble_eq_true rfl⟩ ha0.cell.1 (ha0.cell.2 _) rfl rfl rfl (Nat.le_of_ble_eq_true rfl) ⟨Nat.le_of_ble_eq_true rfl, Nat.le_of_ble_eq_true rfl⟩ dL_addGenerator_4 (fun X hX => ?_) (fun v hv => by cases hv)
      cases hX
      refine Y_catch hk tb [⟨0, 9, 12, 15⟩] ⟨0, 9, 16, 88⟩ [] rfl (fun z hz => by cases List.mem_singleton.mp hz; exact Or.inr ⟨by decide, "java/lang/IllegalArgumentException", wd_L_addGenerator_0, hk.env.2.2.2.2.2 _ gw_18⟩) (by decide) (by decide) wd_L_addGenerator_1 (hk.nest gw_19) rfl (fun q10 => ?_)
      refine Z_astore hk (lv' := [(4, .ref q10), (0, .ref (eA (kZ K) a0)), (1, .long a1), (3, .ref (eA (kZ K) a3))]) dL_addGenerator_16 (by decide) rfl ?_
      refine Z_iconst hk dL_addGenerator_18 zc_iconst_2 ?_
      cases h
      exact ZX_iret hk hq ⟨Nat.le_of_ble_eq_true rfl, Nat.le_of_ble_eq_true rfl⟩ dL_addGenerator_19
    have h := if_no h c11
    cases h
  · refine ZX_callV 1 hk [.long a1] (c_X7_addGenerator hk.loc hk.inj hfl F a0 a1 ha0 σ h3) gL_addGenerator_X7_addGenerator rfl ⟨rfl, by decide +kernel, by decide +kernel, by decide +kernel⟩ ⟨Nat.le_of_ble_eq_true rfl, Nat.le_of_ble_eq_true rfl⟩ ha0.cell.1 (ha0.cell.2 _) rfl rfl rfl (Nat.le_of_ble_eq_true rfl) ⟨Nat.le_of_ble_eq_true rfl, Nat.le_of_ble_eq_true rfl⟩ dL_addGenerator_4 (fun X hX => by cases hX) (fun v hv => ?_)
    cases hv
    show Z K 2 12 7 [(0, .ref (eA (kZ K) a0)), (1, .long a1), (3, .ref (eA (kZ K) a3))] [.int x1, .int 0, .ref (eA (kZ K) a3)] s2
    refine Z_i2l hk dL_addGenerator_7 ?_
    obtain ⟨i7, s5, e6, h⟩ := stL_get h
    refine Z_last hk ha3 i7 dL_addGenerator_8 ?_
    refine Z_eqS e6 ?_
    refine Z_goto hk (tgt := 20) dL_addGenerator_9 (by decide) ?_
    refine Z_iconst hk dL_addGenerator_20 zc_iconst_0 ?_
    cases h
    exact ZX_iret hk hq ⟨Nat.le_of_ble_eq_true rfl, Nat.le_of_ble_eq_true rfl⟩ dL_addGenerator_21
theorem c_L_addGenerator {l : Launch} {E : zE} (hL : eL E) (hJ : eJ E) (hfl : l.stackTraces = false) (F : Nat) (ln : Nat) (a0 : Nat) (a1 : Int64) (a3 : Nat) (ha0 : atCanonCote E a0) (ha3 : aJ E a3 ln) (σ : zST) {r0 : Int32} {τ0 : zST} (h : m_L_addGenerator F ln a0 a1 a3 σ = some (r0, τ0)) : CtX l yL_addGenerator wsL_addGenerator r_L_addGenerator E [.ref (eA E a0), .long a1, .ref (eA E a3)] σ (.inr (some (.int r0))) τ0 := by
  refine CtX_ofH (hh := [(0, 9, 12, 15), (0, 9, 16, 88)]) (by decide) rfl hL hJ (Nat.le_of_ble_eq_true rfl) (fun K hE hl hk htb hq => ?_)
  subst hE
  subst hl
  exact w_L_addGenerator hk hfl htb hq F ln a0 a1 a3 ha0 ha3 σ h
end

-- CanonCoteLaw.isInGroup (LCanonCote;J[J)I
section
theorem dL_isInGroup_0 : decode cL_isInGroup 0 = .ok (.aload_n 3, 1) := by decide +kernel
theorem dL_isInGroup_1 : decode cL_isInGroup 1 = .ok (.iconst 0, 1) := by decide +kernel
theorem dL_isInGroup_2 : decode cL_isInGroup 2 = .ok (.aload_n 0, 1) := by decide +kernel
theorem dL_isInGroup_3 : decode cL_isInGroup 3 = .ok (.lload_n 1, 1) := by decide +kernel
theorem dL_isInGroup_4 : decode cL_isInGroup 4 = .ok (.invokevirtual 90, 3) := by decide +kernel
theorem dL_isInGroup_7 : decode cL_isInGroup 7 = .ok (.ifCond .eq 7, 3) := by decide +kernel
theorem dL_isInGroup_10 : decode cL_isInGroup 10 = .ok (.lconst 1, 1) := by decide +kernel
theorem dL_isInGroup_11 : decode cL_isInGroup 11 = .ok (.goto 4, 3) := by decide +kernel
theorem dL_isInGroup_14 : decode cL_isInGroup 14 = .ok (.lconst 0, 1) := by decide +kernel
theorem dL_isInGroup_15 : decode cL_isInGroup 15 = .ok (.lastore, 1) := by decide +kernel
theorem dL_isInGroup_16 : decode cL_isInGroup 16 = .ok (.goto 7, 3) := by decide +kernel
theorem dL_isInGroup_19 : decode cL_isInGroup 19 = .ok (.astore 4, 2) := by decide +kernel
theorem dL_isInGroup_21 : decode cL_isInGroup 21 = .ok (.iconst 1, 1) := by decide +kernel
theorem dL_isInGroup_22 : decode cL_isInGroup 22 = .ok (.ireturn, 1) := by decide +kernel
theorem dL_isInGroup_23 : decode cL_isInGroup 23 = .ok (.iconst 0, 1) := by decide +kernel
theorem dL_isInGroup_24 : decode cL_isInGroup 24 = .ok (.ireturn, 1) := by decide +kernel
set_option maxRecDepth 20000 in
theorem ggL_isInGroup_X7_isInGroup : GoodIn wsL_isInGroup wsX7_isInGroup := goodIn_ca (goodIn_r _ [6, 7, 8, 9, 5, 10, 11, 12, 13, 14, 15, 16, 17, 18, 19, 20, 21, 22, 23, 24, 25, 26, 27, 28, 29, 30, 31, 32, 33, 34, 35, 36, 37, 38, 39, 40, 41, 42, 43, 44, 45, 46, 47, 48, 49, 50, 51] (by decide +kernel) (by decide +kernel)) (goodIn_sub (fun _ h => List.mem_cons_of_mem _ (List.mem_append_right _ h)) (by decide +kernel))
set_option maxRecDepth 20000 in
theorem gL_isInGroup_X7_isInGroup : GoodIn wsL_isInGroup (wsV RL 90 RX7 yX7_isInGroup wsX7_isInGroup) := goodIn_app (goodIn_of _ (by decide +kernel)) ggL_isInGroup_X7_isInGroup
theorem wd_L_isInGroup_0 : Cond.classLink RL 15 "java/lang/IllegalArgumentException" ∈ wsL_isInGroup := by decide +kernel
def r_L_isInGroup : Room := { frames := 8, cells := 1, slots := 6, locals := 133 }
set_option maxRecDepth 100000 in
set_option maxHeartbeats 4000000 in
theorem w_L_isInGroup_15 {K : zK} (hk : zIs K RL cL_isInGroup 5 wsL_isInGroup (some .int) r_L_isInGroup) (hfl : (kL K).stackTraces = false) (tb : (kC K).exceptionTable.toList = tableOf [(0, 16, 19, 15)]) {r0 : Int32} {τ0 : zST} (hq : zQX K (.inr (some (.int r0))) τ0) (F : Nat) (ln : Nat) (t0 : Int64) (t1 : Int32) (t2 : Nat) (ht2 : aJ (kZ K) t2 ln) (σ : zST) (h : m_L_isInGroup_15 F ln t0 t1 t2 σ = some (r0, τ0)) : Z K 1 6 15 [] [.long t0, .int t1, .ref (eA (kZ K) t2)] σ := by
  unfold m_L_isInGroup_15 at h
  obtain ⟨i10, s8, e9, h⟩ := stL_get h
  refine Z_last hk ht2 i10 dL_isInGroup_15 ?_
  refine Z_eqS e9 ?_
  refine Z_goto hk (tgt := 23) dL_isInGroup_16 (by decide) ?_
  refine Z_iconst hk dL_isInGroup_23 zc_iconst_0 ?_
  cases h
  exact ZX_iret hk hq ⟨Nat.le_of_ble_eq_true rfl, Nat.le_of_ble_eq_true rfl⟩ dL_isInGroup_24
set_option maxRecDepth 100000 in
set_option maxHeartbeats 4000000 in
theorem w_L_isInGroup {K : zK} (hk : zIs K RL cL_isInGroup 5 wsL_isInGroup (some .int) r_L_isInGroup) (hfl : (kL K).stackTraces = false) (tb : (kC K).exceptionTable.toList = tableOf [(0, 16, 19, 15)]) {r0 : Int32} {τ0 : zST} (hq : zQX K (.inr (some (.int r0))) τ0) (F : Nat) (ln : Nat) (a0 : Nat) (a1 : Int64) (a3 : Nat) (ha0 : atCanonCote (kZ K) a0) (ha3 : aJ (kZ K) a3 ln) (σ : zST) (h : m_L_isInGroup F ln a0 a1 a3 σ = some (r0, τ0)) : Z K 0 0 0 [(0, .ref (eA (kZ K) a0)), (1, .long a1), (3, .ref (eA (kZ K) a3))] [] σ := by
  unfold m_L_isInGroup at h
  refine Z_aload_n hk 2 dL_isInGroup_0 rfl rfl ?_
  refine Z_iconst hk dL_isInGroup_1 zc_iconst_0 ?_
  refine Z_aload_n hk 0 dL_isInGroup_2 rfl rfl ?_
  refine Z_lload_n hk 1 dL_isInGroup_3 rfl rfl ?_
  rcases bc_ok h with ⟨e4, s2, h3, h⟩ | ⟨x1, s2, h3, h⟩
  · skip
    by_cases c7 : e4 = "java/lang/IllegalArgumentException"
    · have h := if_yes h c7
      subst c7
      refine ZX_callV 1 hk [.long a1] (c_X7_isInGroup hk.loc hk.inj hfl F a0 a1 ha0 σ h3) gL_isInGroup_X7_isInGroup rfl ⟨rfl, by decide +kernel, by decide +kernel, by decide +kernel⟩ ⟨Nat.le_of_ble_eq_true rfl, Nat.le_of_ble_eq_true rfl⟩ ha0.cell.1 (ha0.cell.2 _) rfl rfl rfl (Nat.le_of_ble_eq_true rfl) ⟨Nat.le_of_ble_eq_true rfl, Nat.le_of_ble_eq_true rfl⟩ dL_isInGroup_4 (fun X hX => ?_) (fun v hv => by cases hv)
      cases hX
      refine Y_catch hk tb [] ⟨0, 16, 19, 15⟩ [] rfl (fun z hz => by cases hz) (by decide) (by decide) wd_L_isInGroup_0 (hk.nest gw_17) rfl (fun q6 => ?_)
      refine Z_astore hk (lv' := [(4, .ref q6), (0, .ref (eA (kZ K) a0)), (1, .long a1), (3, .ref (eA (kZ K) a3))]) dL_isInGroup_19 (by decide) rfl ?_
      refine Z_iconst hk dL_isInGroup_21 zc_iconst_1 ?_
      cases h
      exact ZX_iret hk hq ⟨Nat.le_of_ble_eq_true rfl, Nat.le_of_ble_eq_true rfl⟩ dL_isInGroup_22
    have h := if_no h c7
    cases h
  · refine ZX_callV 1 hk [.long a1] (c_X7_isInGroup hk.loc hk.inj hfl F a0 a1 ha0 σ h3) gL_isInGroup_X7_isInGroup rfl ⟨rfl, by decide +kernel, by decide +kernel, by decide +kernel⟩ ⟨Nat.le_of_ble_eq_true rfl, Nat.le_of_ble_eq_true rfl⟩ ha0.cell.1 (ha0.cell.2 _) rfl rfl rfl (Nat.le_of_ble_eq_true rfl) ⟨Nat.le_of_ble_eq_true rfl, Nat.le_of_ble_eq_true rfl⟩ dL_isInGroup_4 (fun X hX => by cases hX) (fun v hv => ?_)
    cases hv
    show Z K 1 6 7 [(0, .ref (eA (kZ K) a0)), (1, .long a1), (3, .ref (eA (kZ K) a3))] [.int x1, .int 0, .ref (eA (kZ K) a3)] s2
    refine Z_if_eq hk (tgt := 14) dL_isInGroup_7 (by decide) (fun c5 => ?_) (fun c5 => ?_)
    · have h := if_yes h c5
      refine Z_lconst hk dL_isInGroup_14 (v := 0) rfl ?_
      refine Z_sub [] rfl ?_
      exact w_L_isInGroup_15 hk hfl tb hq F ln 0 0 a3 ha3 s2 h
    · have h := if_no h c5
      refine Z_lconst hk dL_isInGroup_10 (v := 1) rfl ?_
      refine Z_goto hk (tgt := 15) dL_isInGroup_11 (by decide) ?_
      refine Z_sub [] rfl ?_
      exact w_L_isInGroup_15 hk hfl tb hq F ln 1 0 a3 ha3 s2 h
theorem c_L_isInGroup {l : Launch} {E : zE} (hL : eL E) (hJ : eJ E) (hfl : l.stackTraces = false) (F : Nat) (ln : Nat) (a0 : Nat) (a1 : Int64) (a3 : Nat) (ha0 : atCanonCote E a0) (ha3 : aJ E a3 ln) (σ : zST) {r0 : Int32} {τ0 : zST} (h : m_L_isInGroup F ln a0 a1 a3 σ = some (r0, τ0)) : CtX l yL_isInGroup wsL_isInGroup r_L_isInGroup E [.ref (eA E a0), .long a1, .ref (eA E a3)] σ (.inr (some (.int r0))) τ0 := by
  refine CtX_ofH (hh := [(0, 16, 19, 15)]) (by decide) rfl hL hJ (Nat.le_of_ble_eq_true rfl) (fun K hE hl hk htb hq => ?_)
  subst hE
  subst hl
  exact w_L_isInGroup hk hfl htb hq F ln a0 a1 a3 ha0 ha3 σ h
end

-- CanonCoteLaw.moves (LCanonCote;I[J)I
section
theorem dL_moves_0 : decode cL_moves 0 = .ok (.aload_n 2, 1) := by decide +kernel
theorem dL_moves_1 : decode cL_moves 1 = .ok (.iconst 0, 1) := by decide +kernel
theorem dL_moves_2 : decode cL_moves 2 = .ok (.aload_n 0, 1) := by decide +kernel
theorem dL_moves_3 : decode cL_moves 3 = .ok (.iload_n 1, 1) := by decide +kernel
theorem dL_moves_4 : decode cL_moves 4 = .ok (.invokevirtual 94, 3) := by decide +kernel
theorem dL_moves_7 : decode cL_moves 7 = .ok (.i2l, 1) := by decide +kernel
theorem dL_moves_8 : decode cL_moves 8 = .ok (.lastore, 1) := by decide +kernel
theorem dL_moves_9 : decode cL_moves 9 = .ok (.goto 6, 3) := by decide +kernel
theorem dL_moves_12 : decode cL_moves 12 = .ok (.astore_n 3, 1) := by decide +kernel
theorem dL_moves_13 : decode cL_moves 13 = .ok (.iconst 1, 1) := by decide +kernel
theorem dL_moves_14 : decode cL_moves 14 = .ok (.ireturn, 1) := by decide +kernel
theorem dL_moves_15 : decode cL_moves 15 = .ok (.iconst 0, 1) := by decide +kernel
theorem dL_moves_16 : decode cL_moves 16 = .ok (.ireturn, 1) := by decide +kernel
set_option maxRecDepth 20000 in
theorem ggL_moves_X7_moves : GoodIn wsL_moves wsX7_moves := goodIn_ca (goodIn_r _ [6, 7, 8, 9, 10, 11, 12, 13, 14, 15, 16, 17, 18, 19, 5, 20, 21, 22, 23, 24, 25, 26, 27, 28, 29, 30, 31, 32, 33] (by decide +kernel) (by decide +kernel)) (goodIn_sub (fun _ h => List.mem_cons_of_mem _ (List.mem_append_right _ h)) (by decide +kernel))
set_option maxRecDepth 20000 in
theorem gL_moves_X7_moves : GoodIn wsL_moves (wsV RL 94 RX7 yX7_moves wsX7_moves) := goodIn_app (goodIn_of _ (by decide +kernel)) ggL_moves_X7_moves
theorem wd_L_moves_0 : Cond.classLink RL 13 "java/lang/IndexOutOfBoundsException" ∈ wsL_moves := by decide +kernel
def r_L_moves : Room := { frames := 7, cells := 1, slots := 6, locals := 111 }
set_option maxRecDepth 100000 in
set_option maxHeartbeats 4000000 in
theorem w_L_moves {K : zK} (hk : zIs K RL cL_moves 4 wsL_moves (some .int) r_L_moves) (hfl : (kL K).stackTraces = false) (tb : (kC K).exceptionTable.toList = tableOf [(0, 9, 12, 13)]) {r0 : Int32} {τ0 : zST} (hq : zQX K (.inr (some (.int r0))) τ0) (F : Nat) (ln : Nat) (a0 : Nat) (a1 : Int32) (a2 : Nat) (ha0 : atCanonCote (kZ K) a0) (ha2 : aJ (kZ K) a2 ln) (σ : zST) (h : m_L_moves F ln a0 a1 a2 σ = some (r0, τ0)) : Z K 0 0 0 [(0, .ref (eA (kZ K) a0)), (1, .int a1), (2, .ref (eA (kZ K) a2))] [] σ := by
  unfold m_L_moves at h
  refine Z_aload_n hk 2 dL_moves_0 rfl rfl ?_
  refine Z_iconst hk dL_moves_1 zc_iconst_0 ?_
  refine Z_aload_n hk 0 dL_moves_2 rfl rfl ?_
  refine Z_iload_n hk 1 dL_moves_3 rfl rfl ?_
  rcases bc_ok h with ⟨e4, s2, h3, h⟩ | ⟨x1, s2, h3, h⟩
  · skip
    by_cases c9 : e4 = "java/lang/IndexOutOfBoundsException"
    · have h := if_yes h c9
      subst c9
      refine ZX_callV 1 hk [.int a1] (c_X7_moves hk.loc hk.inj hfl F a0 a1 ha0 σ h3) gL_moves_X7_moves rfl ⟨rfl, by decide +kernel, by decide +kernel, by decide +kernel⟩ ⟨Nat.le_of_ble_eq_true rfl, Nat.le_of_ble_eq_true rfl⟩ ha0.cell.1 (ha0.cell.2 _) rfl rfl rfl (Nat.le_of_ble_eq_true rfl) ⟨Nat.le_of_ble_eq_true rfl, Nat.le_of_ble_eq_true rfl⟩ dL_moves_4 (fun X hX => ?_) (fun v hv => by cases hv)
      cases hX
      refine Y_catch hk tb [] ⟨0, 9, 12, 13⟩ [] rfl (fun z hz => by cases hz) (by decide) (by decide) wd_L_moves_0 (hk.nest gw_15) rfl (fun q8 => ?_)
      refine Z_astore_n hk (lv' := [(3, .ref q8), (0, .ref (eA (kZ K) a0)), (1, .int a1), (2, .ref (eA (kZ K) a2))]) dL_moves_12 rfl (by decide) rfl ?_
      refine Z_iconst hk dL_moves_13 zc_iconst_1 ?_
      cases h
      exact ZX_iret hk hq ⟨Nat.le_of_ble_eq_true rfl, Nat.le_of_ble_eq_true rfl⟩ dL_moves_14
    have h := if_no h c9
    cases h
  · refine ZX_callV 1 hk [.int a1] (c_X7_moves hk.loc hk.inj hfl F a0 a1 ha0 σ h3) gL_moves_X7_moves rfl ⟨rfl, by decide +kernel, by decide +kernel, by decide +kernel⟩ ⟨Nat.le_of_ble_eq_true rfl, Nat.le_of_ble_eq_true rfl⟩ ha0.cell.1 (ha0.cell.2 _) rfl rfl rfl (Nat.le_of_ble_eq_true rfl) ⟨Nat.le_of_ble_eq_true rfl, Nat.le_of_ble_eq_true rfl⟩ dL_moves_4 (fun X hX => by cases hX) (fun v hv => ?_)
    cases hv
    show Z K 1 6 7 [(0, .ref (eA (kZ K) a0)), (1, .int a1), (2, .ref (eA (kZ K) a2))] [.int x1, .int 0, .ref (eA (kZ K) a2)] s2
    refine Z_i2l hk dL_moves_7 ?_
    obtain ⟨i7, s5, e6, h⟩ := stL_get h
    refine Z_last hk ha2 i7 dL_moves_8 ?_
    refine Z_eqS e6 ?_
    refine Z_goto hk (tgt := 15) dL_moves_9 (by decide) ?_
    refine Z_iconst hk dL_moves_15 zc_iconst_0 ?_
    cases h
    exact ZX_iret hk hq ⟨Nat.le_of_ble_eq_true rfl, Nat.le_of_ble_eq_true rfl⟩ dL_moves_16
theorem c_L_moves {l : Launch} {E : zE} (hL : eL E) (hJ : eJ E) (hfl : l.stackTraces = false) (F : Nat) (ln : Nat) (a0 : Nat) (a1 : Int32) (a2 : Nat) (ha0 : atCanonCote E a0) (ha2 : aJ E a2 ln) (σ : zST) {r0 : Int32} {τ0 : zST} (h : m_L_moves F ln a0 a1 a2 σ = some (r0, τ0)) : CtX l yL_moves wsL_moves r_L_moves E [.ref (eA E a0), .int a1, .ref (eA E a2)] σ (.inr (some (.int r0))) τ0 := by
  refine CtX_ofH (hh := [(0, 9, 12, 13)]) (by decide) rfl hL hJ (Nat.le_of_ble_eq_true rfl) (fun K hE hl hk htb hq => ?_)
  subst hE
  subst hl
  exact w_L_moves hk hfl htb hq F ln a0 a1 a2 ha0 ha2 σ h
end

-- CanonCoteLaw.fixing (LCanonCote;I[J)I
section
theorem dL_fixing_0 : decode cL_fixing 0 = .ok (.aload_n 2, 1) := by decide +kernel
theorem dL_fixing_1 : decode cL_fixing 1 = .ok (.iconst 0, 1) := by decide +kernel
theorem dL_fixing_2 : decode cL_fixing 2 = .ok (.aload_n 0, 1) := by decide +kernel
theorem dL_fixing_3 : decode cL_fixing 3 = .ok (.iload_n 1, 1) := by decide +kernel
theorem dL_fixing_4 : decode cL_fixing 4 = .ok (.invokevirtual 97, 3) := by decide +kernel
theorem dL_fixing_7 : decode cL_fixing 7 = .ok (.i2l, 1) := by decide +kernel
theorem dL_fixing_8 : decode cL_fixing 8 = .ok (.lastore, 1) := by decide +kernel
theorem dL_fixing_9 : decode cL_fixing 9 = .ok (.goto 6, 3) := by decide +kernel
theorem dL_fixing_12 : decode cL_fixing 12 = .ok (.astore_n 3, 1) := by decide +kernel
theorem dL_fixing_13 : decode cL_fixing 13 = .ok (.iconst 1, 1) := by decide +kernel
theorem dL_fixing_14 : decode cL_fixing 14 = .ok (.ireturn, 1) := by decide +kernel
theorem dL_fixing_15 : decode cL_fixing 15 = .ok (.iconst 0, 1) := by decide +kernel
theorem dL_fixing_16 : decode cL_fixing 16 = .ok (.ireturn, 1) := by decide +kernel
set_option maxRecDepth 20000 in
theorem ggL_fixing_X7_fixing : GoodIn wsL_fixing wsX7_fixing := goodIn_ca (goodIn_r _ [6, 7, 8, 9, 10, 11, 12, 13, 14, 15, 16, 17, 18, 19, 20, 21, 22, 23, 24, 25, 26, 27, 28, 29, 30, 31, 32, 33, 34, 35, 36, 37, 38, 39, 5, 40, 41, 42, 43, 44, 45, 46, 47, 48, 49, 50, 51, 52, 53, 54, 55, 56, 57, 58, 59, 60, 61, 62, 63, 64, 65, 66, 67, 68, 69, 70, 71, 72, 73, 74, 75, 76, 77, 78, 79, 80, 81, 82, 83, 84, 85, 86, 87, 88] (by decide +kernel) (by decide +kernel)) (goodIn_sub (fun _ h => List.mem_cons_of_mem _ (List.mem_append_right _ h)) (by decide +kernel))
set_option maxRecDepth 20000 in
theorem gL_fixing_X7_fixing : GoodIn wsL_fixing (wsV RL 97 RX7 yX7_fixing wsX7_fixing) := goodIn_app (goodIn_of _ (by decide +kernel)) ggL_fixing_X7_fixing
theorem wd_L_fixing_0 : Cond.classLink RL 15 "java/lang/IllegalArgumentException" ∈ wsL_fixing := by decide +kernel
def r_L_fixing : Room := { frames := 8, cells := 1, slots := 6, locals := 182 }
set_option maxRecDepth 100000 in
set_option maxHeartbeats 4000000 in
theorem w_L_fixing {K : zK} (hk : zIs K RL cL_fixing 4 wsL_fixing (some .int) r_L_fixing) (hfl : (kL K).stackTraces = false) (tb : (kC K).exceptionTable.toList = tableOf [(0, 9, 12, 15)]) {r0 : Int32} {τ0 : zST} (hq : zQX K (.inr (some (.int r0))) τ0) (F : Nat) (ln : Nat) (a0 : Nat) (a1 : Int32) (a2 : Nat) (ha0 : atCanonCote (kZ K) a0) (ha2 : aJ (kZ K) a2 ln) (σ : zST) (h : m_L_fixing F ln a0 a1 a2 σ = some (r0, τ0)) : Z K 0 0 0 [(0, .ref (eA (kZ K) a0)), (1, .int a1), (2, .ref (eA (kZ K) a2))] [] σ := by
  unfold m_L_fixing at h
  refine Z_aload_n hk 2 dL_fixing_0 rfl rfl ?_
  refine Z_iconst hk dL_fixing_1 zc_iconst_0 ?_
  refine Z_aload_n hk 0 dL_fixing_2 rfl rfl ?_
  refine Z_iload_n hk 1 dL_fixing_3 rfl rfl ?_
  rcases bc_ok h with ⟨e4, s2, h3, h⟩ | ⟨x1, s2, h3, h⟩
  · skip
    by_cases c9 : e4 = "java/lang/IllegalArgumentException"
    · have h := if_yes h c9
      subst c9
      refine ZX_callV 1 hk [.int a1] (c_X7_fixing hk.loc hk.inj hfl F a0 a1 ha0 σ h3) gL_fixing_X7_fixing rfl ⟨rfl, by decide +kernel, by decide +kernel, by decide +kernel⟩ ⟨Nat.le_of_ble_eq_true rfl, Nat.le_of_ble_eq_true rfl⟩ ha0.cell.1 (ha0.cell.2 _) rfl rfl rfl (Nat.le_of_ble_eq_true rfl) ⟨Nat.le_of_ble_eq_true rfl, Nat.le_of_ble_eq_true rfl⟩ dL_fixing_4 (fun X hX => ?_) (fun v hv => by cases hv)
      cases hX
      refine Y_catch hk tb [] ⟨0, 9, 12, 15⟩ [] rfl (fun z hz => by cases hz) (by decide) (by decide) wd_L_fixing_0 (hk.nest gw_17) rfl (fun q8 => ?_)
      refine Z_astore_n hk (lv' := [(3, .ref q8), (0, .ref (eA (kZ K) a0)), (1, .int a1), (2, .ref (eA (kZ K) a2))]) dL_fixing_12 rfl (by decide) rfl ?_
      refine Z_iconst hk dL_fixing_13 zc_iconst_1 ?_
      cases h
      exact ZX_iret hk hq ⟨Nat.le_of_ble_eq_true rfl, Nat.le_of_ble_eq_true rfl⟩ dL_fixing_14
    have h := if_no h c9
    cases h
  · refine ZX_callV 1 hk [.int a1] (c_X7_fixing hk.loc hk.inj hfl F a0 a1 ha0 σ h3) gL_fixing_X7_fixing rfl ⟨rfl, by decide +kernel, by decide +kernel, by decide +kernel⟩ ⟨Nat.le_of_ble_eq_true rfl, Nat.le_of_ble_eq_true rfl⟩ ha0.cell.1 (ha0.cell.2 _) rfl rfl rfl (Nat.le_of_ble_eq_true rfl) ⟨Nat.le_of_ble_eq_true rfl, Nat.le_of_ble_eq_true rfl⟩ dL_fixing_4 (fun X hX => by cases hX) (fun v hv => ?_)
    cases hv
    show Z K 1 6 7 [(0, .ref (eA (kZ K) a0)), (1, .int a1), (2, .ref (eA (kZ K) a2))] [.int x1, .int 0, .ref (eA (kZ K) a2)] s2
    refine Z_i2l hk dL_fixing_7 ?_
    obtain ⟨i7, s5, e6, h⟩ := stL_get h
    refine Z_last hk ha2 i7 dL_fixing_8 ?_
    refine Z_eqS e6 ?_
    refine Z_goto hk (tgt := 15) dL_fixing_9 (by decide) ?_
    refine Z_iconst hk dL_fixing_15 zc_iconst_0 ?_
    cases h
    exact ZX_iret hk hq ⟨Nat.le_of_ble_eq_true rfl, Nat.le_of_ble_eq_true rfl⟩ dL_fixing_16
theorem c_L_fixing {l : Launch} {E : zE} (hL : eL E) (hJ : eJ E) (hfl : l.stackTraces = false) (F : Nat) (ln : Nat) (a0 : Nat) (a1 : Int32) (a2 : Nat) (ha0 : atCanonCote E a0) (ha2 : aJ E a2 ln) (σ : zST) {r0 : Int32} {τ0 : zST} (h : m_L_fixing F ln a0 a1 a2 σ = some (r0, τ0)) : CtX l yL_fixing wsL_fixing r_L_fixing E [.ref (eA E a0), .int a1, .ref (eA E a2)] σ (.inr (some (.int r0))) τ0 := by
  refine CtX_ofH (hh := [(0, 9, 12, 15)]) (by decide) rfl hL hJ (Nat.le_of_ble_eq_true rfl) (fun K hE hl hk htb hq => ?_)
  subst hE
  subst hl
  exact w_L_fixing hk hfl htb hq F ln a0 a1 a2 ha0 ha2 σ h
end
